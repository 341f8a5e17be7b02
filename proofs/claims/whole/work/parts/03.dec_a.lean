theorem dX0_init_0 : decode cX0_init 0 = .ok (.aload_n 0, 1) := by decide +kernel
theorem dX0_init_1 : decode cX0_init 1 = .ok (.invokespecial 1, 3) := by decide +kernel
theorem dX0_init_4 : decode cX0_init 4 = .ok (.aload_n 0, 1) := by decide +kernel
theorem dX0_init_5 : decode cX0_init 5 = .ok (.new 7, 3) := by decide +kernel
theorem dX0_init_8 : decode cX0_init 8 = .ok (.dup, 1) := by decide +kernel
theorem dX0_init_9 : decode cX0_init 9 = .ok (.invokespecial 9, 3) := by decide +kernel
theorem dX0_init_12 : decode cX0_init 12 = .ok (.putfield 10, 3) := by decide +kernel
theorem dX0_init_15 : decode cX0_init 15 = .ok (.aload_n 0, 1) := by decide +kernel
theorem dX0_init_16 : decode cX0_init 16 = .ok (.new 16, 3) := by decide +kernel
theorem dX0_init_19 : decode cX0_init 19 = .ok (.dup, 1) := by decide +kernel
theorem dX0_init_20 : decode cX0_init 20 = .ok (.invokespecial 18, 3) := by decide +kernel
theorem dX0_init_23 : decode cX0_init 23 = .ok (.putfield 19, 3) := by decide +kernel
theorem dX0_init_26 : decode cX0_init 26 = .ok (.return_, 1) := by decide +kernel
theorem dX1_init_0 : decode cX1_init 0 = .ok (.aload_n 0, 1) := by decide +kernel
theorem dX1_init_1 : decode cX1_init 1 = .ok (.invokespecial 3, 3) := by decide +kernel
theorem dX1_init_4 : decode cX1_init 4 = .ok (.aload_n 0, 1) := by decide +kernel
theorem dX1_init_5 : decode cX1_init 5 = .ok (.bipush 64, 2) := by decide +kernel
theorem dX1_init_7 : decode cX1_init 7 = .ok (.newarray .int, 2) := by decide +kernel
theorem dX1_init_9 : decode cX1_init 9 = .ok (.putfield 9, 3) := by decide +kernel
theorem dX1_init_12 : decode cX1_init 12 = .ok (.return_, 1) := by decide +kernel
theorem dX1_add_0 : decode cX1_add 0 = .ok (.aload_n 0, 1) := by decide +kernel
theorem dX1_add_1 : decode cX1_add 1 = .ok (.getfield 15, 3) := by decide +kernel
theorem dX1_add_4 : decode cX1_add 4 = .ok (.bipush 64, 2) := by decide +kernel
theorem dX1_add_6 : decode cX1_add 6 = .ok (.if_icmp .ge 23, 3) := by decide +kernel
theorem dX1_add_9 : decode cX1_add 9 = .ok (.aload_n 0, 1) := by decide +kernel
theorem dX1_add_10 : decode cX1_add 10 = .ok (.getfield 9, 3) := by decide +kernel
theorem dX1_add_13 : decode cX1_add 13 = .ok (.aload_n 0, 1) := by decide +kernel
theorem dX1_add_14 : decode cX1_add 14 = .ok (.getfield 15, 3) := by decide +kernel
theorem dX1_add_17 : decode cX1_add 17 = .ok (.iload_n 1, 1) := by decide +kernel
theorem dX1_add_18 : decode cX1_add 18 = .ok (.iastore, 1) := by decide +kernel
theorem dX1_add_19 : decode cX1_add 19 = .ok (.aload_n 0, 1) := by decide +kernel
theorem dX1_add_20 : decode cX1_add 20 = .ok (.dup, 1) := by decide +kernel
theorem dX1_add_21 : decode cX1_add 21 = .ok (.getfield 15, 3) := by decide +kernel
theorem dX1_add_24 : decode cX1_add 24 = .ok (.iconst 1, 1) := by decide +kernel
theorem dX1_add_25 : decode cX1_add 25 = .ok (.iadd, 1) := by decide +kernel
theorem dX1_add_26 : decode cX1_add 26 = .ok (.putfield 15, 3) := by decide +kernel
theorem dX1_add_29 : decode cX1_add 29 = .ok (.return_, 1) := by decide +kernel
theorem dX1_statements_0 : decode cX1_statements 0 = .ok (.aload_n 0, 1) := by decide +kernel
theorem dX1_statements_1 : decode cX1_statements 1 = .ok (.getfield 15, 3) := by decide +kernel
theorem dX1_statements_4 : decode cX1_statements 4 = .ok (.ifCond .ne 7, 3) := by decide +kernel
theorem dX1_statements_7 : decode cX1_statements 7 = .ok (.sipush (-1000), 3) := by decide +kernel
theorem dX1_statements_10 : decode cX1_statements 10 = .ok (.ireturn, 1) := by decide +kernel
theorem dX1_statements_11 : decode cX1_statements 11 = .ok (.iconst 0, 1) := by decide +kernel
theorem dX1_statements_12 : decode cX1_statements 12 = .ok (.istore_n 1, 1) := by decide +kernel
theorem dX1_statements_13 : decode cX1_statements 13 = .ok (.iconst 0, 1) := by decide +kernel
theorem dX1_statements_14 : decode cX1_statements 14 = .ok (.istore_n 2, 1) := by decide +kernel
theorem dX1_statements_15 : decode cX1_statements 15 = .ok (.iconst 0, 1) := by decide +kernel
theorem dX1_statements_16 : decode cX1_statements 16 = .ok (.istore_n 3, 1) := by decide +kernel
theorem dX1_statements_17 : decode cX1_statements 17 = .ok (.iload_n 2, 1) := by decide +kernel
theorem dX1_statements_18 : decode cX1_statements 18 = .ok (.aload_n 0, 1) := by decide +kernel
theorem dX1_statements_19 : decode cX1_statements 19 = .ok (.getfield 15, 3) := by decide +kernel
theorem dX1_statements_22 : decode cX1_statements 22 = .ok (.if_icmp .ge 30, 3) := by decide +kernel
theorem dX1_statements_25 : decode cX1_statements 25 = .ok (.iload_n 3, 1) := by decide +kernel
theorem dX1_statements_26 : decode cX1_statements 26 = .ok (.bipush 64, 2) := by decide +kernel
theorem dX1_statements_28 : decode cX1_statements 28 = .ok (.if_icmp .ge 24, 3) := by decide +kernel
theorem dX1_statements_31 : decode cX1_statements 31 = .ok (.aload_n 0, 1) := by decide +kernel
theorem dX1_statements_32 : decode cX1_statements 32 = .ok (.iload_n 2, 1) := by decide +kernel
theorem dX1_statements_33 : decode cX1_statements 33 = .ok (.invokevirtual 19, 3) := by decide +kernel
theorem dX1_statements_36 : decode cX1_statements 36 = .ok (.istore_n 2, 1) := by decide +kernel
theorem dX1_statements_37 : decode cX1_statements 37 = .ok (.iload_n 2, 1) := by decide +kernel
theorem dX1_statements_38 : decode cX1_statements 38 = .ok (.ifCond .ge 5, 3) := by decide +kernel
theorem dX1_statements_41 : decode cX1_statements 41 = .ok (.iload_n 2, 1) := by decide +kernel
theorem dX1_statements_42 : decode cX1_statements 42 = .ok (.ireturn, 1) := by decide +kernel
theorem dX1_statements_43 : decode cX1_statements 43 = .ok (.iinc 1 1, 3) := by decide +kernel
theorem dX1_statements_46 : decode cX1_statements 46 = .ok (.iinc 3 1, 3) := by decide +kernel
theorem dX1_statements_49 : decode cX1_statements 49 = .ok (.goto (-32), 3) := by decide +kernel
theorem dX1_statements_52 : decode cX1_statements 52 = .ok (.iload_n 1, 1) := by decide +kernel
theorem dX1_statements_53 : decode cX1_statements 53 = .ok (.ireturn, 1) := by decide +kernel
theorem dX1_tellTo_0 : decode cX1_tellTo 0 = .ok (.iconst 0, 1) := by decide +kernel
theorem dX1_tellTo_1 : decode cX1_tellTo 1 = .ok (.istore_n 2, 1) := by decide +kernel
theorem dX1_tellTo_2 : decode cX1_tellTo 2 = .ok (.iconst 0, 1) := by decide +kernel
theorem dX1_tellTo_3 : decode cX1_tellTo 3 = .ok (.istore_n 3, 1) := by decide +kernel
theorem dX1_tellTo_4 : decode cX1_tellTo 4 = .ok (.iconst 0, 1) := by decide +kernel
theorem dX1_tellTo_5 : decode cX1_tellTo 5 = .ok (.istore 4, 2) := by decide +kernel
theorem dX1_tellTo_7 : decode cX1_tellTo 7 = .ok (.iload_n 3, 1) := by decide +kernel
theorem dX1_tellTo_8 : decode cX1_tellTo 8 = .ok (.aload_n 0, 1) := by decide +kernel
theorem dX1_tellTo_9 : decode cX1_tellTo 9 = .ok (.getfield 15, 3) := by decide +kernel
theorem dX1_tellTo_12 : decode cX1_tellTo 12 = .ok (.if_icmp .ge 56, 3) := by decide +kernel
theorem dX1_tellTo_15 : decode cX1_tellTo 15 = .ok (.iload 4, 2) := by decide +kernel
theorem dX1_tellTo_17 : decode cX1_tellTo 17 = .ok (.bipush 64, 2) := by decide +kernel
theorem dX1_tellTo_19 : decode cX1_tellTo 19 = .ok (.if_icmp .ge 49, 3) := by decide +kernel
theorem dX1_tellTo_22 : decode cX1_tellTo 22 = .ok (.aload_n 0, 1) := by decide +kernel
theorem dX1_tellTo_23 : decode cX1_tellTo 23 = .ok (.iload_n 3, 1) := by decide +kernel
theorem dX1_tellTo_24 : decode cX1_tellTo 24 = .ok (.invokevirtual 19, 3) := by decide +kernel
theorem dX1_tellTo_27 : decode cX1_tellTo 27 = .ok (.istore 5, 2) := by decide +kernel
theorem dX1_tellTo_29 : decode cX1_tellTo 29 = .ok (.iload 5, 2) := by decide +kernel
theorem dX1_tellTo_31 : decode cX1_tellTo 31 = .ok (.ifCond .ge 6, 3) := by decide +kernel
theorem dX1_tellTo_34 : decode cX1_tellTo 34 = .ok (.iload 5, 2) := by decide +kernel
theorem dX1_tellTo_36 : decode cX1_tellTo 36 = .ok (.ireturn, 1) := by decide +kernel
theorem dX1_tellTo_37 : decode cX1_tellTo 37 = .ok (.aload_n 0, 1) := by decide +kernel
theorem dX1_tellTo_38 : decode cX1_tellTo 38 = .ok (.aload_n 1, 1) := by decide +kernel
theorem dX1_tellTo_39 : decode cX1_tellTo 39 = .ok (.iload_n 3, 1) := by decide +kernel
theorem dX1_tellTo_40 : decode cX1_tellTo 40 = .ok (.iload 5, 2) := by decide +kernel
theorem dX1_tellTo_42 : decode cX1_tellTo 42 = .ok (.iconst 1, 1) := by decide +kernel
theorem dX1_tellTo_43 : decode cX1_tellTo 43 = .ok (.isub, 1) := by decide +kernel
theorem dX1_tellTo_44 : decode cX1_tellTo 44 = .ok (.invokevirtual 23, 3) := by decide +kernel
theorem dX1_tellTo_47 : decode cX1_tellTo 47 = .ok (.ifCond .ne 9, 3) := by decide +kernel
theorem dX1_tellTo_50 : decode cX1_tellTo 50 = .ok (.sipush (-2000), 3) := by decide +kernel
theorem dX1_tellTo_53 : decode cX1_tellTo 53 = .ok (.iload_n 3, 1) := by decide +kernel
theorem dX1_tellTo_54 : decode cX1_tellTo 54 = .ok (.isub, 1) := by decide +kernel
theorem dX1_tellTo_55 : decode cX1_tellTo 55 = .ok (.ireturn, 1) := by decide +kernel
theorem dX1_tellTo_56 : decode cX1_tellTo 56 = .ok (.iload 5, 2) := by decide +kernel
theorem dX1_tellTo_58 : decode cX1_tellTo 58 = .ok (.istore_n 3, 1) := by decide +kernel
theorem dX1_tellTo_59 : decode cX1_tellTo 59 = .ok (.iinc 2 1, 3) := by decide +kernel
theorem dX1_tellTo_62 : decode cX1_tellTo 62 = .ok (.iinc 4 1, 3) := by decide +kernel
theorem dX1_tellTo_65 : decode cX1_tellTo 65 = .ok (.goto (-58), 3) := by decide +kernel
theorem dX1_tellTo_68 : decode cX1_tellTo 68 = .ok (.iload_n 2, 1) := by decide +kernel
theorem dX1_tellTo_69 : decode cX1_tellTo 69 = .ok (.ireturn, 1) := by decide +kernel
theorem dX1_behind_0 : decode cX1_behind 0 = .ok (.aload_n 0, 1) := by decide +kernel
theorem dX1_behind_1 : decode cX1_behind 1 = .ok (.iload_n 1, 1) := by decide +kernel
theorem dX1_behind_2 : decode cX1_behind 2 = .ok (.invokevirtual 27, 3) := by decide +kernel
theorem dX1_behind_5 : decode cX1_behind 5 = .ok (.istore_n 2, 1) := by decide +kernel
theorem dX1_behind_6 : decode cX1_behind 6 = .ok (.iload_n 2, 1) := by decide +kernel
theorem dX1_behind_7 : decode cX1_behind 7 = .ok (.bipush 116, 2) := by decide +kernel
theorem dX1_behind_9 : decode cX1_behind 9 = .ok (.if_icmp .ne 11, 3) := by decide +kernel
theorem dX1_behind_12 : decode cX1_behind 12 = .ok (.aload_n 0, 1) := by decide +kernel
theorem dX1_behind_13 : decode cX1_behind 13 = .ok (.iload_n 1, 1) := by decide +kernel
theorem dX1_behind_14 : decode cX1_behind 14 = .ok (.invokevirtual 30, 3) := by decide +kernel
theorem dX1_behind_17 : decode cX1_behind 17 = .ok (.goto 12, 3) := by decide +kernel
theorem dX1_behind_20 : decode cX1_behind 20 = .ok (.aload_n 0, 1) := by decide +kernel
theorem dX1_behind_21 : decode cX1_behind 21 = .ok (.iload_n 1, 1) := by decide +kernel
theorem dX1_behind_22 : decode cX1_behind 22 = .ok (.iload_n 2, 1) := by decide +kernel
theorem dX1_behind_23 : decode cX1_behind 23 = .ok (.invokestatic 33, 3) := by decide +kernel
theorem dX1_behind_26 : decode cX1_behind 26 = .ok (.invokevirtual 37, 3) := by decide +kernel
theorem dX1_behind_29 : decode cX1_behind 29 = .ok (.ireturn, 1) := by decide +kernel
theorem dX1_behindTelling_0 : decode cX1_behindTelling 0 = .ok (.iload_n 1, 1) := by decide +kernel
theorem dX1_behindTelling_1 : decode cX1_behindTelling 1 = .ok (.iconst 1, 1) := by decide +kernel
theorem dX1_behindTelling_2 : decode cX1_behindTelling 2 = .ok (.iadd, 1) := by decide +kernel
theorem dX1_behindTelling_3 : decode cX1_behindTelling 3 = .ok (.istore_n 2, 1) := by decide +kernel
theorem dX1_behindTelling_4 : decode cX1_behindTelling 4 = .ok (.iconst 0, 1) := by decide +kernel
theorem dX1_behindTelling_5 : decode cX1_behindTelling 5 = .ok (.istore_n 3, 1) := by decide +kernel
theorem dX1_behindTelling_6 : decode cX1_behindTelling 6 = .ok (.iload_n 3, 1) := by decide +kernel
theorem dX1_behindTelling_7 : decode cX1_behindTelling 7 = .ok (.bipush 8, 2) := by decide +kernel
theorem dX1_behindTelling_9 : decode cX1_behindTelling 9 = .ok (.if_icmp .ge 23, 3) := by decide +kernel
theorem dX1_behindTelling_12 : decode cX1_behindTelling 12 = .ok (.aload_n 0, 1) := by decide +kernel
theorem dX1_behindTelling_13 : decode cX1_behindTelling 13 = .ok (.iload_n 2, 1) := by decide +kernel
theorem dX1_behindTelling_14 : decode cX1_behindTelling 14 = .ok (.invokevirtual 27, 3) := by decide +kernel
theorem dX1_behindTelling_17 : decode cX1_behindTelling 17 = .ok (.invokestatic 41, 3) := by decide +kernel
theorem dX1_behindTelling_20 : decode cX1_behindTelling 20 = .ok (.ifCond .eq 12, 3) := by decide +kernel
theorem dX1_behindTelling_23 : decode cX1_behindTelling 23 = .ok (.iinc 2 1, 3) := by decide +kernel
theorem dX1_behindTelling_26 : decode cX1_behindTelling 26 = .ok (.iinc 3 1, 3) := by decide +kernel
theorem dX1_behindTelling_29 : decode cX1_behindTelling 29 = .ok (.goto (-23), 3) := by decide +kernel
theorem dX1_behindTelling_32 : decode cX1_behindTelling 32 = .ok (.iload_n 2, 1) := by decide +kernel
theorem dX1_behindTelling_33 : decode cX1_behindTelling 33 = .ok (.iload_n 1, 1) := by decide +kernel
theorem dX1_behindTelling_34 : decode cX1_behindTelling 34 = .ok (.iconst 1, 1) := by decide +kernel
theorem dX1_behindTelling_35 : decode cX1_behindTelling 35 = .ok (.iadd, 1) := by decide +kernel
theorem dX1_behindTelling_36 : decode cX1_behindTelling 36 = .ok (.if_icmp .eq 13, 3) := by decide +kernel
theorem dX1_behindTelling_39 : decode cX1_behindTelling 39 = .ok (.aload_n 0, 1) := by decide +kernel
theorem dX1_behindTelling_40 : decode cX1_behindTelling 40 = .ok (.iload_n 2, 1) := by decide +kernel
theorem dX1_behindTelling_41 : decode cX1_behindTelling 41 = .ok (.invokevirtual 27, 3) := by decide +kernel
theorem dX1_behindTelling_44 : decode cX1_behindTelling 44 = .ok (.bipush 59, 2) := by decide +kernel
theorem dX1_behindTelling_46 : decode cX1_behindTelling 46 = .ok (.if_icmp .eq 9, 3) := by decide +kernel
theorem dX1_behindTelling_49 : decode cX1_behindTelling 49 = .ok (.sipush (-1000), 3) := by decide +kernel
theorem dX1_behindTelling_52 : decode cX1_behindTelling 52 = .ok (.iload_n 2, 1) := by decide +kernel
theorem dX1_behindTelling_53 : decode cX1_behindTelling 53 = .ok (.isub, 1) := by decide +kernel
theorem dX1_behindTelling_54 : decode cX1_behindTelling 54 = .ok (.ireturn, 1) := by decide +kernel
theorem dX1_behindTelling_55 : decode cX1_behindTelling 55 = .ok (.iload_n 2, 1) := by decide +kernel
theorem dX1_behindTelling_56 : decode cX1_behindTelling 56 = .ok (.iconst 1, 1) := by decide +kernel
theorem dX1_behindTelling_57 : decode cX1_behindTelling 57 = .ok (.iadd, 1) := by decide +kernel
theorem dX1_behindTelling_58 : decode cX1_behindTelling 58 = .ok (.ireturn, 1) := by decide +kernel
theorem dX1_behindForm_0 : decode cX1_behindForm 0 = .ok (.aload_n 2, 1) := by decide +kernel
theorem dX1_behindForm_1 : decode cX1_behindForm 1 = .ok (.invokevirtual 45, 3) := by decide +kernel
theorem dX1_behindForm_4 : decode cX1_behindForm 4 = .ok (.ifCond .eq 9, 3) := by decide +kernel
theorem dX1_behindForm_7 : decode cX1_behindForm 7 = .ok (.sipush (-1000), 3) := by decide +kernel
theorem dX1_behindForm_10 : decode cX1_behindForm 10 = .ok (.iload_n 1, 1) := by decide +kernel
theorem dX1_behindForm_11 : decode cX1_behindForm 11 = .ok (.isub, 1) := by decide +kernel
theorem dX1_behindForm_12 : decode cX1_behindForm 12 = .ok (.ireturn, 1) := by decide +kernel
theorem dX1_behindForm_13 : decode cX1_behindForm 13 = .ok (.iconst 0, 1) := by decide +kernel
theorem dX1_behindForm_14 : decode cX1_behindForm 14 = .ok (.istore_n 3, 1) := by decide +kernel
theorem dX1_behindForm_15 : decode cX1_behindForm 15 = .ok (.iload_n 3, 1) := by decide +kernel
theorem dX1_behindForm_16 : decode cX1_behindForm 16 = .ok (.aload_n 2, 1) := by decide +kernel
theorem dX1_behindForm_17 : decode cX1_behindForm 17 = .ok (.invokevirtual 51, 3) := by decide +kernel
theorem dX1_behindForm_20 : decode cX1_behindForm 20 = .ok (.if_icmp .ge 40, 3) := by decide +kernel
theorem dX1_behindForm_23 : decode cX1_behindForm 23 = .ok (.iload_n 1, 1) := by decide +kernel
theorem dX1_behindForm_24 : decode cX1_behindForm 24 = .ok (.iconst 1, 1) := by decide +kernel
theorem dX1_behindForm_25 : decode cX1_behindForm 25 = .ok (.iadd, 1) := by decide +kernel
theorem dX1_behindForm_26 : decode cX1_behindForm 26 = .ok (.iload_n 3, 1) := by decide +kernel
theorem dX1_behindForm_27 : decode cX1_behindForm 27 = .ok (.iadd, 1) := by decide +kernel
theorem dX1_behindForm_28 : decode cX1_behindForm 28 = .ok (.istore 4, 2) := by decide +kernel
theorem dX1_behindForm_30 : decode cX1_behindForm 30 = .ok (.aload_n 2, 1) := by decide +kernel
theorem dX1_behindForm_31 : decode cX1_behindForm 31 = .ok (.iload_n 3, 1) := by decide +kernel
theorem dX1_behindForm_32 : decode cX1_behindForm 32 = .ok (.invokevirtual 55, 3) := by decide +kernel
theorem dX1_behindForm_35 : decode cX1_behindForm 35 = .ok (.aload_n 0, 1) := by decide +kernel
theorem dX1_behindForm_36 : decode cX1_behindForm 36 = .ok (.iload 4, 2) := by decide +kernel
theorem dX1_behindForm_38 : decode cX1_behindForm 38 = .ok (.invokevirtual 27, 3) := by decide +kernel
theorem dX1_behindForm_41 : decode cX1_behindForm 41 = .ok (.invokestatic 59, 3) := by decide +kernel
theorem dX1_behindForm_44 : decode cX1_behindForm 44 = .ok (.ifCond .ne 10, 3) := by decide +kernel
theorem dX1_behindForm_47 : decode cX1_behindForm 47 = .ok (.sipush (-1000), 3) := by decide +kernel
theorem dX1_behindForm_50 : decode cX1_behindForm 50 = .ok (.iload 4, 2) := by decide +kernel
theorem dX1_behindForm_52 : decode cX1_behindForm 52 = .ok (.isub, 1) := by decide +kernel
theorem dX1_behindForm_53 : decode cX1_behindForm 53 = .ok (.ireturn, 1) := by decide +kernel
theorem dX1_behindForm_54 : decode cX1_behindForm 54 = .ok (.iinc 3 1, 3) := by decide +kernel
theorem dX1_behindForm_57 : decode cX1_behindForm 57 = .ok (.goto (-42), 3) := by decide +kernel
theorem dX1_behindForm_60 : decode cX1_behindForm 60 = .ok (.iload_n 1, 1) := by decide +kernel
theorem dX1_behindForm_61 : decode cX1_behindForm 61 = .ok (.iconst 1, 1) := by decide +kernel
theorem dX1_behindForm_62 : decode cX1_behindForm 62 = .ok (.iadd, 1) := by decide +kernel
theorem dX1_behindForm_63 : decode cX1_behindForm 63 = .ok (.aload_n 2, 1) := by decide +kernel
theorem dX1_behindForm_64 : decode cX1_behindForm 64 = .ok (.invokevirtual 51, 3) := by decide +kernel
theorem dX1_behindForm_67 : decode cX1_behindForm 67 = .ok (.iadd, 1) := by decide +kernel
theorem dX1_behindForm_68 : decode cX1_behindForm 68 = .ok (.ireturn, 1) := by decide +kernel
theorem dX1_formOf_0 : decode cX1_formOf 0 = .ok (.iload_n 0, 1) := by decide +kernel
theorem dX1_formOf_1 : decode cX1_formOf 1 = .ok (.tableswitch 87 105 119 #[75, 87, 87, 81, 87, 75, 75, 84, 87, 87, 87, 87, 87, 87, 78], 75) := by decide +kernel
theorem dX1_formOf_76 : decode cX1_formOf 76 = .ok (.ldc 63, 2) := by decide +kernel
theorem dX1_formOf_78 : decode cX1_formOf 78 = .ok (.areturn, 1) := by decide +kernel
theorem dX1_formOf_79 : decode cX1_formOf 79 = .ok (.ldc 65, 2) := by decide +kernel
theorem dX1_formOf_81 : decode cX1_formOf 81 = .ok (.areturn, 1) := by decide +kernel
theorem dX1_formOf_82 : decode cX1_formOf 82 = .ok (.ldc 67, 2) := by decide +kernel
theorem dX1_formOf_84 : decode cX1_formOf 84 = .ok (.areturn, 1) := by decide +kernel
theorem dX1_formOf_85 : decode cX1_formOf 85 = .ok (.ldc 69, 2) := by decide +kernel
theorem dX1_formOf_87 : decode cX1_formOf 87 = .ok (.areturn, 1) := by decide +kernel
theorem dX1_formOf_88 : decode cX1_formOf 88 = .ok (.ldc 71, 2) := by decide +kernel
theorem dX1_formOf_90 : decode cX1_formOf 90 = .ok (.areturn, 1) := by decide +kernel
theorem dX1_fits_0 : decode cX1_fits 0 = .ok (.iload_n 0, 1) := by decide +kernel
theorem dX1_fits_1 : decode cX1_fits 1 = .ok (.lookupswitch 45 #[(48, 27), (107, 32)], 27) := by decide +kernel
theorem dX1_fits_28 : decode cX1_fits 28 = .ok (.iload_n 1, 1) := by decide +kernel
theorem dX1_fits_29 : decode cX1_fits 29 = .ok (.invokestatic 41, 3) := by decide +kernel
theorem dX1_fits_32 : decode cX1_fits 32 = .ok (.ireturn, 1) := by decide +kernel
theorem dX1_fits_33 : decode cX1_fits 33 = .ok (.iload_n 1, 1) := by decide +kernel
theorem dX1_fits_34 : decode cX1_fits 34 = .ok (.invokestatic 73, 3) := by decide +kernel
theorem dX1_fits_37 : decode cX1_fits 37 = .ok (.ifCond .lt 7, 3) := by decide +kernel
theorem dX1_fits_40 : decode cX1_fits 40 = .ok (.iconst 1, 1) := by decide +kernel
theorem dX1_fits_41 : decode cX1_fits 41 = .ok (.goto 4, 3) := by decide +kernel
theorem dX1_fits_44 : decode cX1_fits 44 = .ok (.iconst 0, 1) := by decide +kernel
theorem dX1_fits_45 : decode cX1_fits 45 = .ok (.ireturn, 1) := by decide +kernel
theorem dX1_fits_46 : decode cX1_fits 46 = .ok (.iload_n 1, 1) := by decide +kernel
theorem dX1_fits_47 : decode cX1_fits 47 = .ok (.iload_n 0, 1) := by decide +kernel
theorem dX1_fits_48 : decode cX1_fits 48 = .ok (.if_icmp .ne 7, 3) := by decide +kernel
theorem dX1_fits_51 : decode cX1_fits 51 = .ok (.iconst 1, 1) := by decide +kernel
theorem dX1_fits_52 : decode cX1_fits 52 = .ok (.goto 4, 3) := by decide +kernel
theorem dX1_fits_55 : decode cX1_fits 55 = .ok (.iconst 0, 1) := by decide +kernel
theorem dX1_fits_56 : decode cX1_fits 56 = .ok (.ireturn, 1) := by decide +kernel
theorem dX1_tellOne_0 : decode cX1_tellOne 0 = .ok (.aload_n 0, 1) := by decide +kernel
theorem dX1_tellOne_1 : decode cX1_tellOne 1 = .ok (.iload_n 2, 1) := by decide +kernel
theorem dX1_tellOne_2 : decode cX1_tellOne 2 = .ok (.invokevirtual 27, 3) := by decide +kernel
theorem dX1_tellOne_5 : decode cX1_tellOne 5 = .ok (.tableswitch 137 105 119 #[99, 137, 137, 125, 137, 85, 92, 137, 137, 137, 137, 75, 137, 137, 106], 75) := by decide +kernel
theorem dX1_tellOne_80 : decode cX1_tellOne 80 = .ok (.aload_n 0, 1) := by decide +kernel
theorem dX1_tellOne_81 : decode cX1_tellOne 81 = .ok (.aload_n 1, 1) := by decide +kernel
theorem dX1_tellOne_82 : decode cX1_tellOne 82 = .ok (.iload_n 2, 1) := by decide +kernel
theorem dX1_tellOne_83 : decode cX1_tellOne 83 = .ok (.iconst 1, 1) := by decide +kernel
theorem dX1_tellOne_84 : decode cX1_tellOne 84 = .ok (.iadd, 1) := by decide +kernel
theorem dX1_tellOne_85 : decode cX1_tellOne 85 = .ok (.iload_n 3, 1) := by decide +kernel
theorem dX1_tellOne_86 : decode cX1_tellOne 86 = .ok (.invokevirtual 76, 3) := by decide +kernel
theorem dX1_tellOne_89 : decode cX1_tellOne 89 = .ok (.ireturn, 1) := by decide +kernel
theorem dX1_tellOne_90 : decode cX1_tellOne 90 = .ok (.aload_n 1, 1) := by decide +kernel
theorem dX1_tellOne_91 : decode cX1_tellOne 91 = .ok (.iconst 1, 1) := by decide +kernel
theorem dX1_tellOne_92 : decode cX1_tellOne 92 = .ok (.iconst 0, 1) := by decide +kernel
theorem dX1_tellOne_93 : decode cX1_tellOne 93 = .ok (.invokevirtual 79, 3) := by decide +kernel
theorem dX1_tellOne_96 : decode cX1_tellOne 96 = .ok (.ireturn, 1) := by decide +kernel
theorem dX1_tellOne_97 : decode cX1_tellOne 97 = .ok (.aload_n 1, 1) := by decide +kernel
theorem dX1_tellOne_98 : decode cX1_tellOne 98 = .ok (.iconst 2, 1) := by decide +kernel
theorem dX1_tellOne_99 : decode cX1_tellOne 99 = .ok (.iconst 0, 1) := by decide +kernel
theorem dX1_tellOne_100 : decode cX1_tellOne 100 = .ok (.invokevirtual 79, 3) := by decide +kernel
theorem dX1_tellOne_103 : decode cX1_tellOne 103 = .ok (.ireturn, 1) := by decide +kernel
theorem dX1_tellOne_104 : decode cX1_tellOne 104 = .ok (.aload_n 1, 1) := by decide +kernel
theorem dX1_tellOne_105 : decode cX1_tellOne 105 = .ok (.iconst 3, 1) := by decide +kernel
theorem dX1_tellOne_106 : decode cX1_tellOne 106 = .ok (.iconst 0, 1) := by decide +kernel
theorem dX1_tellOne_107 : decode cX1_tellOne 107 = .ok (.invokevirtual 79, 3) := by decide +kernel
theorem dX1_tellOne_110 : decode cX1_tellOne 110 = .ok (.ireturn, 1) := by decide +kernel
theorem dX1_tellOne_111 : decode cX1_tellOne 111 = .ok (.aload_n 1, 1) := by decide +kernel
theorem dX1_tellOne_112 : decode cX1_tellOne 112 = .ok (.aload_n 0, 1) := by decide +kernel
theorem dX1_tellOne_113 : decode cX1_tellOne 113 = .ok (.iload_n 2, 1) := by decide +kernel
theorem dX1_tellOne_114 : decode cX1_tellOne 114 = .ok (.iconst 1, 1) := by decide +kernel
theorem dX1_tellOne_115 : decode cX1_tellOne 115 = .ok (.iadd, 1) := by decide +kernel
theorem dX1_tellOne_116 : decode cX1_tellOne 116 = .ok (.invokevirtual 85, 3) := by decide +kernel
theorem dX1_tellOne_119 : decode cX1_tellOne 119 = .ok (.aload_n 0, 1) := by decide +kernel
theorem dX1_tellOne_120 : decode cX1_tellOne 120 = .ok (.iload_n 2, 1) := by decide +kernel
theorem dX1_tellOne_121 : decode cX1_tellOne 121 = .ok (.iconst 3, 1) := by decide +kernel
theorem dX1_tellOne_122 : decode cX1_tellOne 122 = .ok (.iadd, 1) := by decide +kernel
theorem dX1_tellOne_123 : decode cX1_tellOne 123 = .ok (.invokevirtual 85, 3) := by decide +kernel
theorem dX1_tellOne_126 : decode cX1_tellOne 126 = .ok (.invokevirtual 88, 3) := by decide +kernel
theorem dX1_tellOne_129 : decode cX1_tellOne 129 = .ok (.ireturn, 1) := by decide +kernel
theorem dX1_tellOne_130 : decode cX1_tellOne 130 = .ok (.aload_n 1, 1) := by decide +kernel
theorem dX1_tellOne_131 : decode cX1_tellOne 131 = .ok (.aload_n 0, 1) := by decide +kernel
theorem dX1_tellOne_132 : decode cX1_tellOne 132 = .ok (.iload_n 2, 1) := by decide +kernel
theorem dX1_tellOne_133 : decode cX1_tellOne 133 = .ok (.iconst 1, 1) := by decide +kernel
theorem dX1_tellOne_134 : decode cX1_tellOne 134 = .ok (.iadd, 1) := by decide +kernel
theorem dX1_tellOne_135 : decode cX1_tellOne 135 = .ok (.invokevirtual 85, 3) := by decide +kernel
theorem dX1_tellOne_138 : decode cX1_tellOne 138 = .ok (.invokevirtual 91, 3) := by decide +kernel
theorem dX1_tellOne_141 : decode cX1_tellOne 141 = .ok (.ireturn, 1) := by decide +kernel
theorem dX1_tellOne_142 : decode cX1_tellOne 142 = .ok (.aload_n 1, 1) := by decide +kernel
theorem dX1_tellOne_143 : decode cX1_tellOne 143 = .ok (.aload_n 0, 1) := by decide +kernel
theorem dX1_tellOne_144 : decode cX1_tellOne 144 = .ok (.iload_n 2, 1) := by decide +kernel
theorem dX1_tellOne_145 : decode cX1_tellOne 145 = .ok (.iconst 1, 1) := by decide +kernel
theorem dX1_tellOne_146 : decode cX1_tellOne 146 = .ok (.iadd, 1) := by decide +kernel
theorem dX1_tellOne_147 : decode cX1_tellOne 147 = .ok (.invokevirtual 27, 3) := by decide +kernel
theorem dX1_tellOne_150 : decode cX1_tellOne 150 = .ok (.invokestatic 73, 3) := by decide +kernel
theorem dX1_tellOne_153 : decode cX1_tellOne 153 = .ok (.invokevirtual 94, 3) := by decide +kernel
theorem dX1_tellOne_156 : decode cX1_tellOne 156 = .ok (.ireturn, 1) := by decide +kernel
theorem dX1_tellWord_0 : decode cX1_tellWord 0 = .ok (.iconst 0, 1) := by decide +kernel
theorem dX1_tellWord_1 : decode cX1_tellWord 1 = .ok (.istore 4, 2) := by decide +kernel
theorem dX1_tellWord_3 : decode cX1_tellWord 3 = .ok (.iconst (-1), 1) := by decide +kernel
theorem dX1_tellWord_4 : decode cX1_tellWord 4 = .ok (.istore 5, 2) := by decide +kernel
theorem dX1_tellWord_6 : decode cX1_tellWord 6 = .ok (.iload_n 2, 1) := by decide +kernel
theorem dX1_tellWord_7 : decode cX1_tellWord 7 = .ok (.istore 6, 2) := by decide +kernel
theorem dX1_tellWord_9 : decode cX1_tellWord 9 = .ok (.iload 6, 2) := by decide +kernel
theorem dX1_tellWord_11 : decode cX1_tellWord 11 = .ok (.iload_n 3, 1) := by decide +kernel
theorem dX1_tellWord_12 : decode cX1_tellWord 12 = .ok (.if_icmp .ge 47, 3) := by decide +kernel
theorem dX1_tellWord_15 : decode cX1_tellWord 15 = .ok (.aload_n 0, 1) := by decide +kernel
theorem dX1_tellWord_16 : decode cX1_tellWord 16 = .ok (.iload 6, 2) := by decide +kernel
theorem dX1_tellWord_18 : decode cX1_tellWord 18 = .ok (.invokevirtual 85, 3) := by decide +kernel
theorem dX1_tellWord_21 : decode cX1_tellWord 21 = .ok (.istore 7, 2) := by decide +kernel
theorem dX1_tellWord_23 : decode cX1_tellWord 23 = .ok (.iload 7, 2) := by decide +kernel
theorem dX1_tellWord_25 : decode cX1_tellWord 25 = .ok (.iload 5, 2) := by decide +kernel
theorem dX1_tellWord_27 : decode cX1_tellWord 27 = .ok (.if_icmp .le 11, 3) := by decide +kernel
theorem dX1_tellWord_30 : decode cX1_tellWord 30 = .ok (.iload 7, 2) := by decide +kernel
theorem dX1_tellWord_32 : decode cX1_tellWord 32 = .ok (.invokestatic 97, 3) := by decide +kernel
theorem dX1_tellWord_35 : decode cX1_tellWord 35 = .ok (.ifCond .ne 5, 3) := by decide +kernel
theorem dX1_tellWord_38 : decode cX1_tellWord 38 = .ok (.iconst 0, 1) := by decide +kernel
theorem dX1_tellWord_39 : decode cX1_tellWord 39 = .ok (.ireturn, 1) := by decide +kernel
theorem dX1_tellWord_40 : decode cX1_tellWord 40 = .ok (.iload 4, 2) := by decide +kernel
theorem dX1_tellWord_42 : decode cX1_tellWord 42 = .ok (.iconst 1, 1) := by decide +kernel
theorem dX1_tellWord_43 : decode cX1_tellWord 43 = .ok (.iload 7, 2) := by decide +kernel
theorem dX1_tellWord_45 : decode cX1_tellWord 45 = .ok (.ishl, 1) := by decide +kernel
theorem dX1_tellWord_46 : decode cX1_tellWord 46 = .ok (.ior, 1) := by decide +kernel
theorem dX1_tellWord_47 : decode cX1_tellWord 47 = .ok (.istore 4, 2) := by decide +kernel
theorem dX1_tellWord_49 : decode cX1_tellWord 49 = .ok (.iload 7, 2) := by decide +kernel
theorem dX1_tellWord_51 : decode cX1_tellWord 51 = .ok (.istore 5, 2) := by decide +kernel
theorem dX1_tellWord_53 : decode cX1_tellWord 53 = .ok (.iinc 6 1, 3) := by decide +kernel
theorem dX1_tellWord_56 : decode cX1_tellWord 56 = .ok (.goto (-47), 3) := by decide +kernel
theorem dX1_tellWord_59 : decode cX1_tellWord 59 = .ok (.aload_n 1, 1) := by decide +kernel
theorem dX1_tellWord_60 : decode cX1_tellWord 60 = .ok (.iconst 0, 1) := by decide +kernel
theorem dX1_tellWord_61 : decode cX1_tellWord 61 = .ok (.iload 4, 2) := by decide +kernel
theorem dX1_tellWord_63 : decode cX1_tellWord 63 = .ok (.invokevirtual 79, 3) := by decide +kernel
theorem dX1_tellWord_66 : decode cX1_tellWord 66 = .ok (.ireturn, 1) := by decide +kernel
theorem dX1_sign_0 : decode cX1_sign 0 = .ok (.iload_n 1, 1) := by decide +kernel
theorem dX1_sign_1 : decode cX1_sign 1 = .ok (.ifCond .lt 20, 3) := by decide +kernel
theorem dX1_sign_4 : decode cX1_sign 4 = .ok (.iload_n 1, 1) := by decide +kernel
theorem dX1_sign_5 : decode cX1_sign 5 = .ok (.aload_n 0, 1) := by decide +kernel
theorem dX1_sign_6 : decode cX1_sign 6 = .ok (.getfield 15, 3) := by decide +kernel
theorem dX1_sign_9 : decode cX1_sign 9 = .ok (.if_icmp .ge 12, 3) := by decide +kernel
theorem dX1_sign_12 : decode cX1_sign 12 = .ok (.aload_n 0, 1) := by decide +kernel
theorem dX1_sign_13 : decode cX1_sign 13 = .ok (.getfield 9, 3) := by decide +kernel
theorem dX1_sign_16 : decode cX1_sign 16 = .ok (.iload_n 1, 1) := by decide +kernel
theorem dX1_sign_17 : decode cX1_sign 17 = .ok (.iaload, 1) := by decide +kernel
theorem dX1_sign_18 : decode cX1_sign 18 = .ok (.goto 4, 3) := by decide +kernel
theorem dX1_sign_21 : decode cX1_sign 21 = .ok (.iconst (-1), 1) := by decide +kernel
theorem dX1_sign_22 : decode cX1_sign 22 = .ok (.ireturn, 1) := by decide +kernel
theorem dX1_digit_0 : decode cX1_digit 0 = .ok (.aload_n 0, 1) := by decide +kernel
theorem dX1_digit_1 : decode cX1_digit 1 = .ok (.iload_n 1, 1) := by decide +kernel
theorem dX1_digit_2 : decode cX1_digit 2 = .ok (.invokevirtual 27, 3) := by decide +kernel
theorem dX1_digit_5 : decode cX1_digit 5 = .ok (.bipush 48, 2) := by decide +kernel
theorem dX1_digit_7 : decode cX1_digit 7 = .ok (.isub, 1) := by decide +kernel
theorem dX1_digit_8 : decode cX1_digit 8 = .ok (.ireturn, 1) := by decide +kernel
theorem dX1_isDigit_0 : decode cX1_isDigit 0 = .ok (.iload_n 0, 1) := by decide +kernel
theorem dX1_isDigit_1 : decode cX1_isDigit 1 = .ok (.bipush 48, 2) := by decide +kernel
theorem dX1_isDigit_3 : decode cX1_isDigit 3 = .ok (.if_icmp .lt 13, 3) := by decide +kernel
theorem dX1_isDigit_6 : decode cX1_isDigit 6 = .ok (.iload_n 0, 1) := by decide +kernel
theorem dX1_isDigit_7 : decode cX1_isDigit 7 = .ok (.bipush 57, 2) := by decide +kernel
theorem dX1_isDigit_9 : decode cX1_isDigit 9 = .ok (.if_icmp .gt 7, 3) := by decide +kernel
theorem dX1_isDigit_12 : decode cX1_isDigit 12 = .ok (.iconst 1, 1) := by decide +kernel
theorem dX1_isDigit_13 : decode cX1_isDigit 13 = .ok (.goto 4, 3) := by decide +kernel
theorem dX1_isDigit_16 : decode cX1_isDigit 16 = .ok (.iconst 0, 1) := by decide +kernel
theorem dX1_isDigit_17 : decode cX1_isDigit 17 = .ok (.ireturn, 1) := by decide +kernel
theorem dX1_talkerOf_0 : decode cX1_talkerOf 0 = .ok (.iload_n 0, 1) := by decide +kernel
theorem dX1_talkerOf_1 : decode cX1_talkerOf 1 = .ok (.ifCond .ge 7, 3) := by decide +kernel
theorem dX1_talkerOf_4 : decode cX1_talkerOf 4 = .ok (.iconst (-1), 1) := by decide +kernel
theorem dX1_talkerOf_5 : decode cX1_talkerOf 5 = .ok (.goto 10, 3) := by decide +kernel
theorem dX1_talkerOf_8 : decode cX1_talkerOf 8 = .ok (.ldc 100, 2) := by decide +kernel
theorem dX1_talkerOf_10 : decode cX1_talkerOf 10 = .ok (.iload_n 0, 1) := by decide +kernel
theorem dX1_talkerOf_11 : decode cX1_talkerOf 11 = .ok (.i2c, 1) := by decide +kernel
theorem dX1_talkerOf_12 : decode cX1_talkerOf 12 = .ok (.invokevirtual 102, 3) := by decide +kernel
theorem dX1_talkerOf_15 : decode cX1_talkerOf 15 = .ok (.ireturn, 1) := by decide +kernel
theorem dX2_init_0 : decode cX2_init 0 = .ok (.aload_n 0, 1) := by decide +kernel
theorem dX2_init_1 : decode cX2_init 1 = .ok (.invokespecial 3, 3) := by decide +kernel
theorem dX2_init_4 : decode cX2_init 4 = .ok (.aload_n 0, 1) := by decide +kernel
theorem dX2_init_5 : decode cX2_init 5 = .ok (.bipush 6, 2) := by decide +kernel
theorem dX2_init_7 : decode cX2_init 7 = .ok (.newarray .int, 2) := by decide +kernel
theorem dX2_init_9 : decode cX2_init 9 = .ok (.putfield 9, 3) := by decide +kernel
theorem dX2_init_12 : decode cX2_init 12 = .ok (.return_, 1) := by decide +kernel
theorem dX2_add_0 : decode cX2_add 0 = .ok (.aload_n 0, 1) := by decide +kernel
theorem dX2_add_1 : decode cX2_add 1 = .ok (.getfield 15, 3) := by decide +kernel
theorem dX2_add_4 : decode cX2_add 4 = .ok (.bipush 6, 2) := by decide +kernel
theorem dX2_add_6 : decode cX2_add 6 = .ok (.if_icmp .ge 23, 3) := by decide +kernel
theorem dX2_add_9 : decode cX2_add 9 = .ok (.aload_n 0, 1) := by decide +kernel
theorem dX2_add_10 : decode cX2_add 10 = .ok (.getfield 9, 3) := by decide +kernel
theorem dX2_add_13 : decode cX2_add 13 = .ok (.aload_n 0, 1) := by decide +kernel
theorem dX2_add_14 : decode cX2_add 14 = .ok (.getfield 15, 3) := by decide +kernel
theorem dX2_add_17 : decode cX2_add 17 = .ok (.iload_n 1, 1) := by decide +kernel
theorem dX2_add_18 : decode cX2_add 18 = .ok (.iastore, 1) := by decide +kernel
theorem dX2_add_19 : decode cX2_add 19 = .ok (.aload_n 0, 1) := by decide +kernel
theorem dX2_add_20 : decode cX2_add 20 = .ok (.dup, 1) := by decide +kernel
theorem dX2_add_21 : decode cX2_add 21 = .ok (.getfield 15, 3) := by decide +kernel
theorem dX2_add_24 : decode cX2_add 24 = .ok (.iconst 1, 1) := by decide +kernel
theorem dX2_add_25 : decode cX2_add 25 = .ok (.iadd, 1) := by decide +kernel
theorem dX2_add_26 : decode cX2_add 26 = .ok (.putfield 15, 3) := by decide +kernel
theorem dX2_add_29 : decode cX2_add 29 = .ok (.return_, 1) := by decide +kernel
theorem dX2_sense_0 : decode cX2_sense 0 = .ok (.sipush 255, 3) := by decide +kernel
theorem dX2_sense_3 : decode cX2_sense 3 = .ok (.istore_n 2, 1) := by decide +kernel
theorem dX2_sense_4 : decode cX2_sense 4 = .ok (.iconst 0, 1) := by decide +kernel
theorem dX2_sense_5 : decode cX2_sense 5 = .ok (.istore_n 3, 1) := by decide +kernel
theorem dX2_sense_6 : decode cX2_sense 6 = .ok (.iload_n 3, 1) := by decide +kernel
theorem dX2_sense_7 : decode cX2_sense 7 = .ok (.aload_n 0, 1) := by decide +kernel
theorem dX2_sense_8 : decode cX2_sense 8 = .ok (.getfield 15, 3) := by decide +kernel
theorem dX2_sense_11 : decode cX2_sense 11 = .ok (.if_icmp .ge 27, 3) := by decide +kernel
theorem dX2_sense_14 : decode cX2_sense 14 = .ok (.iload_n 3, 1) := by decide +kernel
theorem dX2_sense_15 : decode cX2_sense 15 = .ok (.bipush 6, 2) := by decide +kernel
theorem dX2_sense_17 : decode cX2_sense 17 = .ok (.if_icmp .ge 21, 3) := by decide +kernel
theorem dX2_sense_20 : decode cX2_sense 20 = .ok (.aload_n 1, 1) := by decide +kernel
theorem dX2_sense_21 : decode cX2_sense 21 = .ok (.iload_n 2, 1) := by decide +kernel
theorem dX2_sense_22 : decode cX2_sense 22 = .ok (.aload_n 0, 1) := by decide +kernel
theorem dX2_sense_23 : decode cX2_sense 23 = .ok (.getfield 9, 3) := by decide +kernel
theorem dX2_sense_26 : decode cX2_sense 26 = .ok (.iload_n 3, 1) := by decide +kernel
theorem dX2_sense_27 : decode cX2_sense 27 = .ok (.iaload, 1) := by decide +kernel
theorem dX2_sense_28 : decode cX2_sense 28 = .ok (.invokevirtual 21, 3) := by decide +kernel
theorem dX2_sense_31 : decode cX2_sense 31 = .ok (.istore_n 2, 1) := by decide +kernel
theorem dX2_sense_32 : decode cX2_sense 32 = .ok (.iinc 3 1, 3) := by decide +kernel
theorem dX2_sense_35 : decode cX2_sense 35 = .ok (.goto (-29), 3) := by decide +kernel
theorem dX2_sense_38 : decode cX2_sense 38 = .ok (.iload_n 2, 1) := by decide +kernel
theorem dX2_sense_39 : decode cX2_sense 39 = .ok (.ireturn, 1) := by decide +kernel
theorem dX3_init_0 : decode cX3_init 0 = .ok (.aload_n 0, 1) := by decide +kernel
theorem dX3_init_1 : decode cX3_init 1 = .ok (.invokespecial 3, 3) := by decide +kernel
theorem dX3_init_4 : decode cX3_init 4 = .ok (.aload_n 0, 1) := by decide +kernel
theorem dX3_init_5 : decode cX3_init 5 = .ok (.sipush 585, 3) := by decide +kernel
theorem dX3_init_8 : decode cX3_init 8 = .ok (.newarray .int, 2) := by decide +kernel
theorem dX3_init_10 : decode cX3_init 10 = .ok (.putfield 11, 3) := by decide +kernel
theorem dX3_init_13 : decode cX3_init 13 = .ok (.aload_n 0, 1) := by decide +kernel
theorem dX3_init_14 : decode cX3_init 14 = .ok (.sipush 585, 3) := by decide +kernel
theorem dX3_init_17 : decode cX3_init 17 = .ok (.newarray .int, 2) := by decide +kernel
theorem dX3_init_19 : decode cX3_init 19 = .ok (.putfield 15, 3) := by decide +kernel
theorem dX3_init_22 : decode cX3_init 22 = .ok (.aload_n 0, 1) := by decide +kernel
theorem dX3_init_23 : decode cX3_init 23 = .ok (.sipush 585, 3) := by decide +kernel
theorem dX3_init_26 : decode cX3_init 26 = .ok (.newarray .int, 2) := by decide +kernel
theorem dX3_init_28 : decode cX3_init 28 = .ok (.putfield 18, 3) := by decide +kernel
theorem dX3_init_31 : decode cX3_init 31 = .ok (.aload_n 0, 1) := by decide +kernel
theorem dX3_init_32 : decode cX3_init 32 = .ok (.sipush 585, 3) := by decide +kernel
theorem dX3_init_35 : decode cX3_init 35 = .ok (.newarray .int, 2) := by decide +kernel
theorem dX3_init_37 : decode cX3_init 37 = .ok (.putfield 21, 3) := by decide +kernel
theorem dX3_init_40 : decode cX3_init 40 = .ok (.aload_n 0, 1) := by decide +kernel
theorem dX3_init_41 : decode cX3_init 41 = .ok (.sipush 585, 3) := by decide +kernel
theorem dX3_init_44 : decode cX3_init 44 = .ok (.newarray .int, 2) := by decide +kernel
theorem dX3_init_46 : decode cX3_init 46 = .ok (.putfield 24, 3) := by decide +kernel
theorem dX3_init_49 : decode cX3_init 49 = .ok (.aload_n 0, 1) := by decide +kernel
theorem dX3_init_50 : decode cX3_init 50 = .ok (.sipush 2560, 3) := by decide +kernel
theorem dX3_init_53 : decode cX3_init 53 = .ok (.newarray .int, 2) := by decide +kernel
theorem dX3_init_55 : decode cX3_init 55 = .ok (.putfield 27, 3) := by decide +kernel
theorem dX3_init_58 : decode cX3_init 58 = .ok (.aload_n 0, 1) := by decide +kernel
theorem dX3_init_59 : decode cX3_init 59 = .ok (.sipush 585, 3) := by decide +kernel
theorem dX3_init_62 : decode cX3_init 62 = .ok (.newarray .int, 2) := by decide +kernel
theorem dX3_init_64 : decode cX3_init 64 = .ok (.putfield 30, 3) := by decide +kernel
theorem dX3_init_67 : decode cX3_init 67 = .ok (.aload_n 0, 1) := by decide +kernel
theorem dX3_init_68 : decode cX3_init 68 = .ok (.sipush 256, 3) := by decide +kernel
theorem dX3_init_71 : decode cX3_init 71 = .ok (.newarray .int, 2) := by decide +kernel
theorem dX3_init_73 : decode cX3_init 73 = .ok (.putfield 33, 3) := by decide +kernel
theorem dX3_init_76 : decode cX3_init 76 = .ok (.aload_n 0, 1) := by decide +kernel
theorem dX3_init_77 : decode cX3_init 77 = .ok (.bipush 25, 2) := by decide +kernel
theorem dX3_init_79 : decode cX3_init 79 = .ok (.newarray .int, 2) := by decide +kernel
theorem dX3_init_81 : decode cX3_init 81 = .ok (.putfield 36, 3) := by decide +kernel
theorem dX3_init_84 : decode cX3_init 84 = .ok (.aload_n 0, 1) := by decide +kernel
theorem dX3_init_85 : decode cX3_init 85 = .ok (.bipush 25, 2) := by decide +kernel
theorem dX3_init_87 : decode cX3_init 87 = .ok (.newarray .int, 2) := by decide +kernel
theorem dX3_init_89 : decode cX3_init 89 = .ok (.putfield 39, 3) := by decide +kernel
theorem dX3_init_92 : decode cX3_init 92 = .ok (.aload_n 0, 1) := by decide +kernel
theorem dX3_init_93 : decode cX3_init 93 = .ok (.aload_n 1, 1) := by decide +kernel
theorem dX3_init_94 : decode cX3_init 94 = .ok (.putfield 42, 3) := by decide +kernel
theorem dX3_init_97 : decode cX3_init 97 = .ok (.aload_n 0, 1) := by decide +kernel
theorem dX3_init_98 : decode cX3_init 98 = .ok (.iload_n 2, 1) := by decide +kernel
theorem dX3_init_99 : decode cX3_init 99 = .ok (.putfield 46, 3) := by decide +kernel
theorem dX3_init_102 : decode cX3_init 102 = .ok (.return_, 1) := by decide +kernel
theorem dX3_answerTo_0 : decode cX3_answerTo 0 = .ok (.aload_n 0, 1) := by decide +kernel
theorem dX3_answerTo_1 : decode cX3_answerTo 1 = .ok (.invokevirtual 50, 3) := by decide +kernel
theorem dX3_answerTo_4 : decode cX3_answerTo 4 = .ok (.aload_n 0, 1) := by decide +kernel
theorem dX3_answerTo_5 : decode cX3_answerTo 5 = .ok (.iload_n 1, 1) := by decide +kernel
theorem dX3_answerTo_6 : decode cX3_answerTo 6 = .ok (.aload_n 0, 1) := by decide +kernel
theorem dX3_answerTo_7 : decode cX3_answerTo 7 = .ok (.getfield 42, 3) := by decide +kernel
theorem dX3_answerTo_10 : decode cX3_answerTo 10 = .ok (.getfield 53, 3) := by decide +kernel
theorem dX3_answerTo_13 : decode cX3_answerTo 13 = .ok (.invokevirtual 58, 3) := by decide +kernel
theorem dX3_answerTo_16 : decode cX3_answerTo 16 = .ok (.aload_n 0, 1) := by decide +kernel
theorem dX3_answerTo_17 : decode cX3_answerTo 17 = .ok (.iload_n 2, 1) := by decide +kernel
theorem dX3_answerTo_18 : decode cX3_answerTo 18 = .ok (.iload_n 3, 1) := by decide +kernel
theorem dX3_answerTo_19 : decode cX3_answerTo 19 = .ok (.invokevirtual 62, 3) := by decide +kernel
theorem dX3_answerTo_22 : decode cX3_answerTo 22 = .ok (.istore 4, 2) := by decide +kernel
theorem dX3_answerTo_24 : decode cX3_answerTo 24 = .ok (.iload 4, 2) := by decide +kernel
theorem dX3_answerTo_26 : decode cX3_answerTo 26 = .ok (.ifCond .ge 7, 3) := by decide +kernel
theorem dX3_answerTo_29 : decode cX3_answerTo 29 = .ok (.iconst (-1), 1) := by decide +kernel
theorem dX3_answerTo_30 : decode cX3_answerTo 30 = .ok (.goto 10, 3) := by decide +kernel
theorem dX3_answerTo_33 : decode cX3_answerTo 33 = .ok (.aload_n 0, 1) := by decide +kernel
theorem dX3_answerTo_34 : decode cX3_answerTo 34 = .ok (.getfield 18, 3) := by decide +kernel
theorem dX3_answerTo_37 : decode cX3_answerTo 37 = .ok (.iload 4, 2) := by decide +kernel
theorem dX3_answerTo_39 : decode cX3_answerTo 39 = .ok (.iaload, 1) := by decide +kernel
theorem dX3_answerTo_40 : decode cX3_answerTo 40 = .ok (.ireturn, 1) := by decide +kernel
theorem dX3_howManyAnswer_0 : decode cX3_howManyAnswer 0 = .ok (.aload_n 0, 1) := by decide +kernel
theorem dX3_howManyAnswer_1 : decode cX3_howManyAnswer 1 = .ok (.invokevirtual 50, 3) := by decide +kernel
theorem dX3_howManyAnswer_4 : decode cX3_howManyAnswer 4 = .ok (.aload_n 0, 1) := by decide +kernel
theorem dX3_howManyAnswer_5 : decode cX3_howManyAnswer 5 = .ok (.iload_n 1, 1) := by decide +kernel
theorem dX3_howManyAnswer_6 : decode cX3_howManyAnswer 6 = .ok (.aload_n 0, 1) := by decide +kernel
theorem dX3_howManyAnswer_7 : decode cX3_howManyAnswer 7 = .ok (.getfield 42, 3) := by decide +kernel
theorem dX3_howManyAnswer_10 : decode cX3_howManyAnswer 10 = .ok (.getfield 53, 3) := by decide +kernel
theorem dX3_howManyAnswer_13 : decode cX3_howManyAnswer 13 = .ok (.invokevirtual 58, 3) := by decide +kernel
theorem dX3_howManyAnswer_16 : decode cX3_howManyAnswer 16 = .ok (.iconst 0, 1) := by decide +kernel
theorem dX3_howManyAnswer_17 : decode cX3_howManyAnswer 17 = .ok (.istore_n 3, 1) := by decide +kernel
theorem dX3_howManyAnswer_18 : decode cX3_howManyAnswer 18 = .ok (.iconst 0, 1) := by decide +kernel
theorem dX3_howManyAnswer_19 : decode cX3_howManyAnswer 19 = .ok (.istore 4, 2) := by decide +kernel
theorem dX3_howManyAnswer_21 : decode cX3_howManyAnswer 21 = .ok (.iload 4, 2) := by decide +kernel
theorem dX3_howManyAnswer_23 : decode cX3_howManyAnswer 23 = .ok (.aload_n 0, 1) := by decide +kernel
theorem dX3_howManyAnswer_24 : decode cX3_howManyAnswer 24 = .ok (.getfield 66, 3) := by decide +kernel
theorem dX3_howManyAnswer_27 : decode cX3_howManyAnswer 27 = .ok (.if_icmp .ge 39, 3) := by decide +kernel
theorem dX3_howManyAnswer_30 : decode cX3_howManyAnswer 30 = .ok (.aload_n 0, 1) := by decide +kernel
theorem dX3_howManyAnswer_31 : decode cX3_howManyAnswer 31 = .ok (.aload_n 0, 1) := by decide +kernel
theorem dX3_howManyAnswer_32 : decode cX3_howManyAnswer 32 = .ok (.getfield 30, 3) := by decide +kernel
theorem dX3_howManyAnswer_35 : decode cX3_howManyAnswer 35 = .ok (.iload 4, 2) := by decide +kernel
theorem dX3_howManyAnswer_37 : decode cX3_howManyAnswer 37 = .ok (.iaload, 1) := by decide +kernel
theorem dX3_howManyAnswer_38 : decode cX3_howManyAnswer 38 = .ok (.iload_n 2, 1) := by decide +kernel
theorem dX3_howManyAnswer_39 : decode cX3_howManyAnswer 39 = .ok (.invokevirtual 69, 3) := by decide +kernel
theorem dX3_howManyAnswer_42 : decode cX3_howManyAnswer 42 = .ok (.ifCond .eq 18, 3) := by decide +kernel
theorem dX3_howManyAnswer_45 : decode cX3_howManyAnswer 45 = .ok (.iload_n 3, 1) := by decide +kernel
theorem dX3_howManyAnswer_46 : decode cX3_howManyAnswer 46 = .ok (.aload_n 0, 1) := by decide +kernel
theorem dX3_howManyAnswer_47 : decode cX3_howManyAnswer 47 = .ok (.getfield 21, 3) := by decide +kernel
theorem dX3_howManyAnswer_50 : decode cX3_howManyAnswer 50 = .ok (.aload_n 0, 1) := by decide +kernel
theorem dX3_howManyAnswer_51 : decode cX3_howManyAnswer 51 = .ok (.getfield 30, 3) := by decide +kernel
theorem dX3_howManyAnswer_54 : decode cX3_howManyAnswer 54 = .ok (.iload 4, 2) := by decide +kernel
theorem dX3_howManyAnswer_56 : decode cX3_howManyAnswer 56 = .ok (.iaload, 1) := by decide +kernel
theorem dX3_howManyAnswer_57 : decode cX3_howManyAnswer 57 = .ok (.iaload, 1) := by decide +kernel
theorem dX3_howManyAnswer_58 : decode cX3_howManyAnswer 58 = .ok (.iadd, 1) := by decide +kernel
theorem dX3_howManyAnswer_59 : decode cX3_howManyAnswer 59 = .ok (.istore_n 3, 1) := by decide +kernel
theorem dX3_howManyAnswer_60 : decode cX3_howManyAnswer 60 = .ok (.iinc 4 1, 3) := by decide +kernel
theorem dX3_howManyAnswer_63 : decode cX3_howManyAnswer 63 = .ok (.goto (-42), 3) := by decide +kernel
theorem dX3_howManyAnswer_66 : decode cX3_howManyAnswer 66 = .ok (.iload_n 3, 1) := by decide +kernel
theorem dX3_howManyAnswer_67 : decode cX3_howManyAnswer 67 = .ok (.ireturn, 1) := by decide +kernel
theorem dX3_casesLeftBy_0 : decode cX3_casesLeftBy 0 = .ok (.aload_n 0, 1) := by decide +kernel
theorem dX3_casesLeftBy_1 : decode cX3_casesLeftBy 1 = .ok (.invokevirtual 50, 3) := by decide +kernel
theorem dX3_casesLeftBy_4 : decode cX3_casesLeftBy 4 = .ok (.aload_n 0, 1) := by decide +kernel
theorem dX3_casesLeftBy_5 : decode cX3_casesLeftBy 5 = .ok (.iload_n 1, 1) := by decide +kernel
theorem dX3_casesLeftBy_6 : decode cX3_casesLeftBy 6 = .ok (.aload_n 0, 1) := by decide +kernel
theorem dX3_casesLeftBy_7 : decode cX3_casesLeftBy 7 = .ok (.getfield 42, 3) := by decide +kernel
theorem dX3_casesLeftBy_10 : decode cX3_casesLeftBy 10 = .ok (.getfield 53, 3) := by decide +kernel
theorem dX3_casesLeftBy_13 : decode cX3_casesLeftBy 13 = .ok (.invokevirtual 58, 3) := by decide +kernel
theorem dX3_casesLeftBy_16 : decode cX3_casesLeftBy 16 = .ok (.aload_n 0, 1) := by decide +kernel
theorem dX3_casesLeftBy_17 : decode cX3_casesLeftBy 17 = .ok (.iload_n 2, 1) := by decide +kernel
theorem dX3_casesLeftBy_18 : decode cX3_casesLeftBy 18 = .ok (.iload_n 3, 1) := by decide +kernel
theorem dX3_casesLeftBy_19 : decode cX3_casesLeftBy 19 = .ok (.invokevirtual 62, 3) := by decide +kernel
theorem dX3_casesLeftBy_22 : decode cX3_casesLeftBy 22 = .ok (.istore 4, 2) := by decide +kernel
theorem dX3_casesLeftBy_24 : decode cX3_casesLeftBy 24 = .ok (.iload 4, 2) := by decide +kernel
theorem dX3_casesLeftBy_26 : decode cX3_casesLeftBy 26 = .ok (.ifCond .ge 9, 3) := by decide +kernel
theorem dX3_casesLeftBy_29 : decode cX3_casesLeftBy 29 = .ok (.sipush 255, 3) := by decide +kernel
theorem dX3_casesLeftBy_32 : decode cX3_casesLeftBy 32 = .ok (.goto 13, 3) := by decide +kernel
theorem dX3_casesLeftBy_35 : decode cX3_casesLeftBy 35 = .ok (.aload_n 0, 1) := by decide +kernel
theorem dX3_casesLeftBy_36 : decode cX3_casesLeftBy 36 = .ok (.getfield 15, 3) := by decide +kernel
theorem dX3_casesLeftBy_39 : decode cX3_casesLeftBy 39 = .ok (.iload 4, 2) := by decide +kernel
theorem dX3_casesLeftBy_41 : decode cX3_casesLeftBy 41 = .ok (.iaload, 1) := by decide +kernel
theorem dX3_casesLeftBy_42 : decode cX3_casesLeftBy 42 = .ok (.invokestatic 73, 3) := by decide +kernel
theorem dX3_casesLeftBy_45 : decode cX3_casesLeftBy 45 = .ok (.ireturn, 1) := by decide +kernel
theorem dX3_casesAnsweredBy_0 : decode cX3_casesAnsweredBy 0 = .ok (.aload_n 0, 1) := by decide +kernel
theorem dX3_casesAnsweredBy_1 : decode cX3_casesAnsweredBy 1 = .ok (.invokevirtual 50, 3) := by decide +kernel
theorem dX3_casesAnsweredBy_4 : decode cX3_casesAnsweredBy 4 = .ok (.aload_n 0, 1) := by decide +kernel
theorem dX3_casesAnsweredBy_5 : decode cX3_casesAnsweredBy 5 = .ok (.iload_n 2, 1) := by decide +kernel
theorem dX3_casesAnsweredBy_6 : decode cX3_casesAnsweredBy 6 = .ok (.aload_n 0, 1) := by decide +kernel
theorem dX3_casesAnsweredBy_7 : decode cX3_casesAnsweredBy 7 = .ok (.getfield 42, 3) := by decide +kernel
theorem dX3_casesAnsweredBy_10 : decode cX3_casesAnsweredBy 10 = .ok (.getfield 53, 3) := by decide +kernel
theorem dX3_casesAnsweredBy_13 : decode cX3_casesAnsweredBy 13 = .ok (.invokevirtual 58, 3) := by decide +kernel
theorem dX3_casesAnsweredBy_16 : decode cX3_casesAnsweredBy 16 = .ok (.iconst 0, 1) := by decide +kernel
theorem dX3_casesAnsweredBy_17 : decode cX3_casesAnsweredBy 17 = .ok (.istore 4, 2) := by decide +kernel
theorem dX3_casesAnsweredBy_19 : decode cX3_casesAnsweredBy 19 = .ok (.iconst 0, 1) := by decide +kernel
theorem dX3_casesAnsweredBy_20 : decode cX3_casesAnsweredBy 20 = .ok (.istore 5, 2) := by decide +kernel
theorem dX3_casesAnsweredBy_22 : decode cX3_casesAnsweredBy 22 = .ok (.iload 5, 2) := by decide +kernel
theorem dX3_casesAnsweredBy_24 : decode cX3_casesAnsweredBy 24 = .ok (.bipush 8, 2) := by decide +kernel
theorem dX3_casesAnsweredBy_26 : decode cX3_casesAnsweredBy 26 = .ok (.if_icmp .ge 43, 3) := by decide +kernel
theorem dX3_casesAnsweredBy_29 : decode cX3_casesAnsweredBy 29 = .ok (.aload_n 0, 1) := by decide +kernel
theorem dX3_casesAnsweredBy_30 : decode cX3_casesAnsweredBy 30 = .ok (.iload_n 3, 1) := by decide +kernel
theorem dX3_casesAnsweredBy_31 : decode cX3_casesAnsweredBy 31 = .ok (.iload 5, 2) := by decide +kernel
theorem dX3_casesAnsweredBy_33 : decode cX3_casesAnsweredBy 33 = .ok (.invokevirtual 62, 3) := by decide +kernel
theorem dX3_casesAnsweredBy_36 : decode cX3_casesAnsweredBy 36 = .ok (.istore 6, 2) := by decide +kernel
theorem dX3_casesAnsweredBy_38 : decode cX3_casesAnsweredBy 38 = .ok (.iload 6, 2) := by decide +kernel
theorem dX3_casesAnsweredBy_40 : decode cX3_casesAnsweredBy 40 = .ok (.ifCond .lt 23, 3) := by decide +kernel
theorem dX3_casesAnsweredBy_43 : decode cX3_casesAnsweredBy 43 = .ok (.aload_n 0, 1) := by decide +kernel
theorem dX3_casesAnsweredBy_44 : decode cX3_casesAnsweredBy 44 = .ok (.getfield 18, 3) := by decide +kernel
theorem dX3_casesAnsweredBy_47 : decode cX3_casesAnsweredBy 47 = .ok (.iload 6, 2) := by decide +kernel
theorem dX3_casesAnsweredBy_49 : decode cX3_casesAnsweredBy 49 = .ok (.iaload, 1) := by decide +kernel
theorem dX3_casesAnsweredBy_50 : decode cX3_casesAnsweredBy 50 = .ok (.iload_n 1, 1) := by decide +kernel
theorem dX3_casesAnsweredBy_51 : decode cX3_casesAnsweredBy 51 = .ok (.if_icmp .ne 12, 3) := by decide +kernel
theorem dX3_casesAnsweredBy_54 : decode cX3_casesAnsweredBy 54 = .ok (.iload 4, 2) := by decide +kernel
theorem dX3_casesAnsweredBy_56 : decode cX3_casesAnsweredBy 56 = .ok (.iconst 1, 1) := by decide +kernel
theorem dX3_casesAnsweredBy_57 : decode cX3_casesAnsweredBy 57 = .ok (.iload 5, 2) := by decide +kernel
theorem dX3_casesAnsweredBy_59 : decode cX3_casesAnsweredBy 59 = .ok (.ishl, 1) := by decide +kernel
theorem dX3_casesAnsweredBy_60 : decode cX3_casesAnsweredBy 60 = .ok (.ior, 1) := by decide +kernel
theorem dX3_casesAnsweredBy_61 : decode cX3_casesAnsweredBy 61 = .ok (.istore 4, 2) := by decide +kernel
theorem dX3_casesAnsweredBy_63 : decode cX3_casesAnsweredBy 63 = .ok (.iinc 5 1, 3) := by decide +kernel
theorem dX3_casesAnsweredBy_66 : decode cX3_casesAnsweredBy 66 = .ok (.goto (-44), 3) := by decide +kernel
theorem dX3_casesAnsweredBy_69 : decode cX3_casesAnsweredBy 69 = .ok (.iload 4, 2) := by decide +kernel
theorem dX3_casesAnsweredBy_71 : decode cX3_casesAnsweredBy 71 = .ok (.ireturn, 1) := by decide +kernel
theorem dX3_leftBy_0 : decode cX3_leftBy 0 = .ok (.aload_n 0, 1) := by decide +kernel
theorem dX3_leftBy_1 : decode cX3_leftBy 1 = .ok (.invokevirtual 50, 3) := by decide +kernel
theorem dX3_leftBy_4 : decode cX3_leftBy 4 = .ok (.aload_n 0, 1) := by decide +kernel
theorem dX3_leftBy_5 : decode cX3_leftBy 5 = .ok (.iload_n 1, 1) := by decide +kernel
theorem dX3_leftBy_6 : decode cX3_leftBy 6 = .ok (.iload_n 2, 1) := by decide +kernel
theorem dX3_leftBy_7 : decode cX3_leftBy 7 = .ok (.aload_n 0, 1) := by decide +kernel
theorem dX3_leftBy_8 : decode cX3_leftBy 8 = .ok (.getfield 42, 3) := by decide +kernel
theorem dX3_leftBy_11 : decode cX3_leftBy 11 = .ok (.getfield 53, 3) := by decide +kernel
theorem dX3_leftBy_14 : decode cX3_leftBy 14 = .ok (.invokevirtual 79, 3) := by decide +kernel
theorem dX3_leftBy_17 : decode cX3_leftBy 17 = .ok (.ireturn, 1) := by decide +kernel
theorem dX3_leftUnder_0 : decode cX3_leftUnder 0 = .ok (.aload_n 0, 1) := by decide +kernel
theorem dX3_leftUnder_1 : decode cX3_leftUnder 1 = .ok (.iload_n 1, 1) := by decide +kernel
theorem dX3_leftUnder_2 : decode cX3_leftUnder 2 = .ok (.iload_n 3, 1) := by decide +kernel
theorem dX3_leftUnder_3 : decode cX3_leftUnder 3 = .ok (.invokevirtual 58, 3) := by decide +kernel
theorem dX3_leftUnder_6 : decode cX3_leftUnder 6 = .ok (.aload_n 0, 1) := by decide +kernel
theorem dX3_leftUnder_7 : decode cX3_leftUnder 7 = .ok (.getfield 42, 3) := by decide +kernel
theorem dX3_leftUnder_10 : decode cX3_leftUnder 10 = .ok (.sipush 255, 3) := by decide +kernel
theorem dX3_leftUnder_13 : decode cX3_leftUnder 13 = .ok (.invokevirtual 83, 3) := by decide +kernel
theorem dX3_leftUnder_16 : decode cX3_leftUnder 16 = .ok (.istore 4, 2) := by decide +kernel
theorem dX3_leftUnder_18 : decode cX3_leftUnder 18 = .ok (.iconst 0, 1) := by decide +kernel
theorem dX3_leftUnder_19 : decode cX3_leftUnder 19 = .ok (.istore 5, 2) := by decide +kernel
theorem dX3_leftUnder_21 : decode cX3_leftUnder 21 = .ok (.iconst 0, 1) := by decide +kernel
theorem dX3_leftUnder_22 : decode cX3_leftUnder 22 = .ok (.istore 6, 2) := by decide +kernel
theorem dX3_leftUnder_24 : decode cX3_leftUnder 24 = .ok (.iload 6, 2) := by decide +kernel
theorem dX3_leftUnder_26 : decode cX3_leftUnder 26 = .ok (.bipush 8, 2) := by decide +kernel
theorem dX3_leftUnder_28 : decode cX3_leftUnder 28 = .ok (.if_icmp .ge 64, 3) := by decide +kernel
theorem dX3_leftUnder_31 : decode cX3_leftUnder 31 = .ok (.aload_n 0, 1) := by decide +kernel
theorem dX3_leftUnder_32 : decode cX3_leftUnder 32 = .ok (.getfield 42, 3) := by decide +kernel
theorem dX3_leftUnder_35 : decode cX3_leftUnder 35 = .ok (.getfield 86, 3) := by decide +kernel
theorem dX3_leftUnder_38 : decode cX3_leftUnder 38 = .ok (.iload 6, 2) := by decide +kernel
theorem dX3_leftUnder_40 : decode cX3_leftUnder 40 = .ok (.iaload, 1) := by decide +kernel
theorem dX3_leftUnder_41 : decode cX3_leftUnder 41 = .ok (.ifCond .le 45, 3) := by decide +kernel
theorem dX3_leftUnder_44 : decode cX3_leftUnder 44 = .ok (.aload_n 0, 1) := by decide +kernel
theorem dX3_leftUnder_45 : decode cX3_leftUnder 45 = .ok (.iload_n 2, 1) := by decide +kernel
theorem dX3_leftUnder_46 : decode cX3_leftUnder 46 = .ok (.iload 6, 2) := by decide +kernel
theorem dX3_leftUnder_48 : decode cX3_leftUnder 48 = .ok (.invokevirtual 62, 3) := by decide +kernel
theorem dX3_leftUnder_51 : decode cX3_leftUnder 51 = .ok (.istore 7, 2) := by decide +kernel
theorem dX3_leftUnder_53 : decode cX3_leftUnder 53 = .ok (.iload 5, 2) := by decide +kernel
theorem dX3_leftUnder_55 : decode cX3_leftUnder 55 = .ok (.aload_n 0, 1) := by decide +kernel
theorem dX3_leftUnder_56 : decode cX3_leftUnder 56 = .ok (.getfield 42, 3) := by decide +kernel
theorem dX3_leftUnder_59 : decode cX3_leftUnder 59 = .ok (.getfield 86, 3) := by decide +kernel
theorem dX3_leftUnder_62 : decode cX3_leftUnder 62 = .ok (.iload 6, 2) := by decide +kernel
theorem dX3_leftUnder_64 : decode cX3_leftUnder 64 = .ok (.iaload, 1) := by decide +kernel
theorem dX3_leftUnder_65 : decode cX3_leftUnder 65 = .ok (.iload 7, 2) := by decide +kernel
theorem dX3_leftUnder_67 : decode cX3_leftUnder 67 = .ok (.ifCond .ge 8, 3) := by decide +kernel
theorem dX3_leftUnder_70 : decode cX3_leftUnder 70 = .ok (.iload 4, 2) := by decide +kernel
theorem dX3_leftUnder_72 : decode cX3_leftUnder 72 = .ok (.goto 10, 3) := by decide +kernel
theorem dX3_leftUnder_75 : decode cX3_leftUnder 75 = .ok (.aload_n 0, 1) := by decide +kernel
theorem dX3_leftUnder_76 : decode cX3_leftUnder 76 = .ok (.getfield 24, 3) := by decide +kernel
theorem dX3_leftUnder_79 : decode cX3_leftUnder 79 = .ok (.iload 7, 2) := by decide +kernel
theorem dX3_leftUnder_81 : decode cX3_leftUnder 81 = .ok (.iaload, 1) := by decide +kernel
theorem dX3_leftUnder_82 : decode cX3_leftUnder 82 = .ok (.imul, 1) := by decide +kernel
theorem dX3_leftUnder_83 : decode cX3_leftUnder 83 = .ok (.iadd, 1) := by decide +kernel
theorem dX3_leftUnder_84 : decode cX3_leftUnder 84 = .ok (.istore 5, 2) := by decide +kernel
theorem dX3_leftUnder_86 : decode cX3_leftUnder 86 = .ok (.iinc 6 1, 3) := by decide +kernel
theorem dX3_leftUnder_89 : decode cX3_leftUnder 89 = .ok (.goto (-65), 3) := by decide +kernel
theorem dX3_leftUnder_92 : decode cX3_leftUnder 92 = .ok (.iload 5, 2) := by decide +kernel
theorem dX3_leftUnder_94 : decode cX3_leftUnder 94 = .ok (.ireturn, 1) := by decide +kernel
theorem dX3_leftOfBest_0 : decode cX3_leftOfBest 0 = .ok (.aload_n 0, 1) := by decide +kernel
theorem dX3_leftOfBest_1 : decode cX3_leftOfBest 1 = .ok (.iload_n 1, 1) := by decide +kernel
theorem dX3_leftOfBest_2 : decode cX3_leftOfBest 2 = .ok (.iload_n 2, 1) := by decide +kernel
theorem dX3_leftOfBest_3 : decode cX3_leftOfBest 3 = .ok (.invokevirtual 89, 3) := by decide +kernel
theorem dX3_leftOfBest_6 : decode cX3_leftOfBest 6 = .ok (.istore_n 3, 1) := by decide +kernel
theorem dX3_leftOfBest_7 : decode cX3_leftOfBest 7 = .ok (.iload_n 3, 1) := by decide +kernel
theorem dX3_leftOfBest_8 : decode cX3_leftOfBest 8 = .ok (.ifCond .ge 8, 3) := by decide +kernel
theorem dX3_leftOfBest_11 : decode cX3_leftOfBest 11 = .ok (.bipush (-9), 2) := by decide +kernel
theorem dX3_leftOfBest_13 : decode cX3_leftOfBest 13 = .ok (.goto 9, 3) := by decide +kernel
theorem dX3_leftOfBest_16 : decode cX3_leftOfBest 16 = .ok (.aload_n 0, 1) := by decide +kernel
theorem dX3_leftOfBest_17 : decode cX3_leftOfBest 17 = .ok (.getfield 39, 3) := by decide +kernel
theorem dX3_leftOfBest_20 : decode cX3_leftOfBest 20 = .ok (.iload_n 3, 1) := by decide +kernel
theorem dX3_leftOfBest_21 : decode cX3_leftOfBest 21 = .ok (.iaload, 1) := by decide +kernel
theorem dX3_leftOfBest_22 : decode cX3_leftOfBest 22 = .ok (.ireturn, 1) := by decide +kernel
theorem dX3_bestQuestion_0 : decode cX3_bestQuestion 0 = .ok (.aload_n 0, 1) := by decide +kernel
theorem dX3_bestQuestion_1 : decode cX3_bestQuestion 1 = .ok (.iload_n 1, 1) := by decide +kernel
theorem dX3_bestQuestion_2 : decode cX3_bestQuestion 2 = .ok (.iload_n 2, 1) := by decide +kernel
theorem dX3_bestQuestion_3 : decode cX3_bestQuestion 3 = .ok (.invokevirtual 89, 3) := by decide +kernel
theorem dX3_bestQuestion_6 : decode cX3_bestQuestion 6 = .ok (.istore_n 3, 1) := by decide +kernel
theorem dX3_bestQuestion_7 : decode cX3_bestQuestion 7 = .ok (.iload_n 3, 1) := by decide +kernel
theorem dX3_bestQuestion_8 : decode cX3_bestQuestion 8 = .ok (.ifCond .ge 7, 3) := by decide +kernel
theorem dX3_bestQuestion_11 : decode cX3_bestQuestion 11 = .ok (.iconst 0, 1) := by decide +kernel
theorem dX3_bestQuestion_12 : decode cX3_bestQuestion 12 = .ok (.goto 14, 3) := by decide +kernel
theorem dX3_bestQuestion_15 : decode cX3_bestQuestion 15 = .ok (.aload_n 0, 1) := by decide +kernel
theorem dX3_bestQuestion_16 : decode cX3_bestQuestion 16 = .ok (.getfield 18, 3) := by decide +kernel
theorem dX3_bestQuestion_19 : decode cX3_bestQuestion 19 = .ok (.aload_n 0, 1) := by decide +kernel
theorem dX3_bestQuestion_20 : decode cX3_bestQuestion 20 = .ok (.getfield 36, 3) := by decide +kernel
theorem dX3_bestQuestion_23 : decode cX3_bestQuestion 23 = .ok (.iload_n 3, 1) := by decide +kernel
theorem dX3_bestQuestion_24 : decode cX3_bestQuestion 24 = .ok (.iaload, 1) := by decide +kernel
theorem dX3_bestQuestion_25 : decode cX3_bestQuestion 25 = .ok (.iaload, 1) := by decide +kernel
theorem dX3_bestQuestion_26 : decode cX3_bestQuestion 26 = .ok (.ireturn, 1) := by decide +kernel
theorem dX3_firstThatForces_0 : decode cX3_firstThatForces 0 = .ok (.aload_n 0, 1) := by decide +kernel
theorem dX3_firstThatForces_1 : decode cX3_firstThatForces 1 = .ok (.invokevirtual 50, 3) := by decide +kernel
theorem dX3_firstThatForces_4 : decode cX3_firstThatForces 4 = .ok (.iconst 1, 1) := by decide +kernel
theorem dX3_firstThatForces_5 : decode cX3_firstThatForces 5 = .ok (.istore_n 2, 1) := by decide +kernel
theorem dX3_firstThatForces_6 : decode cX3_firstThatForces 6 = .ok (.iload_n 2, 1) := by decide +kernel
theorem dX3_firstThatForces_7 : decode cX3_firstThatForces 7 = .ok (.aload_n 0, 1) := by decide +kernel
theorem dX3_firstThatForces_8 : decode cX3_firstThatForces 8 = .ok (.getfield 92, 3) := by decide +kernel
theorem dX3_firstThatForces_11 : decode cX3_firstThatForces 11 = .ok (.if_icmp .ge 41, 3) := by decide +kernel
theorem dX3_firstThatForces_14 : decode cX3_firstThatForces 14 = .ok (.aload_n 0, 1) := by decide +kernel
theorem dX3_firstThatForces_15 : decode cX3_firstThatForces 15 = .ok (.aload_n 0, 1) := by decide +kernel
theorem dX3_firstThatForces_16 : decode cX3_firstThatForces 16 = .ok (.getfield 15, 3) := by decide +kernel
theorem dX3_firstThatForces_19 : decode cX3_firstThatForces 19 = .ok (.iload_n 2, 1) := by decide +kernel
theorem dX3_firstThatForces_20 : decode cX3_firstThatForces 20 = .ok (.iaload, 1) := by decide +kernel
theorem dX3_firstThatForces_21 : decode cX3_firstThatForces 21 = .ok (.aload_n 0, 1) := by decide +kernel
theorem dX3_firstThatForces_22 : decode cX3_firstThatForces 22 = .ok (.getfield 42, 3) := by decide +kernel
theorem dX3_firstThatForces_25 : decode cX3_firstThatForces 25 = .ok (.getfield 53, 3) := by decide +kernel
theorem dX3_firstThatForces_28 : decode cX3_firstThatForces 28 = .ok (.invokevirtual 58, 3) := by decide +kernel
theorem dX3_firstThatForces_31 : decode cX3_firstThatForces 31 = .ok (.aload_n 0, 1) := by decide +kernel
theorem dX3_firstThatForces_32 : decode cX3_firstThatForces 32 = .ok (.iload_n 1, 1) := by decide +kernel
theorem dX3_firstThatForces_33 : decode cX3_firstThatForces 33 = .ok (.invokevirtual 95, 3) := by decide +kernel
theorem dX3_firstThatForces_36 : decode cX3_firstThatForces 36 = .ok (.ifCond .eq 10, 3) := by decide +kernel
theorem dX3_firstThatForces_39 : decode cX3_firstThatForces 39 = .ok (.aload_n 0, 1) := by decide +kernel
theorem dX3_firstThatForces_40 : decode cX3_firstThatForces 40 = .ok (.getfield 18, 3) := by decide +kernel
theorem dX3_firstThatForces_43 : decode cX3_firstThatForces 43 = .ok (.iload_n 2, 1) := by decide +kernel
theorem dX3_firstThatForces_44 : decode cX3_firstThatForces 44 = .ok (.iaload, 1) := by decide +kernel
theorem dX3_firstThatForces_45 : decode cX3_firstThatForces 45 = .ok (.ireturn, 1) := by decide +kernel
theorem dX3_firstThatForces_46 : decode cX3_firstThatForces 46 = .ok (.iinc 2 1, 3) := by decide +kernel
theorem dX3_firstThatForces_49 : decode cX3_firstThatForces 49 = .ok (.goto (-43), 3) := by decide +kernel
theorem dX3_firstThatForces_52 : decode cX3_firstThatForces 52 = .ok (.iconst (-1), 1) := by decide +kernel
theorem dX3_firstThatForces_53 : decode cX3_firstThatForces 53 = .ok (.ireturn, 1) := by decide +kernel
theorem dX3_firstThatMeans_0 : decode cX3_firstThatMeans 0 = .ok (.aload_n 0, 1) := by decide +kernel
theorem dX3_firstThatMeans_1 : decode cX3_firstThatMeans 1 = .ok (.invokevirtual 50, 3) := by decide +kernel
theorem dX3_firstThatMeans_4 : decode cX3_firstThatMeans 4 = .ok (.aload_n 0, 1) := by decide +kernel
theorem dX3_firstThatMeans_5 : decode cX3_firstThatMeans 5 = .ok (.getfield 99, 3) := by decide +kernel
theorem dX3_firstThatMeans_8 : decode cX3_firstThatMeans 8 = .ok (.ifCond .ne 7, 3) := by decide +kernel
theorem dX3_firstThatMeans_11 : decode cX3_firstThatMeans 11 = .ok (.aload_n 0, 1) := by decide +kernel
theorem dX3_firstThatMeans_12 : decode cX3_firstThatMeans 12 = .ok (.invokevirtual 103, 3) := by decide +kernel
theorem dX3_firstThatMeans_15 : decode cX3_firstThatMeans 15 = .ok (.iload_n 1, 1) := by decide +kernel
theorem dX3_firstThatMeans_16 : decode cX3_firstThatMeans 16 = .ok (.invokestatic 106, 3) := by decide +kernel
theorem dX3_firstThatMeans_19 : decode cX3_firstThatMeans 19 = .ok (.ifCond .eq 12, 3) := by decide +kernel
theorem dX3_firstThatMeans_22 : decode cX3_firstThatMeans 22 = .ok (.aload_n 0, 1) := by decide +kernel
theorem dX3_firstThatMeans_23 : decode cX3_firstThatMeans 23 = .ok (.getfield 33, 3) := by decide +kernel
theorem dX3_firstThatMeans_26 : decode cX3_firstThatMeans 26 = .ok (.iload_n 1, 1) := by decide +kernel
theorem dX3_firstThatMeans_27 : decode cX3_firstThatMeans 27 = .ok (.iaload, 1) := by decide +kernel
theorem dX3_firstThatMeans_28 : decode cX3_firstThatMeans 28 = .ok (.goto 4, 3) := by decide +kernel
theorem dX3_firstThatMeans_31 : decode cX3_firstThatMeans 31 = .ok (.iconst (-1), 1) := by decide +kernel
theorem dX3_firstThatMeans_32 : decode cX3_firstThatMeans 32 = .ok (.ireturn, 1) := by decide +kernel
theorem dX3_numberOf_0 : decode cX3_numberOf 0 = .ok (.aload_n 0, 1) := by decide +kernel
theorem dX3_numberOf_1 : decode cX3_numberOf 1 = .ok (.invokevirtual 50, 3) := by decide +kernel
theorem dX3_numberOf_4 : decode cX3_numberOf 4 = .ok (.aload_n 1, 1) := by decide +kernel
theorem dX3_numberOf_5 : decode cX3_numberOf 5 = .ok (.getfield 109, 3) := by decide +kernel
theorem dX3_numberOf_8 : decode cX3_numberOf 8 = .ok (.iconst 3, 1) := by decide +kernel
theorem dX3_numberOf_9 : decode cX3_numberOf 9 = .ok (.if_icmp .le 5, 3) := by decide +kernel
theorem dX3_numberOf_12 : decode cX3_numberOf 12 = .ok (.iconst (-1), 1) := by decide +kernel
theorem dX3_numberOf_13 : decode cX3_numberOf 13 = .ok (.ireturn, 1) := by decide +kernel
theorem dX3_numberOf_14 : decode cX3_numberOf 14 = .ok (.iconst 0, 1) := by decide +kernel
theorem dX3_numberOf_15 : decode cX3_numberOf 15 = .ok (.istore_n 2, 1) := by decide +kernel
theorem dX3_numberOf_16 : decode cX3_numberOf 16 = .ok (.iconst 0, 1) := by decide +kernel
theorem dX3_numberOf_17 : decode cX3_numberOf 17 = .ok (.istore_n 3, 1) := by decide +kernel
theorem dX3_numberOf_18 : decode cX3_numberOf 18 = .ok (.iload_n 3, 1) := by decide +kernel
theorem dX3_numberOf_19 : decode cX3_numberOf 19 = .ok (.aload_n 1, 1) := by decide +kernel
theorem dX3_numberOf_20 : decode cX3_numberOf 20 = .ok (.getfield 109, 3) := by decide +kernel
theorem dX3_numberOf_23 : decode cX3_numberOf 23 = .ok (.if_icmp .ge 25, 3) := by decide +kernel
theorem dX3_numberOf_26 : decode cX3_numberOf 26 = .ok (.iload_n 2, 1) := by decide +kernel
theorem dX3_numberOf_27 : decode cX3_numberOf 27 = .ok (.aload_n 0, 1) := by decide +kernel
theorem dX3_numberOf_28 : decode cX3_numberOf 28 = .ok (.getfield 114, 3) := by decide +kernel
theorem dX3_numberOf_31 : decode cX3_numberOf 31 = .ok (.imul, 1) := by decide +kernel
theorem dX3_numberOf_32 : decode cX3_numberOf 32 = .ok (.iconst 1, 1) := by decide +kernel
theorem dX3_numberOf_33 : decode cX3_numberOf 33 = .ok (.iadd, 1) := by decide +kernel
theorem dX3_numberOf_34 : decode cX3_numberOf 34 = .ok (.aload_n 1, 1) := by decide +kernel
theorem dX3_numberOf_35 : decode cX3_numberOf 35 = .ok (.getfield 117, 3) := by decide +kernel
theorem dX3_numberOf_38 : decode cX3_numberOf 38 = .ok (.iload_n 3, 1) := by decide +kernel
theorem dX3_numberOf_39 : decode cX3_numberOf 39 = .ok (.iaload, 1) := by decide +kernel
theorem dX3_numberOf_40 : decode cX3_numberOf 40 = .ok (.iadd, 1) := by decide +kernel
theorem dX3_numberOf_41 : decode cX3_numberOf 41 = .ok (.istore_n 2, 1) := by decide +kernel
theorem dX3_numberOf_42 : decode cX3_numberOf 42 = .ok (.iinc 3 1, 3) := by decide +kernel
theorem dX3_numberOf_45 : decode cX3_numberOf 45 = .ok (.goto (-27), 3) := by decide +kernel
theorem dX3_numberOf_48 : decode cX3_numberOf 48 = .ok (.iload_n 2, 1) := by decide +kernel
theorem dX3_numberOf_49 : decode cX3_numberOf 49 = .ok (.ireturn, 1) := by decide +kernel
theorem dX3_lengthOf_0 : decode cX3_lengthOf 0 = .ok (.iconst 0, 1) := by decide +kernel
theorem dX3_lengthOf_1 : decode cX3_lengthOf 1 = .ok (.istore_n 2, 1) := by decide +kernel
theorem dX3_lengthOf_2 : decode cX3_lengthOf 2 = .ok (.iload_n 1, 1) := by decide +kernel
theorem dX3_lengthOf_3 : decode cX3_lengthOf 3 = .ok (.istore_n 3, 1) := by decide +kernel
theorem dX3_lengthOf_4 : decode cX3_lengthOf 4 = .ok (.iconst 0, 1) := by decide +kernel
theorem dX3_lengthOf_5 : decode cX3_lengthOf 5 = .ok (.istore 4, 2) := by decide +kernel
theorem dX3_lengthOf_7 : decode cX3_lengthOf 7 = .ok (.iload 4, 2) := by decide +kernel
theorem dX3_lengthOf_9 : decode cX3_lengthOf 9 = .ok (.bipush 6, 2) := by decide +kernel
theorem dX3_lengthOf_11 : decode cX3_lengthOf 11 = .ok (.if_icmp .ge 32, 3) := by decide +kernel
theorem dX3_lengthOf_14 : decode cX3_lengthOf 14 = .ok (.iload_n 3, 1) := by decide +kernel
theorem dX3_lengthOf_15 : decode cX3_lengthOf 15 = .ok (.ifCond .le 28, 3) := by decide +kernel
theorem dX3_lengthOf_18 : decode cX3_lengthOf 18 = .ok (.aload_n 0, 1) := by decide +kernel
theorem dX3_lengthOf_19 : decode cX3_lengthOf 19 = .ok (.getfield 114, 3) := by decide +kernel
theorem dX3_lengthOf_22 : decode cX3_lengthOf 22 = .ok (.ifCond .le 21, 3) := by decide +kernel
theorem dX3_lengthOf_25 : decode cX3_lengthOf 25 = .ok (.iload_n 3, 1) := by decide +kernel
theorem dX3_lengthOf_26 : decode cX3_lengthOf 26 = .ok (.iconst 1, 1) := by decide +kernel
theorem dX3_lengthOf_27 : decode cX3_lengthOf 27 = .ok (.isub, 1) := by decide +kernel
theorem dX3_lengthOf_28 : decode cX3_lengthOf 28 = .ok (.aload_n 0, 1) := by decide +kernel
theorem dX3_lengthOf_29 : decode cX3_lengthOf 29 = .ok (.getfield 114, 3) := by decide +kernel
theorem dX3_lengthOf_32 : decode cX3_lengthOf 32 = .ok (.idiv, 1) := by decide +kernel
theorem dX3_lengthOf_33 : decode cX3_lengthOf 33 = .ok (.istore_n 3, 1) := by decide +kernel
theorem dX3_lengthOf_34 : decode cX3_lengthOf 34 = .ok (.iinc 2 1, 3) := by decide +kernel
theorem dX3_lengthOf_37 : decode cX3_lengthOf 37 = .ok (.iinc 4 1, 3) := by decide +kernel
theorem dX3_lengthOf_40 : decode cX3_lengthOf 40 = .ok (.goto (-33), 3) := by decide +kernel
theorem dX3_lengthOf_43 : decode cX3_lengthOf 43 = .ok (.iload_n 2, 1) := by decide +kernel
theorem dX3_lengthOf_44 : decode cX3_lengthOf 44 = .ok (.ireturn, 1) := by decide +kernel
theorem dX3_wordOf_0 : decode cX3_wordOf 0 = .ok (.aload_n 0, 1) := by decide +kernel
theorem dX3_wordOf_1 : decode cX3_wordOf 1 = .ok (.iload_n 1, 1) := by decide +kernel
theorem dX3_wordOf_2 : decode cX3_wordOf 2 = .ok (.invokevirtual 119, 3) := by decide +kernel
theorem dX3_wordOf_5 : decode cX3_wordOf 5 = .ok (.istore_n 3, 1) := by decide +kernel
theorem dX3_wordOf_6 : decode cX3_wordOf 6 = .ok (.iload_n 2, 1) := by decide +kernel
theorem dX3_wordOf_7 : decode cX3_wordOf 7 = .ok (.ifCond .lt 15, 3) := by decide +kernel
theorem dX3_wordOf_10 : decode cX3_wordOf 10 = .ok (.iload_n 2, 1) := by decide +kernel
theorem dX3_wordOf_11 : decode cX3_wordOf 11 = .ok (.iload_n 3, 1) := by decide +kernel
theorem dX3_wordOf_12 : decode cX3_wordOf 12 = .ok (.if_icmp .ge 10, 3) := by decide +kernel
theorem dX3_wordOf_15 : decode cX3_wordOf 15 = .ok (.aload_n 0, 1) := by decide +kernel
theorem dX3_wordOf_16 : decode cX3_wordOf 16 = .ok (.getfield 114, 3) := by decide +kernel
theorem dX3_wordOf_19 : decode cX3_wordOf 19 = .ok (.ifCond .gt 6, 3) := by decide +kernel
theorem dX3_wordOf_22 : decode cX3_wordOf 22 = .ok (.bipush (-9), 2) := by decide +kernel
theorem dX3_wordOf_24 : decode cX3_wordOf 24 = .ok (.ireturn, 1) := by decide +kernel
theorem dX3_wordOf_25 : decode cX3_wordOf 25 = .ok (.iload_n 1, 1) := by decide +kernel
theorem dX3_wordOf_26 : decode cX3_wordOf 26 = .ok (.istore 4, 2) := by decide +kernel
theorem dX3_wordOf_28 : decode cX3_wordOf 28 = .ok (.iload_n 3, 1) := by decide +kernel
theorem dX3_wordOf_29 : decode cX3_wordOf 29 = .ok (.iconst 1, 1) := by decide +kernel
theorem dX3_wordOf_30 : decode cX3_wordOf 30 = .ok (.isub, 1) := by decide +kernel
theorem dX3_wordOf_31 : decode cX3_wordOf 31 = .ok (.istore 5, 2) := by decide +kernel
theorem dX3_wordOf_33 : decode cX3_wordOf 33 = .ok (.iload 5, 2) := by decide +kernel
theorem dX3_wordOf_35 : decode cX3_wordOf 35 = .ok (.iload_n 2, 1) := by decide +kernel
theorem dX3_wordOf_36 : decode cX3_wordOf 36 = .ok (.if_icmp .le 20, 3) := by decide +kernel
theorem dX3_wordOf_39 : decode cX3_wordOf 39 = .ok (.iload 4, 2) := by decide +kernel
theorem dX3_wordOf_41 : decode cX3_wordOf 41 = .ok (.iconst 1, 1) := by decide +kernel
theorem dX3_wordOf_42 : decode cX3_wordOf 42 = .ok (.isub, 1) := by decide +kernel
theorem dX3_wordOf_43 : decode cX3_wordOf 43 = .ok (.aload_n 0, 1) := by decide +kernel
theorem dX3_wordOf_44 : decode cX3_wordOf 44 = .ok (.getfield 114, 3) := by decide +kernel
theorem dX3_wordOf_47 : decode cX3_wordOf 47 = .ok (.idiv, 1) := by decide +kernel
theorem dX3_wordOf_48 : decode cX3_wordOf 48 = .ok (.istore 4, 2) := by decide +kernel
theorem dX3_wordOf_50 : decode cX3_wordOf 50 = .ok (.iinc 5 (-1), 3) := by decide +kernel
theorem dX3_wordOf_53 : decode cX3_wordOf 53 = .ok (.goto (-20), 3) := by decide +kernel
theorem dX3_wordOf_56 : decode cX3_wordOf 56 = .ok (.iload 4, 2) := by decide +kernel
theorem dX3_wordOf_58 : decode cX3_wordOf 58 = .ok (.iconst 1, 1) := by decide +kernel
theorem dX3_wordOf_59 : decode cX3_wordOf 59 = .ok (.isub, 1) := by decide +kernel
theorem dX3_wordOf_60 : decode cX3_wordOf 60 = .ok (.aload_n 0, 1) := by decide +kernel
theorem dX3_wordOf_61 : decode cX3_wordOf 61 = .ok (.getfield 114, 3) := by decide +kernel
theorem dX3_wordOf_64 : decode cX3_wordOf 64 = .ok (.irem, 1) := by decide +kernel
theorem dX3_wordOf_65 : decode cX3_wordOf 65 = .ok (.ireturn, 1) := by decide +kernel
theorem dX3_refresh_0 : decode cX3_refresh 0 = .ok (.aload_n 0, 1) := by decide +kernel
theorem dX3_refresh_1 : decode cX3_refresh 1 = .ok (.getfield 122, 3) := by decide +kernel
theorem dX3_refresh_4 : decode cX3_refresh 4 = .ok (.ifCond .eq 4, 3) := by decide +kernel
theorem dX3_refresh_7 : decode cX3_refresh 7 = .ok (.return_, 1) := by decide +kernel
theorem dX3_refresh_8 : decode cX3_refresh 8 = .ok (.aload_n 0, 1) := by decide +kernel
theorem dX3_refresh_9 : decode cX3_refresh 9 = .ok (.invokevirtual 125, 3) := by decide +kernel
theorem dX3_refresh_12 : decode cX3_refresh 12 = .ok (.aload_n 0, 1) := by decide +kernel
theorem dX3_refresh_13 : decode cX3_refresh 13 = .ok (.aload_n 0, 1) := by decide +kernel
theorem dX3_refresh_14 : decode cX3_refresh 14 = .ok (.getfield 42, 3) := by decide +kernel
theorem dX3_refresh_17 : decode cX3_refresh 17 = .ok (.getfield 128, 3) := by decide +kernel
theorem dX3_refresh_20 : decode cX3_refresh 20 = .ok (.aload_n 0, 1) := by decide +kernel
theorem dX3_refresh_21 : decode cX3_refresh 21 = .ok (.getfield 46, 3) := by decide +kernel
theorem dX3_refresh_24 : decode cX3_refresh 24 = .ok (.iadd, 1) := by decide +kernel
theorem dX3_refresh_25 : decode cX3_refresh 25 = .ok (.bipush 8, 2) := by decide +kernel
theorem dX3_refresh_27 : decode cX3_refresh 27 = .ok (.invokestatic 129, 3) := by decide +kernel
theorem dX3_refresh_30 : decode cX3_refresh 30 = .ok (.putfield 114, 3) := by decide +kernel
theorem dX3_refresh_33 : decode cX3_refresh 33 = .ok (.iconst 1, 1) := by decide +kernel
theorem dX3_refresh_34 : decode cX3_refresh 34 = .ok (.aload_n 0, 1) := by decide +kernel
theorem dX3_refresh_35 : decode cX3_refresh 35 = .ok (.getfield 114, 3) := by decide +kernel
theorem dX3_refresh_38 : decode cX3_refresh 38 = .ok (.iadd, 1) := by decide +kernel
theorem dX3_refresh_39 : decode cX3_refresh 39 = .ok (.aload_n 0, 1) := by decide +kernel
theorem dX3_refresh_40 : decode cX3_refresh 40 = .ok (.getfield 114, 3) := by decide +kernel
theorem dX3_refresh_43 : decode cX3_refresh 43 = .ok (.aload_n 0, 1) := by decide +kernel
theorem dX3_refresh_44 : decode cX3_refresh 44 = .ok (.getfield 114, 3) := by decide +kernel
theorem dX3_refresh_47 : decode cX3_refresh 47 = .ok (.imul, 1) := by decide +kernel
theorem dX3_refresh_48 : decode cX3_refresh 48 = .ok (.iadd, 1) := by decide +kernel
theorem dX3_refresh_49 : decode cX3_refresh 49 = .ok (.istore_n 1, 1) := by decide +kernel
theorem dX3_refresh_50 : decode cX3_refresh 50 = .ok (.aload_n 0, 1) := by decide +kernel
theorem dX3_refresh_51 : decode cX3_refresh 51 = .ok (.getfield 11, 3) := by decide +kernel
theorem dX3_refresh_54 : decode cX3_refresh 54 = .ok (.iconst 0, 1) := by decide +kernel
theorem dX3_refresh_55 : decode cX3_refresh 55 = .ok (.sipush 255, 3) := by decide +kernel
theorem dX3_refresh_58 : decode cX3_refresh 58 = .ok (.iastore, 1) := by decide +kernel
theorem dX3_refresh_59 : decode cX3_refresh 59 = .ok (.iconst 0, 1) := by decide +kernel
theorem dX3_refresh_60 : decode cX3_refresh 60 = .ok (.istore_n 2, 1) := by decide +kernel
theorem dX3_refresh_61 : decode cX3_refresh 61 = .ok (.iload_n 2, 1) := by decide +kernel
theorem dX3_refresh_62 : decode cX3_refresh 62 = .ok (.iload_n 1, 1) := by decide +kernel
theorem dX3_refresh_63 : decode cX3_refresh 63 = .ok (.if_icmp .ge 54, 3) := by decide +kernel
theorem dX3_refresh_66 : decode cX3_refresh 66 = .ok (.iconst 0, 1) := by decide +kernel
theorem dX3_refresh_67 : decode cX3_refresh 67 = .ok (.istore_n 3, 1) := by decide +kernel
theorem dX3_refresh_68 : decode cX3_refresh 68 = .ok (.iload_n 3, 1) := by decide +kernel
theorem dX3_refresh_69 : decode cX3_refresh 69 = .ok (.aload_n 0, 1) := by decide +kernel
theorem dX3_refresh_70 : decode cX3_refresh 70 = .ok (.getfield 114, 3) := by decide +kernel
theorem dX3_refresh_73 : decode cX3_refresh 73 = .ok (.if_icmp .ge 38, 3) := by decide +kernel
theorem dX3_refresh_76 : decode cX3_refresh 76 = .ok (.aload_n 0, 1) := by decide +kernel
theorem dX3_refresh_77 : decode cX3_refresh 77 = .ok (.getfield 11, 3) := by decide +kernel
theorem dX3_refresh_80 : decode cX3_refresh 80 = .ok (.iload_n 2, 1) := by decide +kernel
theorem dX3_refresh_81 : decode cX3_refresh 81 = .ok (.aload_n 0, 1) := by decide +kernel
theorem dX3_refresh_82 : decode cX3_refresh 82 = .ok (.getfield 114, 3) := by decide +kernel
theorem dX3_refresh_85 : decode cX3_refresh 85 = .ok (.imul, 1) := by decide +kernel
theorem dX3_refresh_86 : decode cX3_refresh 86 = .ok (.iconst 1, 1) := by decide +kernel
theorem dX3_refresh_87 : decode cX3_refresh 87 = .ok (.iadd, 1) := by decide +kernel
theorem dX3_refresh_88 : decode cX3_refresh 88 = .ok (.iload_n 3, 1) := by decide +kernel
theorem dX3_refresh_89 : decode cX3_refresh 89 = .ok (.iadd, 1) := by decide +kernel
theorem dX3_refresh_90 : decode cX3_refresh 90 = .ok (.aload_n 0, 1) := by decide +kernel
theorem dX3_refresh_91 : decode cX3_refresh 91 = .ok (.getfield 42, 3) := by decide +kernel
theorem dX3_refresh_94 : decode cX3_refresh 94 = .ok (.aload_n 0, 1) := by decide +kernel
theorem dX3_refresh_95 : decode cX3_refresh 95 = .ok (.getfield 11, 3) := by decide +kernel
theorem dX3_refresh_98 : decode cX3_refresh 98 = .ok (.iload_n 2, 1) := by decide +kernel
theorem dX3_refresh_99 : decode cX3_refresh 99 = .ok (.iaload, 1) := by decide +kernel
theorem dX3_refresh_100 : decode cX3_refresh 100 = .ok (.iload_n 3, 1) := by decide +kernel
theorem dX3_refresh_101 : decode cX3_refresh 101 = .ok (.invokevirtual 134, 3) := by decide +kernel
theorem dX3_refresh_104 : decode cX3_refresh 104 = .ok (.iastore, 1) := by decide +kernel
theorem dX3_refresh_105 : decode cX3_refresh 105 = .ok (.iinc 3 1, 3) := by decide +kernel
theorem dX3_refresh_108 : decode cX3_refresh 108 = .ok (.goto (-40), 3) := by decide +kernel
theorem dX3_refresh_111 : decode cX3_refresh 111 = .ok (.iinc 2 1, 3) := by decide +kernel
theorem dX3_refresh_114 : decode cX3_refresh 114 = .ok (.goto (-53), 3) := by decide +kernel
theorem dX3_refresh_117 : decode cX3_refresh 117 = .ok (.aload_n 0, 1) := by decide +kernel
theorem dX3_refresh_118 : decode cX3_refresh 118 = .ok (.iload_n 1, 1) := by decide +kernel
theorem dX3_refresh_119 : decode cX3_refresh 119 = .ok (.aload_n 0, 1) := by decide +kernel
theorem dX3_refresh_120 : decode cX3_refresh 120 = .ok (.getfield 114, 3) := by decide +kernel
theorem dX3_refresh_123 : decode cX3_refresh 123 = .ok (.imul, 1) := by decide +kernel
theorem dX3_refresh_124 : decode cX3_refresh 124 = .ok (.iconst 1, 1) := by decide +kernel
theorem dX3_refresh_125 : decode cX3_refresh 125 = .ok (.iadd, 1) := by decide +kernel
theorem dX3_refresh_126 : decode cX3_refresh 126 = .ok (.putfield 137, 3) := by decide +kernel
theorem dX3_refresh_129 : decode cX3_refresh 129 = .ok (.iconst 0, 1) := by decide +kernel
theorem dX3_refresh_130 : decode cX3_refresh 130 = .ok (.istore_n 2, 1) := by decide +kernel
theorem dX3_refresh_131 : decode cX3_refresh 131 = .ok (.iload_n 2, 1) := by decide +kernel
theorem dX3_refresh_132 : decode cX3_refresh 132 = .ok (.aload_n 0, 1) := by decide +kernel
theorem dX3_refresh_133 : decode cX3_refresh 133 = .ok (.getfield 137, 3) := by decide +kernel
theorem dX3_refresh_136 : decode cX3_refresh 136 = .ok (.if_icmp .ge 14, 3) := by decide +kernel
theorem dX3_refresh_139 : decode cX3_refresh 139 = .ok (.aload_n 0, 1) := by decide +kernel
theorem dX3_refresh_140 : decode cX3_refresh 140 = .ok (.iload_n 2, 1) := by decide +kernel
theorem dX3_refresh_141 : decode cX3_refresh 141 = .ok (.invokevirtual 138, 3) := by decide +kernel
theorem dX3_refresh_144 : decode cX3_refresh 144 = .ok (.iinc 2 1, 3) := by decide +kernel
theorem dX3_refresh_147 : decode cX3_refresh 147 = .ok (.goto (-16), 3) := by decide +kernel
theorem dX3_refresh_150 : decode cX3_refresh 150 = .ok (.aload_n 0, 1) := by decide +kernel
theorem dX3_refresh_151 : decode cX3_refresh 151 = .ok (.getfield 39, 3) := by decide +kernel
theorem dX3_refresh_154 : decode cX3_refresh 154 = .ok (.iconst (-1), 1) := by decide +kernel
theorem dX3_refresh_155 : decode cX3_refresh 155 = .ok (.invokestatic 142, 3) := by decide +kernel
theorem dX3_refresh_158 : decode cX3_refresh 158 = .ok (.aload_n 0, 1) := by decide +kernel
theorem dX3_refresh_159 : decode cX3_refresh 159 = .ok (.iconst 0, 1) := by decide +kernel
theorem dX3_refresh_160 : decode cX3_refresh 160 = .ok (.putfield 99, 3) := by decide +kernel
theorem dX3_refresh_163 : decode cX3_refresh 163 = .ok (.aload_n 0, 1) := by decide +kernel
theorem dX3_refresh_164 : decode cX3_refresh 164 = .ok (.iconst 1, 1) := by decide +kernel
theorem dX3_refresh_165 : decode cX3_refresh 165 = .ok (.putfield 122, 3) := by decide +kernel
theorem dX3_refresh_168 : decode cX3_refresh 168 = .ok (.return_, 1) := by decide +kernel
theorem dX3_clearGroups_0 : decode cX3_clearGroups 0 = .ok (.iconst 0, 1) := by decide +kernel
theorem dX3_clearGroups_1 : decode cX3_clearGroups 1 = .ok (.istore_n 1, 1) := by decide +kernel
theorem dX3_clearGroups_2 : decode cX3_clearGroups 2 = .ok (.iload_n 1, 1) := by decide +kernel
theorem dX3_clearGroups_3 : decode cX3_clearGroups 3 = .ok (.aload_n 0, 1) := by decide +kernel
theorem dX3_clearGroups_4 : decode cX3_clearGroups 4 = .ok (.getfield 92, 3) := by decide +kernel
theorem dX3_clearGroups_7 : decode cX3_clearGroups 7 = .ok (.if_icmp .ge 24, 3) := by decide +kernel
theorem dX3_clearGroups_10 : decode cX3_clearGroups 10 = .ok (.aload_n 0, 1) := by decide +kernel
theorem dX3_clearGroups_11 : decode cX3_clearGroups 11 = .ok (.getfield 27, 3) := by decide +kernel
theorem dX3_clearGroups_14 : decode cX3_clearGroups 14 = .ok (.aload_n 0, 1) := by decide +kernel
theorem dX3_clearGroups_15 : decode cX3_clearGroups 15 = .ok (.getfield 15, 3) := by decide +kernel
theorem dX3_clearGroups_18 : decode cX3_clearGroups 18 = .ok (.iload_n 1, 1) := by decide +kernel
theorem dX3_clearGroups_19 : decode cX3_clearGroups 19 = .ok (.iaload, 1) := by decide +kernel
theorem dX3_clearGroups_20 : decode cX3_clearGroups 20 = .ok (.invokestatic 148, 3) := by decide +kernel
theorem dX3_clearGroups_23 : decode cX3_clearGroups 23 = .ok (.iconst 0, 1) := by decide +kernel
theorem dX3_clearGroups_24 : decode cX3_clearGroups 24 = .ok (.iastore, 1) := by decide +kernel
theorem dX3_clearGroups_25 : decode cX3_clearGroups 25 = .ok (.iinc 1 1, 3) := by decide +kernel
theorem dX3_clearGroups_28 : decode cX3_clearGroups 28 = .ok (.goto (-26), 3) := by decide +kernel
theorem dX3_clearGroups_31 : decode cX3_clearGroups 31 = .ok (.aload_n 0, 1) := by decide +kernel
theorem dX3_clearGroups_32 : decode cX3_clearGroups 32 = .ok (.iconst 0, 1) := by decide +kernel
theorem dX3_clearGroups_33 : decode cX3_clearGroups 33 = .ok (.putfield 92, 3) := by decide +kernel
theorem dX3_clearGroups_36 : decode cX3_clearGroups 36 = .ok (.return_, 1) := by decide +kernel
theorem dX3_putInGroup_0 : decode cX3_putInGroup 0 = .ok (.aload_n 0, 1) := by decide +kernel
theorem dX3_putInGroup_1 : decode cX3_putInGroup 1 = .ok (.getfield 11, 3) := by decide +kernel
theorem dX3_putInGroup_4 : decode cX3_putInGroup 4 = .ok (.iload_n 1, 1) := by decide +kernel
theorem dX3_putInGroup_5 : decode cX3_putInGroup 5 = .ok (.iaload, 1) := by decide +kernel
theorem dX3_putInGroup_6 : decode cX3_putInGroup 6 = .ok (.istore_n 2, 1) := by decide +kernel
theorem dX3_putInGroup_7 : decode cX3_putInGroup 7 = .ok (.iload_n 2, 1) := by decide +kernel
theorem dX3_putInGroup_8 : decode cX3_putInGroup 8 = .ok (.invokestatic 148, 3) := by decide +kernel
theorem dX3_putInGroup_11 : decode cX3_putInGroup 11 = .ok (.istore_n 3, 1) := by decide +kernel
theorem dX3_putInGroup_12 : decode cX3_putInGroup 12 = .ok (.aload_n 0, 1) := by decide +kernel
theorem dX3_putInGroup_13 : decode cX3_putInGroup 13 = .ok (.getfield 27, 3) := by decide +kernel
theorem dX3_putInGroup_16 : decode cX3_putInGroup 16 = .ok (.iload_n 3, 1) := by decide +kernel
theorem dX3_putInGroup_17 : decode cX3_putInGroup 17 = .ok (.iaload, 1) := by decide +kernel
theorem dX3_putInGroup_18 : decode cX3_putInGroup 18 = .ok (.iconst 1, 1) := by decide +kernel
theorem dX3_putInGroup_19 : decode cX3_putInGroup 19 = .ok (.isub, 1) := by decide +kernel
theorem dX3_putInGroup_20 : decode cX3_putInGroup 20 = .ok (.istore 4, 2) := by decide +kernel
theorem dX3_putInGroup_22 : decode cX3_putInGroup 22 = .ok (.iload 4, 2) := by decide +kernel
theorem dX3_putInGroup_24 : decode cX3_putInGroup 24 = .ok (.ifCond .ge 71, 3) := by decide +kernel
theorem dX3_putInGroup_27 : decode cX3_putInGroup 27 = .ok (.aload_n 0, 1) := by decide +kernel
theorem dX3_putInGroup_28 : decode cX3_putInGroup 28 = .ok (.getfield 92, 3) := by decide +kernel
theorem dX3_putInGroup_31 : decode cX3_putInGroup 31 = .ok (.istore 4, 2) := by decide +kernel
theorem dX3_putInGroup_33 : decode cX3_putInGroup 33 = .ok (.aload_n 0, 1) := by decide +kernel
theorem dX3_putInGroup_34 : decode cX3_putInGroup 34 = .ok (.dup, 1) := by decide +kernel
theorem dX3_putInGroup_35 : decode cX3_putInGroup 35 = .ok (.getfield 92, 3) := by decide +kernel
theorem dX3_putInGroup_38 : decode cX3_putInGroup 38 = .ok (.iconst 1, 1) := by decide +kernel
theorem dX3_putInGroup_39 : decode cX3_putInGroup 39 = .ok (.iadd, 1) := by decide +kernel
theorem dX3_putInGroup_40 : decode cX3_putInGroup 40 = .ok (.putfield 92, 3) := by decide +kernel
theorem dX3_putInGroup_43 : decode cX3_putInGroup 43 = .ok (.aload_n 0, 1) := by decide +kernel
theorem dX3_putInGroup_44 : decode cX3_putInGroup 44 = .ok (.getfield 27, 3) := by decide +kernel
theorem dX3_putInGroup_47 : decode cX3_putInGroup 47 = .ok (.iload_n 3, 1) := by decide +kernel
theorem dX3_putInGroup_48 : decode cX3_putInGroup 48 = .ok (.aload_n 0, 1) := by decide +kernel
theorem dX3_putInGroup_49 : decode cX3_putInGroup 49 = .ok (.getfield 92, 3) := by decide +kernel
theorem dX3_putInGroup_52 : decode cX3_putInGroup 52 = .ok (.iastore, 1) := by decide +kernel
theorem dX3_putInGroup_53 : decode cX3_putInGroup 53 = .ok (.aload_n 0, 1) := by decide +kernel
theorem dX3_putInGroup_54 : decode cX3_putInGroup 54 = .ok (.getfield 15, 3) := by decide +kernel
theorem dX3_putInGroup_57 : decode cX3_putInGroup 57 = .ok (.iload 4, 2) := by decide +kernel
theorem dX3_putInGroup_59 : decode cX3_putInGroup 59 = .ok (.iload_n 2, 1) := by decide +kernel
theorem dX3_putInGroup_60 : decode cX3_putInGroup 60 = .ok (.iastore, 1) := by decide +kernel
theorem dX3_putInGroup_61 : decode cX3_putInGroup 61 = .ok (.aload_n 0, 1) := by decide +kernel
theorem dX3_putInGroup_62 : decode cX3_putInGroup 62 = .ok (.getfield 18, 3) := by decide +kernel
theorem dX3_putInGroup_65 : decode cX3_putInGroup 65 = .ok (.iload 4, 2) := by decide +kernel
theorem dX3_putInGroup_67 : decode cX3_putInGroup 67 = .ok (.iload_n 1, 1) := by decide +kernel
theorem dX3_putInGroup_68 : decode cX3_putInGroup 68 = .ok (.iastore, 1) := by decide +kernel
theorem dX3_putInGroup_69 : decode cX3_putInGroup 69 = .ok (.aload_n 0, 1) := by decide +kernel
theorem dX3_putInGroup_70 : decode cX3_putInGroup 70 = .ok (.getfield 21, 3) := by decide +kernel
theorem dX3_putInGroup_73 : decode cX3_putInGroup 73 = .ok (.iload 4, 2) := by decide +kernel
theorem dX3_putInGroup_75 : decode cX3_putInGroup 75 = .ok (.iconst 0, 1) := by decide +kernel
theorem dX3_putInGroup_76 : decode cX3_putInGroup 76 = .ok (.iastore, 1) := by decide +kernel
theorem dX3_putInGroup_77 : decode cX3_putInGroup 77 = .ok (.aload_n 0, 1) := by decide +kernel
theorem dX3_putInGroup_78 : decode cX3_putInGroup 78 = .ok (.getfield 24, 3) := by decide +kernel
theorem dX3_putInGroup_81 : decode cX3_putInGroup 81 = .ok (.iload 4, 2) := by decide +kernel
theorem dX3_putInGroup_83 : decode cX3_putInGroup 83 = .ok (.aload_n 0, 1) := by decide +kernel
theorem dX3_putInGroup_84 : decode cX3_putInGroup 84 = .ok (.getfield 42, 3) := by decide +kernel
theorem dX3_putInGroup_87 : decode cX3_putInGroup 87 = .ok (.iload_n 2, 1) := by decide +kernel
theorem dX3_putInGroup_88 : decode cX3_putInGroup 88 = .ok (.invokestatic 73, 3) := by decide +kernel
theorem dX3_putInGroup_91 : decode cX3_putInGroup 91 = .ok (.invokevirtual 83, 3) := by decide +kernel
theorem dX3_putInGroup_94 : decode cX3_putInGroup 94 = .ok (.iastore, 1) := by decide +kernel
theorem dX3_putInGroup_95 : decode cX3_putInGroup 95 = .ok (.aload_n 0, 1) := by decide +kernel
theorem dX3_putInGroup_96 : decode cX3_putInGroup 96 = .ok (.getfield 21, 3) := by decide +kernel
theorem dX3_putInGroup_99 : decode cX3_putInGroup 99 = .ok (.iload 4, 2) := by decide +kernel
theorem dX3_putInGroup_101 : decode cX3_putInGroup 101 = .ok (.dup2, 1) := by decide +kernel
theorem dX3_putInGroup_102 : decode cX3_putInGroup 102 = .ok (.iaload, 1) := by decide +kernel
theorem dX3_putInGroup_103 : decode cX3_putInGroup 103 = .ok (.iconst 1, 1) := by decide +kernel
theorem dX3_putInGroup_104 : decode cX3_putInGroup 104 = .ok (.iadd, 1) := by decide +kernel
theorem dX3_putInGroup_105 : decode cX3_putInGroup 105 = .ok (.iastore, 1) := by decide +kernel
theorem dX3_putInGroup_106 : decode cX3_putInGroup 106 = .ok (.return_, 1) := by decide +kernel
theorem dX3_keyOf_0 : decode cX3_keyOf 0 = .ok (.iload_n 0, 1) := by decide +kernel
theorem dX3_keyOf_1 : decode cX3_keyOf 1 = .ok (.invokestatic 151, 3) := by decide +kernel
theorem dX3_keyOf_4 : decode cX3_keyOf 4 = .ok (.iconst 3, 1) := by decide +kernel
theorem dX3_keyOf_5 : decode cX3_keyOf 5 = .ok (.invokestatic 129, 3) := by decide +kernel
theorem dX3_keyOf_8 : decode cX3_keyOf 8 = .ok (.istore_n 1, 1) := by decide +kernel
theorem dX3_keyOf_9 : decode cX3_keyOf 9 = .ok (.iload_n 0, 1) := by decide +kernel
theorem dX3_keyOf_10 : decode cX3_keyOf 10 = .ok (.invokestatic 154, 3) := by decide +kernel
theorem dX3_keyOf_13 : decode cX3_keyOf 13 = .ok (.iload_n 1, 1) := by decide +kernel
theorem dX3_keyOf_14 : decode cX3_keyOf 14 = .ok (.invokestatic 129, 3) := by decide +kernel
theorem dX3_keyOf_17 : decode cX3_keyOf 17 = .ok (.istore_n 2, 1) := by decide +kernel
theorem dX3_keyOf_18 : decode cX3_keyOf 18 = .ok (.iload_n 1, 1) := by decide +kernel
theorem dX3_keyOf_19 : decode cX3_keyOf 19 = .ok (.iload_n 1, 1) := by decide +kernel
theorem dX3_keyOf_20 : decode cX3_keyOf 20 = .ok (.iconst 1, 1) := by decide +kernel
theorem dX3_keyOf_21 : decode cX3_keyOf 21 = .ok (.iadd, 1) := by decide +kernel
theorem dX3_keyOf_22 : decode cX3_keyOf 22 = .ok (.imul, 1) := by decide +kernel
theorem dX3_keyOf_23 : decode cX3_keyOf 23 = .ok (.iconst 2, 1) := by decide +kernel
theorem dX3_keyOf_24 : decode cX3_keyOf 24 = .ok (.idiv, 1) := by decide +kernel
theorem dX3_keyOf_25 : decode cX3_keyOf 25 = .ok (.iload_n 2, 1) := by decide +kernel
theorem dX3_keyOf_26 : decode cX3_keyOf 26 = .ok (.iadd, 1) := by decide +kernel
theorem dX3_keyOf_27 : decode cX3_keyOf 27 = .ok (.sipush 256, 3) := by decide +kernel
theorem dX3_keyOf_30 : decode cX3_keyOf 30 = .ok (.imul, 1) := by decide +kernel
theorem dX3_keyOf_31 : decode cX3_keyOf 31 = .ok (.iload_n 0, 1) := by decide +kernel
theorem dX3_keyOf_32 : decode cX3_keyOf 32 = .ok (.invokestatic 73, 3) := by decide +kernel
theorem dX3_keyOf_35 : decode cX3_keyOf 35 = .ok (.iadd, 1) := by decide +kernel
theorem dX3_keyOf_36 : decode cX3_keyOf 36 = .ok (.ireturn, 1) := by decide +kernel
theorem dX3_findFirsts_0 : decode cX3_findFirsts 0 = .ok (.aload_n 0, 1) := by decide +kernel
theorem dX3_findFirsts_1 : decode cX3_findFirsts 1 = .ok (.getfield 33, 3) := by decide +kernel
theorem dX3_findFirsts_4 : decode cX3_findFirsts 4 = .ok (.iconst (-1), 1) := by decide +kernel
theorem dX3_findFirsts_5 : decode cX3_findFirsts 5 = .ok (.invokestatic 142, 3) := by decide +kernel
theorem dX3_findFirsts_8 : decode cX3_findFirsts 8 = .ok (.iconst 0, 1) := by decide +kernel
theorem dX3_findFirsts_9 : decode cX3_findFirsts 9 = .ok (.istore_n 1, 1) := by decide +kernel
theorem dX3_findFirsts_10 : decode cX3_findFirsts 10 = .ok (.iload_n 1, 1) := by decide +kernel
theorem dX3_findFirsts_11 : decode cX3_findFirsts 11 = .ok (.aload_n 0, 1) := by decide +kernel
theorem dX3_findFirsts_12 : decode cX3_findFirsts 12 = .ok (.getfield 137, 3) := by decide +kernel
theorem dX3_findFirsts_15 : decode cX3_findFirsts 15 = .ok (.if_icmp .ge 20, 3) := by decide +kernel
theorem dX3_findFirsts_18 : decode cX3_findFirsts 18 = .ok (.aload_n 0, 1) := by decide +kernel
theorem dX3_findFirsts_19 : decode cX3_findFirsts 19 = .ok (.aload_n 0, 1) := by decide +kernel
theorem dX3_findFirsts_20 : decode cX3_findFirsts 20 = .ok (.getfield 11, 3) := by decide +kernel
theorem dX3_findFirsts_23 : decode cX3_findFirsts 23 = .ok (.iload_n 1, 1) := by decide +kernel
theorem dX3_findFirsts_24 : decode cX3_findFirsts 24 = .ok (.iaload, 1) := by decide +kernel
theorem dX3_findFirsts_25 : decode cX3_findFirsts 25 = .ok (.iload_n 1, 1) := by decide +kernel
theorem dX3_findFirsts_26 : decode cX3_findFirsts 26 = .ok (.invokevirtual 157, 3) := by decide +kernel
theorem dX3_findFirsts_29 : decode cX3_findFirsts 29 = .ok (.iinc 1 1, 3) := by decide +kernel
theorem dX3_findFirsts_32 : decode cX3_findFirsts 32 = .ok (.goto (-22), 3) := by decide +kernel
theorem dX3_findFirsts_35 : decode cX3_findFirsts 35 = .ok (.aload_n 0, 1) := by decide +kernel
theorem dX3_findFirsts_36 : decode cX3_findFirsts 36 = .ok (.getfield 137, 3) := by decide +kernel
theorem dX3_findFirsts_39 : decode cX3_findFirsts 39 = .ok (.iconst 1, 1) := by decide +kernel
theorem dX3_findFirsts_40 : decode cX3_findFirsts 40 = .ok (.isub, 1) := by decide +kernel
theorem dX3_findFirsts_41 : decode cX3_findFirsts 41 = .ok (.aload_n 0, 1) := by decide +kernel
theorem dX3_findFirsts_42 : decode cX3_findFirsts 42 = .ok (.getfield 114, 3) := by decide +kernel
theorem dX3_findFirsts_45 : decode cX3_findFirsts 45 = .ok (.iconst 1, 1) := by decide +kernel
theorem dX3_findFirsts_46 : decode cX3_findFirsts 46 = .ok (.invokestatic 160, 3) := by decide +kernel
theorem dX3_findFirsts_49 : decode cX3_findFirsts 49 = .ok (.idiv, 1) := by decide +kernel
theorem dX3_findFirsts_50 : decode cX3_findFirsts 50 = .ok (.istore_n 1, 1) := by decide +kernel
theorem dX3_findFirsts_51 : decode cX3_findFirsts 51 = .ok (.iload_n 1, 1) := by decide +kernel
theorem dX3_findFirsts_52 : decode cX3_findFirsts 52 = .ok (.aload_n 0, 1) := by decide +kernel
theorem dX3_findFirsts_53 : decode cX3_findFirsts 53 = .ok (.getfield 137, 3) := by decide +kernel
theorem dX3_findFirsts_56 : decode cX3_findFirsts 56 = .ok (.if_icmp .ge 53, 3) := by decide +kernel
theorem dX3_findFirsts_59 : decode cX3_findFirsts 59 = .ok (.iconst 0, 1) := by decide +kernel
theorem dX3_findFirsts_60 : decode cX3_findFirsts 60 = .ok (.istore_n 2, 1) := by decide +kernel
theorem dX3_findFirsts_61 : decode cX3_findFirsts 61 = .ok (.iload_n 2, 1) := by decide +kernel
theorem dX3_findFirsts_62 : decode cX3_findFirsts 62 = .ok (.aload_n 0, 1) := by decide +kernel
theorem dX3_findFirsts_63 : decode cX3_findFirsts 63 = .ok (.getfield 114, 3) := by decide +kernel
theorem dX3_findFirsts_66 : decode cX3_findFirsts 66 = .ok (.if_icmp .ge 37, 3) := by decide +kernel
theorem dX3_findFirsts_69 : decode cX3_findFirsts 69 = .ok (.aload_n 0, 1) := by decide +kernel
theorem dX3_findFirsts_70 : decode cX3_findFirsts 70 = .ok (.aload_n 0, 1) := by decide +kernel
theorem dX3_findFirsts_71 : decode cX3_findFirsts 71 = .ok (.getfield 42, 3) := by decide +kernel
theorem dX3_findFirsts_74 : decode cX3_findFirsts 74 = .ok (.aload_n 0, 1) := by decide +kernel
theorem dX3_findFirsts_75 : decode cX3_findFirsts 75 = .ok (.getfield 11, 3) := by decide +kernel
theorem dX3_findFirsts_78 : decode cX3_findFirsts 78 = .ok (.iload_n 1, 1) := by decide +kernel
theorem dX3_findFirsts_79 : decode cX3_findFirsts 79 = .ok (.iaload, 1) := by decide +kernel
theorem dX3_findFirsts_80 : decode cX3_findFirsts 80 = .ok (.iload_n 2, 1) := by decide +kernel
theorem dX3_findFirsts_81 : decode cX3_findFirsts 81 = .ok (.invokevirtual 134, 3) := by decide +kernel
theorem dX3_findFirsts_84 : decode cX3_findFirsts 84 = .ok (.iload_n 1, 1) := by decide +kernel
theorem dX3_findFirsts_85 : decode cX3_findFirsts 85 = .ok (.aload_n 0, 1) := by decide +kernel
theorem dX3_findFirsts_86 : decode cX3_findFirsts 86 = .ok (.getfield 114, 3) := by decide +kernel
theorem dX3_findFirsts_89 : decode cX3_findFirsts 89 = .ok (.imul, 1) := by decide +kernel
theorem dX3_findFirsts_90 : decode cX3_findFirsts 90 = .ok (.iconst 1, 1) := by decide +kernel
theorem dX3_findFirsts_91 : decode cX3_findFirsts 91 = .ok (.iadd, 1) := by decide +kernel
theorem dX3_findFirsts_92 : decode cX3_findFirsts 92 = .ok (.iload_n 2, 1) := by decide +kernel
theorem dX3_findFirsts_93 : decode cX3_findFirsts 93 = .ok (.iadd, 1) := by decide +kernel
theorem dX3_findFirsts_94 : decode cX3_findFirsts 94 = .ok (.invokevirtual 157, 3) := by decide +kernel
theorem dX3_findFirsts_97 : decode cX3_findFirsts 97 = .ok (.iinc 2 1, 3) := by decide +kernel
theorem dX3_findFirsts_100 : decode cX3_findFirsts 100 = .ok (.goto (-39), 3) := by decide +kernel
theorem dX3_findFirsts_103 : decode cX3_findFirsts 103 = .ok (.iinc 1 1, 3) := by decide +kernel
theorem dX3_findFirsts_106 : decode cX3_findFirsts 106 = .ok (.goto (-55), 3) := by decide +kernel
theorem dX3_findFirsts_109 : decode cX3_findFirsts 109 = .ok (.aload_n 0, 1) := by decide +kernel
theorem dX3_findFirsts_110 : decode cX3_findFirsts 110 = .ok (.iconst 1, 1) := by decide +kernel
theorem dX3_findFirsts_111 : decode cX3_findFirsts 111 = .ok (.putfield 99, 3) := by decide +kernel
theorem dX3_findFirsts_114 : decode cX3_findFirsts 114 = .ok (.return_, 1) := by decide +kernel
theorem dX3_noteFirst_0 : decode cX3_noteFirst 0 = .ok (.iload_n 1, 1) := by decide +kernel
theorem dX3_noteFirst_1 : decode cX3_noteFirst 1 = .ok (.invokestatic 73, 3) := by decide +kernel
theorem dX3_noteFirst_4 : decode cX3_noteFirst 4 = .ok (.istore_n 3, 1) := by decide +kernel
theorem dX3_noteFirst_5 : decode cX3_noteFirst 5 = .ok (.aload_n 0, 1) := by decide +kernel
theorem dX3_noteFirst_6 : decode cX3_noteFirst 6 = .ok (.getfield 33, 3) := by decide +kernel
theorem dX3_noteFirst_9 : decode cX3_noteFirst 9 = .ok (.iload_n 3, 1) := by decide +kernel
theorem dX3_noteFirst_10 : decode cX3_noteFirst 10 = .ok (.iaload, 1) := by decide +kernel
theorem dX3_noteFirst_11 : decode cX3_noteFirst 11 = .ok (.ifCond .ge 10, 3) := by decide +kernel
theorem dX3_noteFirst_14 : decode cX3_noteFirst 14 = .ok (.aload_n 0, 1) := by decide +kernel
theorem dX3_noteFirst_15 : decode cX3_noteFirst 15 = .ok (.getfield 33, 3) := by decide +kernel
theorem dX3_noteFirst_18 : decode cX3_noteFirst 18 = .ok (.iload_n 3, 1) := by decide +kernel
theorem dX3_noteFirst_19 : decode cX3_noteFirst 19 = .ok (.iload_n 2, 1) := by decide +kernel
theorem dX3_noteFirst_20 : decode cX3_noteFirst 20 = .ok (.iastore, 1) := by decide +kernel
theorem dX3_noteFirst_21 : decode cX3_noteFirst 21 = .ok (.return_, 1) := by decide +kernel
theorem dX3_gather_0 : decode cX3_gather 0 = .ok (.iload_n 1, 1) := by decide +kernel
theorem dX3_gather_1 : decode cX3_gather 1 = .ok (.invokestatic 73, 3) := by decide +kernel
theorem dX3_gather_4 : decode cX3_gather 4 = .ok (.istore_n 3, 1) := by decide +kernel
theorem dX3_gather_5 : decode cX3_gather 5 = .ok (.aload_n 0, 1) := by decide +kernel
theorem dX3_gather_6 : decode cX3_gather 6 = .ok (.iconst 0, 1) := by decide +kernel
theorem dX3_gather_7 : decode cX3_gather 7 = .ok (.putfield 66, 3) := by decide +kernel
theorem dX3_gather_10 : decode cX3_gather 10 = .ok (.iconst 0, 1) := by decide +kernel
theorem dX3_gather_11 : decode cX3_gather 11 = .ok (.istore 4, 2) := by decide +kernel
theorem dX3_gather_13 : decode cX3_gather 13 = .ok (.iload 4, 2) := by decide +kernel
theorem dX3_gather_15 : decode cX3_gather 15 = .ok (.aload_n 0, 1) := by decide +kernel
theorem dX3_gather_16 : decode cX3_gather 16 = .ok (.getfield 92, 3) := by decide +kernel
theorem dX3_gather_19 : decode cX3_gather 19 = .ok (.if_icmp .ge 61, 3) := by decide +kernel
theorem dX3_gather_22 : decode cX3_gather 22 = .ok (.aload_n 0, 1) := by decide +kernel
theorem dX3_gather_23 : decode cX3_gather 23 = .ok (.getfield 15, 3) := by decide +kernel
theorem dX3_gather_26 : decode cX3_gather 26 = .ok (.iload 4, 2) := by decide +kernel
theorem dX3_gather_28 : decode cX3_gather 28 = .ok (.iaload, 1) := by decide +kernel
theorem dX3_gather_29 : decode cX3_gather 29 = .ok (.istore 5, 2) := by decide +kernel
theorem dX3_gather_31 : decode cX3_gather 31 = .ok (.iload_n 3, 1) := by decide +kernel
theorem dX3_gather_32 : decode cX3_gather 32 = .ok (.iload 5, 2) := by decide +kernel
theorem dX3_gather_34 : decode cX3_gather 34 = .ok (.invokestatic 73, 3) := by decide +kernel
theorem dX3_gather_37 : decode cX3_gather 37 = .ok (.invokestatic 163, 3) := by decide +kernel
theorem dX3_gather_40 : decode cX3_gather 40 = .ok (.ifCond .eq 34, 3) := by decide +kernel
theorem dX3_gather_43 : decode cX3_gather 43 = .ok (.iload_n 2, 1) := by decide +kernel
theorem dX3_gather_44 : decode cX3_gather 44 = .ok (.iload 5, 2) := by decide +kernel
theorem dX3_gather_46 : decode cX3_gather 46 = .ok (.iload_n 1, 1) := by decide +kernel
theorem dX3_gather_47 : decode cX3_gather 47 = .ok (.invokestatic 166, 3) := by decide +kernel
theorem dX3_gather_50 : decode cX3_gather 50 = .ok (.ifCond .eq 24, 3) := by decide +kernel
theorem dX3_gather_53 : decode cX3_gather 53 = .ok (.aload_n 0, 1) := by decide +kernel
theorem dX3_gather_54 : decode cX3_gather 54 = .ok (.getfield 30, 3) := by decide +kernel
theorem dX3_gather_57 : decode cX3_gather 57 = .ok (.aload_n 0, 1) := by decide +kernel
theorem dX3_gather_58 : decode cX3_gather 58 = .ok (.getfield 66, 3) := by decide +kernel
theorem dX3_gather_61 : decode cX3_gather 61 = .ok (.iload 4, 2) := by decide +kernel
theorem dX3_gather_63 : decode cX3_gather 63 = .ok (.iastore, 1) := by decide +kernel
theorem dX3_gather_64 : decode cX3_gather 64 = .ok (.aload_n 0, 1) := by decide +kernel
theorem dX3_gather_65 : decode cX3_gather 65 = .ok (.dup, 1) := by decide +kernel
theorem dX3_gather_66 : decode cX3_gather 66 = .ok (.getfield 66, 3) := by decide +kernel
theorem dX3_gather_69 : decode cX3_gather 69 = .ok (.iconst 1, 1) := by decide +kernel
theorem dX3_gather_70 : decode cX3_gather 70 = .ok (.iadd, 1) := by decide +kernel
theorem dX3_gather_71 : decode cX3_gather 71 = .ok (.putfield 66, 3) := by decide +kernel
theorem dX3_gather_74 : decode cX3_gather 74 = .ok (.iinc 4 1, 3) := by decide +kernel
theorem dX3_gather_77 : decode cX3_gather 77 = .ok (.goto (-64), 3) := by decide +kernel
theorem dX3_gather_80 : decode cX3_gather 80 = .ok (.return_, 1) := by decide +kernel
theorem dX3_holdsCase_0 : decode cX3_holdsCase 0 = .ok (.aload_n 0, 1) := by decide +kernel
theorem dX3_holdsCase_1 : decode cX3_holdsCase 1 = .ok (.getfield 15, 3) := by decide +kernel
theorem dX3_holdsCase_4 : decode cX3_holdsCase 4 = .ok (.iload_n 1, 1) := by decide +kernel
theorem dX3_holdsCase_5 : decode cX3_holdsCase 5 = .ok (.iaload, 1) := by decide +kernel
theorem dX3_holdsCase_6 : decode cX3_holdsCase 6 = .ok (.iload_n 2, 1) := by decide +kernel
theorem dX3_holdsCase_7 : decode cX3_holdsCase 7 = .ok (.ishr, 1) := by decide +kernel
theorem dX3_holdsCase_8 : decode cX3_holdsCase 8 = .ok (.iconst 1, 1) := by decide +kernel
theorem dX3_holdsCase_9 : decode cX3_holdsCase 9 = .ok (.iand, 1) := by decide +kernel
theorem dX3_holdsCase_10 : decode cX3_holdsCase 10 = .ok (.ifCond .eq 7, 3) := by decide +kernel
theorem dX3_holdsCase_13 : decode cX3_holdsCase 13 = .ok (.iconst 1, 1) := by decide +kernel
theorem dX3_holdsCase_14 : decode cX3_holdsCase 14 = .ok (.goto 4, 3) := by decide +kernel
theorem dX3_holdsCase_17 : decode cX3_holdsCase 17 = .ok (.iconst 0, 1) := by decide +kernel
theorem dX3_holdsCase_18 : decode cX3_holdsCase 18 = .ok (.ireturn, 1) := by decide +kernel
theorem dX3_chosen_0 : decode cX3_chosen 0 = .ok (.iconst (-1), 1) := by decide +kernel
theorem dX3_chosen_1 : decode cX3_chosen 1 = .ok (.istore_n 3, 1) := by decide +kernel
theorem dX3_chosen_2 : decode cX3_chosen 2 = .ok (.iconst 0, 1) := by decide +kernel
theorem dX3_chosen_3 : decode cX3_chosen 3 = .ok (.istore 4, 2) := by decide +kernel
theorem dX3_chosen_5 : decode cX3_chosen 5 = .ok (.iload 4, 2) := by decide +kernel
theorem dX3_chosen_7 : decode cX3_chosen 7 = .ok (.aload_n 0, 1) := by decide +kernel
theorem dX3_chosen_8 : decode cX3_chosen 8 = .ok (.getfield 66, 3) := by decide +kernel
theorem dX3_chosen_11 : decode cX3_chosen 11 = .ok (.if_icmp .ge 46, 3) := by decide +kernel
theorem dX3_chosen_14 : decode cX3_chosen 14 = .ok (.aload_n 0, 1) := by decide +kernel
theorem dX3_chosen_15 : decode cX3_chosen 15 = .ok (.getfield 30, 3) := by decide +kernel
theorem dX3_chosen_18 : decode cX3_chosen 18 = .ok (.iload 4, 2) := by decide +kernel
theorem dX3_chosen_20 : decode cX3_chosen 20 = .ok (.iaload, 1) := by decide +kernel
theorem dX3_chosen_21 : decode cX3_chosen 21 = .ok (.istore 5, 2) := by decide +kernel
theorem dX3_chosen_23 : decode cX3_chosen 23 = .ok (.aload_n 0, 1) := by decide +kernel
theorem dX3_chosen_24 : decode cX3_chosen 24 = .ok (.iload 5, 2) := by decide +kernel
theorem dX3_chosen_26 : decode cX3_chosen 26 = .ok (.iload_n 2, 1) := by decide +kernel
theorem dX3_chosen_27 : decode cX3_chosen 27 = .ok (.invokevirtual 69, 3) := by decide +kernel
theorem dX3_chosen_30 : decode cX3_chosen 30 = .ok (.ifCond .eq 21, 3) := by decide +kernel
theorem dX3_chosen_33 : decode cX3_chosen 33 = .ok (.iload_n 3, 1) := by decide +kernel
theorem dX3_chosen_34 : decode cX3_chosen 34 = .ok (.ifCond .lt 14, 3) := by decide +kernel
theorem dX3_chosen_37 : decode cX3_chosen 37 = .ok (.aload_n 0, 1) := by decide +kernel
theorem dX3_chosen_38 : decode cX3_chosen 38 = .ok (.iload_n 1, 1) := by decide +kernel
theorem dX3_chosen_39 : decode cX3_chosen 39 = .ok (.iload 5, 2) := by decide +kernel
theorem dX3_chosen_41 : decode cX3_chosen 41 = .ok (.iload_n 3, 1) := by decide +kernel
theorem dX3_chosen_42 : decode cX3_chosen 42 = .ok (.invokevirtual 170, 3) := by decide +kernel
theorem dX3_chosen_45 : decode cX3_chosen 45 = .ok (.ifCond .eq 6, 3) := by decide +kernel
theorem dX3_chosen_48 : decode cX3_chosen 48 = .ok (.iload 5, 2) := by decide +kernel
theorem dX3_chosen_50 : decode cX3_chosen 50 = .ok (.istore_n 3, 1) := by decide +kernel
theorem dX3_chosen_51 : decode cX3_chosen 51 = .ok (.iinc 4 1, 3) := by decide +kernel
theorem dX3_chosen_54 : decode cX3_chosen 54 = .ok (.goto (-49), 3) := by decide +kernel
theorem dX3_chosen_57 : decode cX3_chosen 57 = .ok (.iload_n 3, 1) := by decide +kernel
theorem dX3_chosen_58 : decode cX3_chosen 58 = .ok (.ireturn, 1) := by decide +kernel
theorem dX3_isLiked_0 : decode cX3_isLiked 0 = .ok (.aload_n 0, 1) := by decide +kernel
theorem dX3_isLiked_1 : decode cX3_isLiked 1 = .ok (.getfield 24, 3) := by decide +kernel
theorem dX3_isLiked_4 : decode cX3_isLiked 4 = .ok (.iload_n 2, 1) := by decide +kernel
theorem dX3_isLiked_5 : decode cX3_isLiked 5 = .ok (.iaload, 1) := by decide +kernel
theorem dX3_isLiked_6 : decode cX3_isLiked 6 = .ok (.aload_n 0, 1) := by decide +kernel
theorem dX3_isLiked_7 : decode cX3_isLiked 7 = .ok (.getfield 24, 3) := by decide +kernel
theorem dX3_isLiked_10 : decode cX3_isLiked 10 = .ok (.iload_n 3, 1) := by decide +kernel
theorem dX3_isLiked_11 : decode cX3_isLiked 11 = .ok (.iaload, 1) := by decide +kernel
theorem dX3_isLiked_12 : decode cX3_isLiked 12 = .ok (.isub, 1) := by decide +kernel
theorem dX3_isLiked_13 : decode cX3_isLiked 13 = .ok (.istore 4, 2) := by decide +kernel
theorem dX3_isLiked_15 : decode cX3_isLiked 15 = .ok (.aload_n 0, 1) := by decide +kernel
theorem dX3_isLiked_16 : decode cX3_isLiked 16 = .ok (.getfield 15, 3) := by decide +kernel
theorem dX3_isLiked_19 : decode cX3_isLiked 19 = .ok (.iload_n 2, 1) := by decide +kernel
theorem dX3_isLiked_20 : decode cX3_isLiked 20 = .ok (.iaload, 1) := by decide +kernel
theorem dX3_isLiked_21 : decode cX3_isLiked 21 = .ok (.invokestatic 151, 3) := by decide +kernel
theorem dX3_isLiked_24 : decode cX3_isLiked 24 = .ok (.aload_n 0, 1) := by decide +kernel
theorem dX3_isLiked_25 : decode cX3_isLiked 25 = .ok (.getfield 15, 3) := by decide +kernel
theorem dX3_isLiked_28 : decode cX3_isLiked 28 = .ok (.iload_n 3, 1) := by decide +kernel
theorem dX3_isLiked_29 : decode cX3_isLiked 29 = .ok (.iaload, 1) := by decide +kernel
theorem dX3_isLiked_30 : decode cX3_isLiked 30 = .ok (.invokestatic 151, 3) := by decide +kernel
theorem dX3_isLiked_33 : decode cX3_isLiked 33 = .ok (.isub, 1) := by decide +kernel
theorem dX3_isLiked_34 : decode cX3_isLiked 34 = .ok (.istore 5, 2) := by decide +kernel
theorem dX3_isLiked_36 : decode cX3_isLiked 36 = .ok (.iload_n 1, 1) := by decide +kernel
theorem dX3_isLiked_37 : decode cX3_isLiked 37 = .ok (.tableswitch 95 0 3 #[31, 42, 53, 74], 31) := by decide +kernel
theorem dX3_isLiked_68 : decode cX3_isLiked 68 = .ok (.iload 4, 2) := by decide +kernel
theorem dX3_isLiked_70 : decode cX3_isLiked 70 = .ok (.ifCond .le 7, 3) := by decide +kernel
theorem dX3_isLiked_73 : decode cX3_isLiked 73 = .ok (.iconst 1, 1) := by decide +kernel
theorem dX3_isLiked_74 : decode cX3_isLiked 74 = .ok (.goto 4, 3) := by decide +kernel
theorem dX3_isLiked_77 : decode cX3_isLiked 77 = .ok (.iconst 0, 1) := by decide +kernel
theorem dX3_isLiked_78 : decode cX3_isLiked 78 = .ok (.ireturn, 1) := by decide +kernel
theorem dX3_isLiked_79 : decode cX3_isLiked 79 = .ok (.iload 4, 2) := by decide +kernel
theorem dX3_isLiked_81 : decode cX3_isLiked 81 = .ok (.ifCond .ge 7, 3) := by decide +kernel
theorem dX3_isLiked_84 : decode cX3_isLiked 84 = .ok (.iconst 1, 1) := by decide +kernel
theorem dX3_isLiked_85 : decode cX3_isLiked 85 = .ok (.goto 4, 3) := by decide +kernel
theorem dX3_isLiked_88 : decode cX3_isLiked 88 = .ok (.iconst 0, 1) := by decide +kernel
theorem dX3_isLiked_89 : decode cX3_isLiked 89 = .ok (.ireturn, 1) := by decide +kernel
theorem dX3_isLiked_90 : decode cX3_isLiked 90 = .ok (.iload 5, 2) := by decide +kernel
theorem dX3_isLiked_92 : decode cX3_isLiked 92 = .ok (.ifCond .lt 13, 3) := by decide +kernel
theorem dX3_isLiked_95 : decode cX3_isLiked 95 = .ok (.iload 5, 2) := by decide +kernel
theorem dX3_isLiked_97 : decode cX3_isLiked 97 = .ok (.ifCond .ne 12, 3) := by decide +kernel
theorem dX3_isLiked_100 : decode cX3_isLiked 100 = .ok (.iload 4, 2) := by decide +kernel
theorem dX3_isLiked_102 : decode cX3_isLiked 102 = .ok (.ifCond .le 7, 3) := by decide +kernel
theorem dX3_isLiked_105 : decode cX3_isLiked 105 = .ok (.iconst 1, 1) := by decide +kernel
theorem dX3_isLiked_106 : decode cX3_isLiked 106 = .ok (.goto 4, 3) := by decide +kernel
theorem dX3_isLiked_109 : decode cX3_isLiked 109 = .ok (.iconst 0, 1) := by decide +kernel
theorem dX3_isLiked_110 : decode cX3_isLiked 110 = .ok (.ireturn, 1) := by decide +kernel
theorem dX3_isLiked_111 : decode cX3_isLiked 111 = .ok (.iload 5, 2) := by decide +kernel
theorem dX3_isLiked_113 : decode cX3_isLiked 113 = .ok (.ifCond .gt 13, 3) := by decide +kernel
theorem dX3_isLiked_116 : decode cX3_isLiked 116 = .ok (.iload 5, 2) := by decide +kernel
theorem dX3_isLiked_118 : decode cX3_isLiked 118 = .ok (.ifCond .ne 12, 3) := by decide +kernel
theorem dX3_isLiked_121 : decode cX3_isLiked 121 = .ok (.iload 4, 2) := by decide +kernel
theorem dX3_isLiked_123 : decode cX3_isLiked 123 = .ok (.ifCond .ge 7, 3) := by decide +kernel
theorem dX3_isLiked_126 : decode cX3_isLiked 126 = .ok (.iconst 1, 1) := by decide +kernel
theorem dX3_isLiked_127 : decode cX3_isLiked 127 = .ok (.goto 4, 3) := by decide +kernel
theorem dX3_isLiked_130 : decode cX3_isLiked 130 = .ok (.iconst 0, 1) := by decide +kernel
theorem dX3_isLiked_131 : decode cX3_isLiked 131 = .ok (.ireturn, 1) := by decide +kernel
theorem dX3_isLiked_132 : decode cX3_isLiked 132 = .ok (.iconst 0, 1) := by decide +kernel
theorem dX3_isLiked_133 : decode cX3_isLiked 133 = .ok (.ireturn, 1) := by decide +kernel
theorem dX3_findBest_0 : decode cX3_findBest 0 = .ok (.aload_n 0, 1) := by decide +kernel
theorem dX3_findBest_1 : decode cX3_findBest 1 = .ok (.invokevirtual 50, 3) := by decide +kernel
theorem dX3_findBest_4 : decode cX3_findBest 4 = .ok (.aload_n 0, 1) := by decide +kernel
theorem dX3_findBest_5 : decode cX3_findBest 5 = .ok (.getfield 92, 3) := by decide +kernel
theorem dX3_findBest_8 : decode cX3_findBest 8 = .ok (.iconst 2, 1) := by decide +kernel
theorem dX3_findBest_9 : decode cX3_findBest 9 = .ok (.if_icmp .lt 19, 3) := by decide +kernel
theorem dX3_findBest_12 : decode cX3_findBest 12 = .ok (.iload_n 1, 1) := by decide +kernel
theorem dX3_findBest_13 : decode cX3_findBest 13 = .ok (.ifCond .lt 15, 3) := by decide +kernel
theorem dX3_findBest_16 : decode cX3_findBest 16 = .ok (.iload_n 1, 1) := by decide +kernel
theorem dX3_findBest_17 : decode cX3_findBest 17 = .ok (.iconst 5, 1) := by decide +kernel
theorem dX3_findBest_18 : decode cX3_findBest 18 = .ok (.if_icmp .ge 10, 3) := by decide +kernel
theorem dX3_findBest_21 : decode cX3_findBest 21 = .ok (.iload_n 2, 1) := by decide +kernel
theorem dX3_findBest_22 : decode cX3_findBest 22 = .ok (.invokestatic 173, 3) := by decide +kernel
theorem dX3_findBest_25 : decode cX3_findBest 25 = .ok (.ifCond .ne 5, 3) := by decide +kernel
theorem dX3_findBest_28 : decode cX3_findBest 28 = .ok (.iconst (-1), 1) := by decide +kernel
theorem dX3_findBest_29 : decode cX3_findBest 29 = .ok (.ireturn, 1) := by decide +kernel
theorem dX3_findBest_30 : decode cX3_findBest 30 = .ok (.iload_n 2, 1) := by decide +kernel
theorem dX3_findBest_31 : decode cX3_findBest 31 = .ok (.iconst 5, 1) := by decide +kernel
theorem dX3_findBest_32 : decode cX3_findBest 32 = .ok (.imul, 1) := by decide +kernel
theorem dX3_findBest_33 : decode cX3_findBest 33 = .ok (.iload_n 1, 1) := by decide +kernel
theorem dX3_findBest_34 : decode cX3_findBest 34 = .ok (.iadd, 1) := by decide +kernel
theorem dX3_findBest_35 : decode cX3_findBest 35 = .ok (.istore_n 3, 1) := by decide +kernel
theorem dX3_findBest_36 : decode cX3_findBest 36 = .ok (.aload_n 0, 1) := by decide +kernel
theorem dX3_findBest_37 : decode cX3_findBest 37 = .ok (.getfield 39, 3) := by decide +kernel
theorem dX3_findBest_40 : decode cX3_findBest 40 = .ok (.iload_n 3, 1) := by decide +kernel
theorem dX3_findBest_41 : decode cX3_findBest 41 = .ok (.iaload, 1) := by decide +kernel
theorem dX3_findBest_42 : decode cX3_findBest 42 = .ok (.ifCond .ge 88, 3) := by decide +kernel
theorem dX3_findBest_45 : decode cX3_findBest 45 = .ok (.aload_n 0, 1) := by decide +kernel
theorem dX3_findBest_46 : decode cX3_findBest 46 = .ok (.getfield 36, 3) := by decide +kernel
theorem dX3_findBest_49 : decode cX3_findBest 49 = .ok (.iload_n 3, 1) := by decide +kernel
theorem dX3_findBest_50 : decode cX3_findBest 50 = .ok (.iconst 1, 1) := by decide +kernel
theorem dX3_findBest_51 : decode cX3_findBest 51 = .ok (.iastore, 1) := by decide +kernel
theorem dX3_findBest_52 : decode cX3_findBest 52 = .ok (.aload_n 0, 1) := by decide +kernel
theorem dX3_findBest_53 : decode cX3_findBest 53 = .ok (.getfield 39, 3) := by decide +kernel
theorem dX3_findBest_56 : decode cX3_findBest 56 = .ok (.iload_n 3, 1) := by decide +kernel
theorem dX3_findBest_57 : decode cX3_findBest 57 = .ok (.aload_n 0, 1) := by decide +kernel
theorem dX3_findBest_58 : decode cX3_findBest 58 = .ok (.aload_n 0, 1) := by decide +kernel
theorem dX3_findBest_59 : decode cX3_findBest 59 = .ok (.getfield 15, 3) := by decide +kernel
theorem dX3_findBest_62 : decode cX3_findBest 62 = .ok (.iconst 1, 1) := by decide +kernel
theorem dX3_findBest_63 : decode cX3_findBest 63 = .ok (.iaload, 1) := by decide +kernel
theorem dX3_findBest_64 : decode cX3_findBest 64 = .ok (.iload_n 1, 1) := by decide +kernel
theorem dX3_findBest_65 : decode cX3_findBest 65 = .ok (.iload_n 2, 1) := by decide +kernel
theorem dX3_findBest_66 : decode cX3_findBest 66 = .ok (.invokevirtual 79, 3) := by decide +kernel
theorem dX3_findBest_69 : decode cX3_findBest 69 = .ok (.iastore, 1) := by decide +kernel
theorem dX3_findBest_70 : decode cX3_findBest 70 = .ok (.iconst 2, 1) := by decide +kernel
theorem dX3_findBest_71 : decode cX3_findBest 71 = .ok (.istore 4, 2) := by decide +kernel
theorem dX3_findBest_73 : decode cX3_findBest 73 = .ok (.iload 4, 2) := by decide +kernel
theorem dX3_findBest_75 : decode cX3_findBest 75 = .ok (.aload_n 0, 1) := by decide +kernel
theorem dX3_findBest_76 : decode cX3_findBest 76 = .ok (.getfield 92, 3) := by decide +kernel
theorem dX3_findBest_79 : decode cX3_findBest 79 = .ok (.if_icmp .ge 51, 3) := by decide +kernel
theorem dX3_findBest_82 : decode cX3_findBest 82 = .ok (.aload_n 0, 1) := by decide +kernel
theorem dX3_findBest_83 : decode cX3_findBest 83 = .ok (.aload_n 0, 1) := by decide +kernel
theorem dX3_findBest_84 : decode cX3_findBest 84 = .ok (.getfield 15, 3) := by decide +kernel
theorem dX3_findBest_87 : decode cX3_findBest 87 = .ok (.iload 4, 2) := by decide +kernel
theorem dX3_findBest_89 : decode cX3_findBest 89 = .ok (.iaload, 1) := by decide +kernel
theorem dX3_findBest_90 : decode cX3_findBest 90 = .ok (.iload_n 1, 1) := by decide +kernel
theorem dX3_findBest_91 : decode cX3_findBest 91 = .ok (.iload_n 2, 1) := by decide +kernel
theorem dX3_findBest_92 : decode cX3_findBest 92 = .ok (.invokevirtual 79, 3) := by decide +kernel
theorem dX3_findBest_95 : decode cX3_findBest 95 = .ok (.istore 5, 2) := by decide +kernel
theorem dX3_findBest_97 : decode cX3_findBest 97 = .ok (.iload 5, 2) := by decide +kernel
theorem dX3_findBest_99 : decode cX3_findBest 99 = .ok (.aload_n 0, 1) := by decide +kernel
theorem dX3_findBest_100 : decode cX3_findBest 100 = .ok (.getfield 39, 3) := by decide +kernel
theorem dX3_findBest_103 : decode cX3_findBest 103 = .ok (.iload_n 3, 1) := by decide +kernel
theorem dX3_findBest_104 : decode cX3_findBest 104 = .ok (.iaload, 1) := by decide +kernel
theorem dX3_findBest_105 : decode cX3_findBest 105 = .ok (.if_icmp .ge 19, 3) := by decide +kernel
theorem dX3_findBest_108 : decode cX3_findBest 108 = .ok (.aload_n 0, 1) := by decide +kernel
theorem dX3_findBest_109 : decode cX3_findBest 109 = .ok (.getfield 39, 3) := by decide +kernel
theorem dX3_findBest_112 : decode cX3_findBest 112 = .ok (.iload_n 3, 1) := by decide +kernel
theorem dX3_findBest_113 : decode cX3_findBest 113 = .ok (.iload 5, 2) := by decide +kernel
theorem dX3_findBest_115 : decode cX3_findBest 115 = .ok (.iastore, 1) := by decide +kernel
theorem dX3_findBest_116 : decode cX3_findBest 116 = .ok (.aload_n 0, 1) := by decide +kernel
theorem dX3_findBest_117 : decode cX3_findBest 117 = .ok (.getfield 36, 3) := by decide +kernel
theorem dX3_findBest_120 : decode cX3_findBest 120 = .ok (.iload_n 3, 1) := by decide +kernel
theorem dX3_findBest_121 : decode cX3_findBest 121 = .ok (.iload 4, 2) := by decide +kernel
theorem dX3_findBest_123 : decode cX3_findBest 123 = .ok (.iastore, 1) := by decide +kernel
theorem dX3_findBest_124 : decode cX3_findBest 124 = .ok (.iinc 4 1, 3) := by decide +kernel
theorem dX3_findBest_127 : decode cX3_findBest 127 = .ok (.goto (-54), 3) := by decide +kernel
theorem dX3_findBest_130 : decode cX3_findBest 130 = .ok (.iload_n 3, 1) := by decide +kernel
theorem dX3_findBest_131 : decode cX3_findBest 131 = .ok (.ireturn, 1) := by decide +kernel
theorem dX3_forcesAnswer_0 : decode cX3_forcesAnswer 0 = .ok (.aload_n 0, 1) := by decide +kernel
theorem dX3_forcesAnswer_1 : decode cX3_forcesAnswer 1 = .ok (.invokevirtual 176, 3) := by decide +kernel
theorem dX3_forcesAnswer_4 : decode cX3_forcesAnswer 4 = .ok (.istore_n 2, 1) := by decide +kernel
theorem dX3_forcesAnswer_5 : decode cX3_forcesAnswer 5 = .ok (.iconst 0, 1) := by decide +kernel
theorem dX3_forcesAnswer_6 : decode cX3_forcesAnswer 6 = .ok (.istore_n 3, 1) := by decide +kernel
theorem dX3_forcesAnswer_7 : decode cX3_forcesAnswer 7 = .ok (.iconst 0, 1) := by decide +kernel
theorem dX3_forcesAnswer_8 : decode cX3_forcesAnswer 8 = .ok (.istore 4, 2) := by decide +kernel
theorem dX3_forcesAnswer_10 : decode cX3_forcesAnswer 10 = .ok (.iload 4, 2) := by decide +kernel
theorem dX3_forcesAnswer_12 : decode cX3_forcesAnswer 12 = .ok (.aload_n 0, 1) := by decide +kernel
theorem dX3_forcesAnswer_13 : decode cX3_forcesAnswer 13 = .ok (.getfield 66, 3) := by decide +kernel
theorem dX3_forcesAnswer_16 : decode cX3_forcesAnswer 16 = .ok (.if_icmp .ge 49, 3) := by decide +kernel
theorem dX3_forcesAnswer_19 : decode cX3_forcesAnswer 19 = .ok (.aload_n 0, 1) := by decide +kernel
theorem dX3_forcesAnswer_20 : decode cX3_forcesAnswer 20 = .ok (.getfield 15, 3) := by decide +kernel
theorem dX3_forcesAnswer_23 : decode cX3_forcesAnswer 23 = .ok (.aload_n 0, 1) := by decide +kernel
theorem dX3_forcesAnswer_24 : decode cX3_forcesAnswer 24 = .ok (.getfield 30, 3) := by decide +kernel
theorem dX3_forcesAnswer_27 : decode cX3_forcesAnswer 27 = .ok (.iload 4, 2) := by decide +kernel
theorem dX3_forcesAnswer_29 : decode cX3_forcesAnswer 29 = .ok (.iaload, 1) := by decide +kernel
theorem dX3_forcesAnswer_30 : decode cX3_forcesAnswer 30 = .ok (.iaload, 1) := by decide +kernel
theorem dX3_forcesAnswer_31 : decode cX3_forcesAnswer 31 = .ok (.invokestatic 73, 3) := by decide +kernel
theorem dX3_forcesAnswer_34 : decode cX3_forcesAnswer 34 = .ok (.istore 5, 2) := by decide +kernel
theorem dX3_forcesAnswer_36 : decode cX3_forcesAnswer 36 = .ok (.iload 5, 2) := by decide +kernel
theorem dX3_forcesAnswer_38 : decode cX3_forcesAnswer 38 = .ok (.iload_n 2, 1) := by decide +kernel
theorem dX3_forcesAnswer_39 : decode cX3_forcesAnswer 39 = .ok (.iand, 1) := by decide +kernel
theorem dX3_forcesAnswer_40 : decode cX3_forcesAnswer 40 = .ok (.ifCond .eq 19, 3) := by decide +kernel
theorem dX3_forcesAnswer_43 : decode cX3_forcesAnswer 43 = .ok (.iload 5, 2) := by decide +kernel
theorem dX3_forcesAnswer_45 : decode cX3_forcesAnswer 45 = .ok (.iload_n 1, 1) := by decide +kernel
theorem dX3_forcesAnswer_46 : decode cX3_forcesAnswer 46 = .ok (.invokestatic 180, 3) := by decide +kernel
theorem dX3_forcesAnswer_49 : decode cX3_forcesAnswer 49 = .ok (.ifCond .ne 5, 3) := by decide +kernel
theorem dX3_forcesAnswer_52 : decode cX3_forcesAnswer 52 = .ok (.iconst 0, 1) := by decide +kernel
theorem dX3_forcesAnswer_53 : decode cX3_forcesAnswer 53 = .ok (.ireturn, 1) := by decide +kernel
theorem dX3_forcesAnswer_54 : decode cX3_forcesAnswer 54 = .ok (.iload_n 3, 1) := by decide +kernel
theorem dX3_forcesAnswer_55 : decode cX3_forcesAnswer 55 = .ok (.iload 5, 2) := by decide +kernel
theorem dX3_forcesAnswer_57 : decode cX3_forcesAnswer 57 = .ok (.ior, 1) := by decide +kernel
theorem dX3_forcesAnswer_58 : decode cX3_forcesAnswer 58 = .ok (.istore_n 3, 1) := by decide +kernel
theorem dX3_forcesAnswer_59 : decode cX3_forcesAnswer 59 = .ok (.iinc 4 1, 3) := by decide +kernel
theorem dX3_forcesAnswer_62 : decode cX3_forcesAnswer 62 = .ok (.goto (-52), 3) := by decide +kernel
theorem dX3_forcesAnswer_65 : decode cX3_forcesAnswer 65 = .ok (.iload_n 2, 1) := by decide +kernel
theorem dX3_forcesAnswer_66 : decode cX3_forcesAnswer 66 = .ok (.iload_n 3, 1) := by decide +kernel
theorem dX3_forcesAnswer_67 : decode cX3_forcesAnswer 67 = .ok (.iconst (-1), 1) := by decide +kernel
theorem dX3_forcesAnswer_68 : decode cX3_forcesAnswer 68 = .ok (.ixor, 1) := by decide +kernel
theorem dX3_forcesAnswer_69 : decode cX3_forcesAnswer 69 = .ok (.iand, 1) := by decide +kernel
theorem dX3_forcesAnswer_70 : decode cX3_forcesAnswer 70 = .ok (.ifCond .ne 7, 3) := by decide +kernel
theorem dX3_forcesAnswer_73 : decode cX3_forcesAnswer 73 = .ok (.iconst 1, 1) := by decide +kernel
theorem dX3_forcesAnswer_74 : decode cX3_forcesAnswer 74 = .ok (.goto 4, 3) := by decide +kernel
theorem dX3_forcesAnswer_77 : decode cX3_forcesAnswer 77 = .ok (.iconst 0, 1) := by decide +kernel
theorem dX3_forcesAnswer_78 : decode cX3_forcesAnswer 78 = .ok (.ireturn, 1) := by decide +kernel
theorem dX3_casesWithWeight_0 : decode cX3_casesWithWeight 0 = .ok (.iconst 0, 1) := by decide +kernel
theorem dX3_casesWithWeight_1 : decode cX3_casesWithWeight 1 = .ok (.istore_n 1, 1) := by decide +kernel
theorem dX3_casesWithWeight_2 : decode cX3_casesWithWeight 2 = .ok (.iconst 0, 1) := by decide +kernel
theorem dX3_casesWithWeight_3 : decode cX3_casesWithWeight 3 = .ok (.istore_n 2, 1) := by decide +kernel
theorem dX3_casesWithWeight_4 : decode cX3_casesWithWeight 4 = .ok (.iload_n 2, 1) := by decide +kernel
theorem dX3_casesWithWeight_5 : decode cX3_casesWithWeight 5 = .ok (.bipush 8, 2) := by decide +kernel
theorem dX3_casesWithWeight_7 : decode cX3_casesWithWeight 7 = .ok (.if_icmp .ge 27, 3) := by decide +kernel
theorem dX3_casesWithWeight_10 : decode cX3_casesWithWeight 10 = .ok (.aload_n 0, 1) := by decide +kernel
theorem dX3_casesWithWeight_11 : decode cX3_casesWithWeight 11 = .ok (.getfield 42, 3) := by decide +kernel
theorem dX3_casesWithWeight_14 : decode cX3_casesWithWeight 14 = .ok (.getfield 86, 3) := by decide +kernel
theorem dX3_casesWithWeight_17 : decode cX3_casesWithWeight 17 = .ok (.iload_n 2, 1) := by decide +kernel
theorem dX3_casesWithWeight_18 : decode cX3_casesWithWeight 18 = .ok (.iaload, 1) := by decide +kernel
theorem dX3_casesWithWeight_19 : decode cX3_casesWithWeight 19 = .ok (.ifCond .le 9, 3) := by decide +kernel
theorem dX3_casesWithWeight_22 : decode cX3_casesWithWeight 22 = .ok (.iload_n 1, 1) := by decide +kernel
theorem dX3_casesWithWeight_23 : decode cX3_casesWithWeight 23 = .ok (.iconst 1, 1) := by decide +kernel
theorem dX3_casesWithWeight_24 : decode cX3_casesWithWeight 24 = .ok (.iload_n 2, 1) := by decide +kernel
theorem dX3_casesWithWeight_25 : decode cX3_casesWithWeight 25 = .ok (.ishl, 1) := by decide +kernel
theorem dX3_casesWithWeight_26 : decode cX3_casesWithWeight 26 = .ok (.ior, 1) := by decide +kernel
theorem dX3_casesWithWeight_27 : decode cX3_casesWithWeight 27 = .ok (.istore_n 1, 1) := by decide +kernel
theorem dX3_casesWithWeight_28 : decode cX3_casesWithWeight 28 = .ok (.iinc 2 1, 3) := by decide +kernel
theorem dX3_casesWithWeight_31 : decode cX3_casesWithWeight 31 = .ok (.goto (-27), 3) := by decide +kernel
theorem dX3_casesWithWeight_34 : decode cX3_casesWithWeight 34 = .ok (.iload_n 1, 1) := by decide +kernel
theorem dX3_casesWithWeight_35 : decode cX3_casesWithWeight 35 = .ok (.ireturn, 1) := by decide +kernel
theorem dX4_meaning_0 : decode cX4_meaning 0 = .ok (.iload_n 0, 1) := by decide +kernel
theorem dX4_meaning_1 : decode cX4_meaning 1 = .ok (.sipush 255, 3) := by decide +kernel
theorem dX4_meaning_4 : decode cX4_meaning 4 = .ok (.iand, 1) := by decide +kernel
theorem dX4_meaning_5 : decode cX4_meaning 5 = .ok (.ireturn, 1) := by decide +kernel
theorem dX4_idles_0 : decode cX4_idles 0 = .ok (.iload_n 0, 1) := by decide +kernel
theorem dX4_idles_1 : decode cX4_idles 1 = .ok (.bipush 11, 2) := by decide +kernel
theorem dX4_idles_3 : decode cX4_idles 3 = .ok (.ishr, 1) := by decide +kernel
theorem dX4_idles_4 : decode cX4_idles 4 = .ok (.bipush 7, 2) := by decide +kernel
theorem dX4_idles_6 : decode cX4_idles 6 = .ok (.iand, 1) := by decide +kernel
theorem dX4_idles_7 : decode cX4_idles 7 = .ok (.ireturn, 1) := by decide +kernel
theorem dX4_length_0 : decode cX4_length 0 = .ok (.iload_n 0, 1) := by decide +kernel
theorem dX4_length_1 : decode cX4_length 1 = .ok (.bipush 14, 2) := by decide +kernel
theorem dX4_length_3 : decode cX4_length 3 = .ok (.ishr, 1) := by decide +kernel
theorem dX4_length_4 : decode cX4_length 4 = .ok (.bipush 7, 2) := by decide +kernel
theorem dX4_length_6 : decode cX4_length 6 = .ok (.iand, 1) := by decide +kernel
theorem dX4_length_7 : decode cX4_length 7 = .ok (.ireturn, 1) := by decide +kernel
theorem dX4_ofLength_0 : decode cX4_ofLength 0 = .ok (.sipush 255, 3) := by decide +kernel
theorem dX4_ofLength_3 : decode cX4_ofLength 3 = .ok (.iload_n 1, 1) := by decide +kernel
theorem dX4_ofLength_4 : decode cX4_ofLength 4 = .ok (.bipush 11, 2) := by decide +kernel
theorem dX4_ofLength_6 : decode cX4_ofLength 6 = .ok (.ishl, 1) := by decide +kernel
theorem dX4_ofLength_7 : decode cX4_ofLength 7 = .ok (.ior, 1) := by decide +kernel
theorem dX4_ofLength_8 : decode cX4_ofLength 8 = .ok (.iload_n 0, 1) := by decide +kernel
theorem dX4_ofLength_9 : decode cX4_ofLength 9 = .ok (.bipush 14, 2) := by decide +kernel
theorem dX4_ofLength_11 : decode cX4_ofLength 11 = .ok (.ishl, 1) := by decide +kernel
theorem dX4_ofLength_12 : decode cX4_ofLength 12 = .ok (.ior, 1) := by decide +kernel
theorem dX4_ofLength_13 : decode cX4_ofLength 13 = .ok (.ireturn, 1) := by decide +kernel
theorem dX4_grown_0 : decode cX4_grown 0 = .ok (.iload_n 0, 1) := by decide +kernel
theorem dX4_grown_1 : decode cX4_grown 1 = .ok (.sipush 16384, 3) := by decide +kernel
theorem dX4_grown_4 : decode cX4_grown 4 = .ok (.iadd, 1) := by decide +kernel
theorem dX4_grown_5 : decode cX4_grown 5 = .ok (.istore_n 3, 1) := by decide +kernel
theorem dX4_grown_6 : decode cX4_grown 6 = .ok (.iload_n 1, 1) := by decide +kernel
theorem dX4_grown_7 : decode cX4_grown 7 = .ok (.tableswitch 55 1 3 #[25, 31, 49], 25) := by decide +kernel
theorem dX4_grown_32 : decode cX4_grown 32 = .ok (.iload_n 3, 1) := by decide +kernel
theorem dX4_grown_33 : decode cX4_grown 33 = .ok (.sipush 256, 3) := by decide +kernel
theorem dX4_grown_36 : decode cX4_grown 36 = .ok (.ixor, 1) := by decide +kernel
theorem dX4_grown_37 : decode cX4_grown 37 = .ok (.ireturn, 1) := by decide +kernel
theorem dX4_grown_38 : decode cX4_grown 38 = .ok (.iload_n 3, 1) := by decide +kernel
theorem dX4_grown_39 : decode cX4_grown 39 = .ok (.sipush 1024, 3) := by decide +kernel
theorem dX4_grown_42 : decode cX4_grown 42 = .ok (.iand, 1) := by decide +kernel
theorem dX4_grown_43 : decode cX4_grown 43 = .ok (.ifCond .ne 7, 3) := by decide +kernel
theorem dX4_grown_46 : decode cX4_grown 46 = .ok (.iload_n 3, 1) := by decide +kernel
theorem dX4_grown_47 : decode cX4_grown 47 = .ok (.goto 8, 3) := by decide +kernel
theorem dX4_grown_50 : decode cX4_grown 50 = .ok (.iload_n 3, 1) := by decide +kernel
theorem dX4_grown_51 : decode cX4_grown 51 = .ok (.sipush 512, 3) := by decide +kernel
theorem dX4_grown_54 : decode cX4_grown 54 = .ok (.ior, 1) := by decide +kernel
theorem dX4_grown_55 : decode cX4_grown 55 = .ok (.ireturn, 1) := by decide +kernel
theorem dX4_grown_56 : decode cX4_grown 56 = .ok (.iload_n 3, 1) := by decide +kernel
theorem dX4_grown_57 : decode cX4_grown 57 = .ok (.sipush 2048, 3) := by decide +kernel
theorem dX4_grown_60 : decode cX4_grown 60 = .ok (.iadd, 1) := by decide +kernel
theorem dX4_grown_61 : decode cX4_grown 61 = .ok (.ireturn, 1) := by decide +kernel
theorem dX4_grown_62 : decode cX4_grown 62 = .ok (.iload_n 3, 1) := by decide +kernel
theorem dX4_grown_63 : decode cX4_grown 63 = .ok (.iload_n 2, 1) := by decide +kernel
theorem dX4_grown_64 : decode cX4_grown 64 = .ok (.invokestatic 11, 3) := by decide +kernel
theorem dX4_grown_67 : decode cX4_grown 67 = .ok (.ireturn, 1) := by decide +kernel
theorem dX4_withTelling_0 : decode cX4_withTelling 0 = .ok (.iload_n 0, 1) := by decide +kernel
theorem dX4_withTelling_1 : decode cX4_withTelling 1 = .ok (.sipush 256, 3) := by decide +kernel
theorem dX4_withTelling_4 : decode cX4_withTelling 4 = .ok (.iand, 1) := by decide +kernel
theorem dX4_withTelling_5 : decode cX4_withTelling 5 = .ok (.ifCond .ne 7, 3) := by decide +kernel
theorem dX4_withTelling_8 : decode cX4_withTelling 8 = .ok (.iload_n 1, 1) := by decide +kernel
theorem dX4_withTelling_9 : decode cX4_withTelling 9 = .ok (.goto 10, 3) := by decide +kernel
theorem dX4_withTelling_12 : decode cX4_withTelling 12 = .ok (.sipush 255, 3) := by decide +kernel
theorem dX4_withTelling_15 : decode cX4_withTelling 15 = .ok (.iload_n 1, 1) := by decide +kernel
theorem dX4_withTelling_16 : decode cX4_withTelling 16 = .ok (.iconst (-1), 1) := by decide +kernel
theorem dX4_withTelling_17 : decode cX4_withTelling 17 = .ok (.ixor, 1) := by decide +kernel
theorem dX4_withTelling_18 : decode cX4_withTelling 18 = .ok (.iand, 1) := by decide +kernel
theorem dX4_withTelling_19 : decode cX4_withTelling 19 = .ok (.istore_n 2, 1) := by decide +kernel
theorem dX4_withTelling_20 : decode cX4_withTelling 20 = .ok (.iload_n 0, 1) := by decide +kernel
theorem dX4_withTelling_21 : decode cX4_withTelling 21 = .ok (.sipush 255, 3) := by decide +kernel
theorem dX4_withTelling_24 : decode cX4_withTelling 24 = .ok (.iand, 1) := by decide +kernel
theorem dX4_withTelling_25 : decode cX4_withTelling 25 = .ok (.istore_n 3, 1) := by decide +kernel
theorem dX4_withTelling_26 : decode cX4_withTelling 26 = .ok (.iload_n 0, 1) := by decide +kernel
theorem dX4_withTelling_27 : decode cX4_withTelling 27 = .ok (.sipush 512, 3) := by decide +kernel
theorem dX4_withTelling_30 : decode cX4_withTelling 30 = .ok (.iand, 1) := by decide +kernel
theorem dX4_withTelling_31 : decode cX4_withTelling 31 = .ok (.ifCond .ne 9, 3) := by decide +kernel
theorem dX4_withTelling_34 : decode cX4_withTelling 34 = .ok (.iload_n 3, 1) := by decide +kernel
theorem dX4_withTelling_35 : decode cX4_withTelling 35 = .ok (.iload_n 2, 1) := by decide +kernel
theorem dX4_withTelling_36 : decode cX4_withTelling 36 = .ok (.iand, 1) := by decide +kernel
theorem dX4_withTelling_37 : decode cX4_withTelling 37 = .ok (.goto 6, 3) := by decide +kernel
theorem dX4_withTelling_40 : decode cX4_withTelling 40 = .ok (.iload_n 3, 1) := by decide +kernel
theorem dX4_withTelling_41 : decode cX4_withTelling 41 = .ok (.iload_n 2, 1) := by decide +kernel
theorem dX4_withTelling_42 : decode cX4_withTelling 42 = .ok (.ior, 1) := by decide +kernel
theorem dX4_withTelling_43 : decode cX4_withTelling 43 = .ok (.istore 4, 2) := by decide +kernel
theorem dX4_withTelling_45 : decode cX4_withTelling 45 = .ok (.iload_n 0, 1) := by decide +kernel
theorem dX4_withTelling_46 : decode cX4_withTelling 46 = .ok (.ldc 15, 2) := by decide +kernel
theorem dX4_withTelling_48 : decode cX4_withTelling 48 = .ok (.iand, 1) := by decide +kernel
theorem dX4_withTelling_49 : decode cX4_withTelling 49 = .ok (.sipush 1024, 3) := by decide +kernel
theorem dX4_withTelling_52 : decode cX4_withTelling 52 = .ok (.ior, 1) := by decide +kernel
theorem dX4_withTelling_53 : decode cX4_withTelling 53 = .ok (.iload 4, 2) := by decide +kernel
theorem dX4_withTelling_55 : decode cX4_withTelling 55 = .ok (.ior, 1) := by decide +kernel
theorem dX4_withTelling_56 : decode cX4_withTelling 56 = .ok (.ireturn, 1) := by decide +kernel
theorem dX5_init_0 : decode cX5_init 0 = .ok (.aload_n 0, 1) := by decide +kernel
theorem dX5_init_1 : decode cX5_init 1 = .ok (.invokespecial 3, 3) := by decide +kernel
theorem dX5_init_4 : decode cX5_init 4 = .ok (.aload_n 0, 1) := by decide +kernel
theorem dX5_init_5 : decode cX5_init 5 = .ok (.bipush 12, 2) := by decide +kernel
theorem dX5_init_7 : decode cX5_init 7 = .ok (.newarray .int, 2) := by decide +kernel
theorem dX5_init_9 : decode cX5_init 9 = .ok (.putfield 9, 3) := by decide +kernel
theorem dX5_init_12 : decode cX5_init 12 = .ok (.return_, 1) := by decide +kernel
theorem dX5_add_0 : decode cX5_add 0 = .ok (.aload_n 0, 1) := by decide +kernel
theorem dX5_add_1 : decode cX5_add 1 = .ok (.getfield 15, 3) := by decide +kernel
theorem dX5_add_4 : decode cX5_add 4 = .ok (.bipush 12, 2) := by decide +kernel
theorem dX5_add_6 : decode cX5_add 6 = .ok (.if_icmp .ge 23, 3) := by decide +kernel
theorem dX5_add_9 : decode cX5_add 9 = .ok (.aload_n 0, 1) := by decide +kernel
theorem dX5_add_10 : decode cX5_add 10 = .ok (.getfield 9, 3) := by decide +kernel
theorem dX5_add_13 : decode cX5_add 13 = .ok (.aload_n 0, 1) := by decide +kernel
theorem dX5_add_14 : decode cX5_add 14 = .ok (.getfield 15, 3) := by decide +kernel
theorem dX5_add_17 : decode cX5_add 17 = .ok (.iload_n 1, 1) := by decide +kernel
theorem dX5_add_18 : decode cX5_add 18 = .ok (.iastore, 1) := by decide +kernel
theorem dX5_add_19 : decode cX5_add 19 = .ok (.aload_n 0, 1) := by decide +kernel
theorem dX5_add_20 : decode cX5_add 20 = .ok (.dup, 1) := by decide +kernel
theorem dX5_add_21 : decode cX5_add 21 = .ok (.getfield 15, 3) := by decide +kernel
theorem dX5_add_24 : decode cX5_add 24 = .ok (.iconst 1, 1) := by decide +kernel
theorem dX5_add_25 : decode cX5_add 25 = .ok (.iadd, 1) := by decide +kernel
theorem dX5_add_26 : decode cX5_add 26 = .ok (.putfield 15, 3) := by decide +kernel
theorem dX5_add_29 : decode cX5_add 29 = .ok (.return_, 1) := by decide +kernel
theorem dX5_latest_0 : decode cX5_latest 0 = .ok (.aload_n 0, 1) := by decide +kernel
theorem dX5_latest_1 : decode cX5_latest 1 = .ok (.getfield 15, 3) := by decide +kernel
theorem dX5_latest_4 : decode cX5_latest 4 = .ok (.ifCond .le 26, 3) := by decide +kernel
theorem dX5_latest_7 : decode cX5_latest 7 = .ok (.aload_n 0, 1) := by decide +kernel
theorem dX5_latest_8 : decode cX5_latest 8 = .ok (.getfield 15, 3) := by decide +kernel
theorem dX5_latest_11 : decode cX5_latest 11 = .ok (.bipush 12, 2) := by decide +kernel
theorem dX5_latest_13 : decode cX5_latest 13 = .ok (.if_icmp .gt 17, 3) := by decide +kernel
theorem dX5_latest_16 : decode cX5_latest 16 = .ok (.aload_n 0, 1) := by decide +kernel
theorem dX5_latest_17 : decode cX5_latest 17 = .ok (.getfield 9, 3) := by decide +kernel
theorem dX5_latest_20 : decode cX5_latest 20 = .ok (.aload_n 0, 1) := by decide +kernel
theorem dX5_latest_21 : decode cX5_latest 21 = .ok (.getfield 15, 3) := by decide +kernel
theorem dX5_latest_24 : decode cX5_latest 24 = .ok (.iconst 1, 1) := by decide +kernel
theorem dX5_latest_25 : decode cX5_latest 25 = .ok (.isub, 1) := by decide +kernel
theorem dX5_latest_26 : decode cX5_latest 26 = .ok (.iaload, 1) := by decide +kernel
theorem dX5_latest_27 : decode cX5_latest 27 = .ok (.goto 6, 3) := by decide +kernel
theorem dX5_latest_30 : decode cX5_latest 30 = .ok (.sipush 255, 3) := by decide +kernel
theorem dX5_latest_33 : decode cX5_latest 33 = .ok (.ireturn, 1) := by decide +kernel
theorem dX5_meaningOfAnswers_0 : decode cX5_meaningOfAnswers 0 = .ok (.sipush 255, 3) := by decide +kernel
theorem dX5_meaningOfAnswers_3 : decode cX5_meaningOfAnswers 3 = .ok (.istore_n 1, 1) := by decide +kernel
theorem dX5_meaningOfAnswers_4 : decode cX5_meaningOfAnswers 4 = .ok (.iconst 1, 1) := by decide +kernel
theorem dX5_meaningOfAnswers_5 : decode cX5_meaningOfAnswers 5 = .ok (.istore_n 2, 1) := by decide +kernel
theorem dX5_meaningOfAnswers_6 : decode cX5_meaningOfAnswers 6 = .ok (.iload_n 2, 1) := by decide +kernel
theorem dX5_meaningOfAnswers_7 : decode cX5_meaningOfAnswers 7 = .ok (.aload_n 0, 1) := by decide +kernel
theorem dX5_meaningOfAnswers_8 : decode cX5_meaningOfAnswers 8 = .ok (.getfield 15, 3) := by decide +kernel
theorem dX5_meaningOfAnswers_11 : decode cX5_meaningOfAnswers 11 = .ok (.if_icmp .ge 27, 3) := by decide +kernel
theorem dX5_meaningOfAnswers_14 : decode cX5_meaningOfAnswers 14 = .ok (.iload_n 2, 1) := by decide +kernel
theorem dX5_meaningOfAnswers_15 : decode cX5_meaningOfAnswers 15 = .ok (.bipush 12, 2) := by decide +kernel
theorem dX5_meaningOfAnswers_17 : decode cX5_meaningOfAnswers 17 = .ok (.if_icmp .ge 21, 3) := by decide +kernel
theorem dX5_meaningOfAnswers_20 : decode cX5_meaningOfAnswers 20 = .ok (.iload_n 1, 1) := by decide +kernel
theorem dX5_meaningOfAnswers_21 : decode cX5_meaningOfAnswers 21 = .ok (.aload_n 0, 1) := by decide +kernel
theorem dX5_meaningOfAnswers_22 : decode cX5_meaningOfAnswers 22 = .ok (.getfield 9, 3) := by decide +kernel
theorem dX5_meaningOfAnswers_25 : decode cX5_meaningOfAnswers 25 = .ok (.iload_n 2, 1) := by decide +kernel
theorem dX5_meaningOfAnswers_26 : decode cX5_meaningOfAnswers 26 = .ok (.iaload, 1) := by decide +kernel
theorem dX5_meaningOfAnswers_27 : decode cX5_meaningOfAnswers 27 = .ok (.invokestatic 21, 3) := by decide +kernel
theorem dX5_meaningOfAnswers_30 : decode cX5_meaningOfAnswers 30 = .ok (.iand, 1) := by decide +kernel
theorem dX5_meaningOfAnswers_31 : decode cX5_meaningOfAnswers 31 = .ok (.istore_n 1, 1) := by decide +kernel
theorem dX5_meaningOfAnswers_32 : decode cX5_meaningOfAnswers 32 = .ok (.iinc 2 2, 3) := by decide +kernel
theorem dX5_meaningOfAnswers_35 : decode cX5_meaningOfAnswers 35 = .ok (.goto (-29), 3) := by decide +kernel
theorem dX5_meaningOfAnswers_38 : decode cX5_meaningOfAnswers 38 = .ok (.iload_n 1, 1) := by decide +kernel
theorem dX5_meaningOfAnswers_39 : decode cX5_meaningOfAnswers 39 = .ok (.ireturn, 1) := by decide +kernel
theorem dX5_copyFrom_0 : decode cX5_copyFrom 0 = .ok (.aload_n 1, 1) := by decide +kernel
theorem dX5_copyFrom_1 : decode cX5_copyFrom 1 = .ok (.getfield 9, 3) := by decide +kernel
theorem dX5_copyFrom_4 : decode cX5_copyFrom 4 = .ok (.iconst 0, 1) := by decide +kernel
theorem dX5_copyFrom_5 : decode cX5_copyFrom 5 = .ok (.aload_n 0, 1) := by decide +kernel
theorem dX5_copyFrom_6 : decode cX5_copyFrom 6 = .ok (.getfield 9, 3) := by decide +kernel
theorem dX5_copyFrom_9 : decode cX5_copyFrom 9 = .ok (.iconst 0, 1) := by decide +kernel
theorem dX5_copyFrom_10 : decode cX5_copyFrom 10 = .ok (.bipush 12, 2) := by decide +kernel
theorem dX5_copyFrom_12 : decode cX5_copyFrom 12 = .ok (.invokestatic 25, 3) := by decide +kernel
theorem dX5_copyFrom_15 : decode cX5_copyFrom 15 = .ok (.aload_n 0, 1) := by decide +kernel
theorem dX5_copyFrom_16 : decode cX5_copyFrom 16 = .ok (.aload_n 1, 1) := by decide +kernel
theorem dX5_copyFrom_17 : decode cX5_copyFrom 17 = .ok (.getfield 15, 3) := by decide +kernel
theorem dX5_copyFrom_20 : decode cX5_copyFrom 20 = .ok (.putfield 15, 3) := by decide +kernel
theorem dX5_copyFrom_23 : decode cX5_copyFrom 23 = .ok (.return_, 1) := by decide +kernel
theorem dX6_init_0 : decode cX6_init 0 = .ok (.aload_n 0, 1) := by decide +kernel
theorem dX6_init_1 : decode cX6_init 1 = .ok (.invokespecial 3, 3) := by decide +kernel
theorem dX6_init_4 : decode cX6_init 4 = .ok (.aload_n 0, 1) := by decide +kernel
theorem dX6_init_5 : decode cX6_init 5 = .ok (.bipush 8, 2) := by decide +kernel
theorem dX6_init_7 : decode cX6_init 7 = .ok (.newarray .int, 2) := by decide +kernel
theorem dX6_init_9 : decode cX6_init 9 = .ok (.putfield 9, 3) := by decide +kernel
theorem dX6_init_12 : decode cX6_init 12 = .ok (.aload_n 0, 1) := by decide +kernel
theorem dX6_init_13 : decode cX6_init 13 = .ok (.bipush 8, 2) := by decide +kernel
theorem dX6_init_15 : decode cX6_init 15 = .ok (.newarray .int, 2) := by decide +kernel
theorem dX6_init_17 : decode cX6_init 17 = .ok (.putfield 15, 3) := by decide +kernel
theorem dX6_init_20 : decode cX6_init 20 = .ok (.aload_n 0, 1) := by decide +kernel
theorem dX6_init_21 : decode cX6_init 21 = .ok (.bipush 8, 2) := by decide +kernel
theorem dX6_init_23 : decode cX6_init 23 = .ok (.newarray .int, 2) := by decide +kernel
theorem dX6_init_25 : decode cX6_init 25 = .ok (.dup, 1) := by decide +kernel
theorem dX6_init_26 : decode cX6_init 26 = .ok (.iconst 0, 1) := by decide +kernel
theorem dX6_init_27 : decode cX6_init 27 = .ok (.iconst 1, 1) := by decide +kernel
theorem dX6_init_28 : decode cX6_init 28 = .ok (.iastore, 1) := by decide +kernel
theorem dX6_init_29 : decode cX6_init 29 = .ok (.dup, 1) := by decide +kernel
theorem dX6_init_30 : decode cX6_init 30 = .ok (.iconst 1, 1) := by decide +kernel
theorem dX6_init_31 : decode cX6_init 31 = .ok (.iconst 1, 1) := by decide +kernel
theorem dX6_init_32 : decode cX6_init 32 = .ok (.iastore, 1) := by decide +kernel
theorem dX6_init_33 : decode cX6_init 33 = .ok (.dup, 1) := by decide +kernel
theorem dX6_init_34 : decode cX6_init 34 = .ok (.iconst 2, 1) := by decide +kernel
theorem dX6_init_35 : decode cX6_init 35 = .ok (.iconst 1, 1) := by decide +kernel
theorem dX6_init_36 : decode cX6_init 36 = .ok (.iastore, 1) := by decide +kernel
theorem dX6_init_37 : decode cX6_init 37 = .ok (.dup, 1) := by decide +kernel
theorem dX6_init_38 : decode cX6_init 38 = .ok (.iconst 3, 1) := by decide +kernel
theorem dX6_init_39 : decode cX6_init 39 = .ok (.iconst 1, 1) := by decide +kernel
theorem dX6_init_40 : decode cX6_init 40 = .ok (.iastore, 1) := by decide +kernel
theorem dX6_init_41 : decode cX6_init 41 = .ok (.dup, 1) := by decide +kernel
theorem dX6_init_42 : decode cX6_init 42 = .ok (.iconst 4, 1) := by decide +kernel
theorem dX6_init_43 : decode cX6_init 43 = .ok (.iconst 1, 1) := by decide +kernel
theorem dX6_init_44 : decode cX6_init 44 = .ok (.iastore, 1) := by decide +kernel
theorem dX6_init_45 : decode cX6_init 45 = .ok (.dup, 1) := by decide +kernel
theorem dX6_init_46 : decode cX6_init 46 = .ok (.iconst 5, 1) := by decide +kernel
theorem dX6_init_47 : decode cX6_init 47 = .ok (.iconst 1, 1) := by decide +kernel
theorem dX6_init_48 : decode cX6_init 48 = .ok (.iastore, 1) := by decide +kernel
theorem dX6_init_49 : decode cX6_init 49 = .ok (.dup, 1) := by decide +kernel
theorem dX6_init_50 : decode cX6_init 50 = .ok (.bipush 6, 2) := by decide +kernel
theorem dX6_init_52 : decode cX6_init 52 = .ok (.iconst 1, 1) := by decide +kernel
theorem dX6_init_53 : decode cX6_init 53 = .ok (.iastore, 1) := by decide +kernel
theorem dX6_init_54 : decode cX6_init 54 = .ok (.dup, 1) := by decide +kernel
theorem dX6_init_55 : decode cX6_init 55 = .ok (.bipush 7, 2) := by decide +kernel
theorem dX6_init_57 : decode cX6_init 57 = .ok (.iconst 1, 1) := by decide +kernel
theorem dX6_init_58 : decode cX6_init 58 = .ok (.iastore, 1) := by decide +kernel
theorem dX6_init_59 : decode cX6_init 59 = .ok (.putfield 18, 3) := by decide +kernel
theorem dX6_init_62 : decode cX6_init 62 = .ok (.aload_n 0, 1) := by decide +kernel
theorem dX6_init_63 : decode cX6_init 63 = .ok (.iconst 4, 1) := by decide +kernel
theorem dX6_init_64 : decode cX6_init 64 = .ok (.newarray .int, 2) := by decide +kernel
theorem dX6_init_66 : decode cX6_init 66 = .ok (.putfield 21, 3) := by decide +kernel
theorem dX6_init_69 : decode cX6_init 69 = .ok (.return_, 1) := by decide +kernel
theorem dX6_copyFrom_0 : decode cX6_copyFrom 0 = .ok (.aload_n 1, 1) := by decide +kernel
theorem dX6_copyFrom_1 : decode cX6_copyFrom 1 = .ok (.getfield 9, 3) := by decide +kernel
theorem dX6_copyFrom_4 : decode cX6_copyFrom 4 = .ok (.iconst 0, 1) := by decide +kernel
theorem dX6_copyFrom_5 : decode cX6_copyFrom 5 = .ok (.aload_n 0, 1) := by decide +kernel
theorem dX6_copyFrom_6 : decode cX6_copyFrom 6 = .ok (.getfield 9, 3) := by decide +kernel
theorem dX6_copyFrom_9 : decode cX6_copyFrom 9 = .ok (.iconst 0, 1) := by decide +kernel
theorem dX6_copyFrom_10 : decode cX6_copyFrom 10 = .ok (.bipush 8, 2) := by decide +kernel
theorem dX6_copyFrom_12 : decode cX6_copyFrom 12 = .ok (.invokestatic 24, 3) := by decide +kernel
theorem dX6_copyFrom_15 : decode cX6_copyFrom 15 = .ok (.aload_n 1, 1) := by decide +kernel
theorem dX6_copyFrom_16 : decode cX6_copyFrom 16 = .ok (.getfield 15, 3) := by decide +kernel
theorem dX6_copyFrom_19 : decode cX6_copyFrom 19 = .ok (.iconst 0, 1) := by decide +kernel
theorem dX6_copyFrom_20 : decode cX6_copyFrom 20 = .ok (.aload_n 0, 1) := by decide +kernel
theorem dX6_copyFrom_21 : decode cX6_copyFrom 21 = .ok (.getfield 15, 3) := by decide +kernel
theorem dX6_copyFrom_24 : decode cX6_copyFrom 24 = .ok (.iconst 0, 1) := by decide +kernel
theorem dX6_copyFrom_25 : decode cX6_copyFrom 25 = .ok (.bipush 8, 2) := by decide +kernel
theorem dX6_copyFrom_27 : decode cX6_copyFrom 27 = .ok (.invokestatic 24, 3) := by decide +kernel
theorem dX6_copyFrom_30 : decode cX6_copyFrom 30 = .ok (.aload_n 1, 1) := by decide +kernel
theorem dX6_copyFrom_31 : decode cX6_copyFrom 31 = .ok (.getfield 18, 3) := by decide +kernel
theorem dX6_copyFrom_34 : decode cX6_copyFrom 34 = .ok (.iconst 0, 1) := by decide +kernel
theorem dX6_copyFrom_35 : decode cX6_copyFrom 35 = .ok (.aload_n 0, 1) := by decide +kernel
theorem dX6_copyFrom_36 : decode cX6_copyFrom 36 = .ok (.getfield 18, 3) := by decide +kernel
theorem dX6_copyFrom_39 : decode cX6_copyFrom 39 = .ok (.iconst 0, 1) := by decide +kernel
theorem dX6_copyFrom_40 : decode cX6_copyFrom 40 = .ok (.bipush 8, 2) := by decide +kernel
theorem dX6_copyFrom_42 : decode cX6_copyFrom 42 = .ok (.invokestatic 24, 3) := by decide +kernel
theorem dX6_copyFrom_45 : decode cX6_copyFrom 45 = .ok (.aload_n 1, 1) := by decide +kernel
theorem dX6_copyFrom_46 : decode cX6_copyFrom 46 = .ok (.getfield 21, 3) := by decide +kernel
theorem dX6_copyFrom_49 : decode cX6_copyFrom 49 = .ok (.iconst 0, 1) := by decide +kernel
theorem dX6_copyFrom_50 : decode cX6_copyFrom 50 = .ok (.aload_n 0, 1) := by decide +kernel
theorem dX6_copyFrom_51 : decode cX6_copyFrom 51 = .ok (.getfield 21, 3) := by decide +kernel
theorem dX6_copyFrom_54 : decode cX6_copyFrom 54 = .ok (.iconst 0, 1) := by decide +kernel
theorem dX6_copyFrom_55 : decode cX6_copyFrom 55 = .ok (.iconst 4, 1) := by decide +kernel
theorem dX6_copyFrom_56 : decode cX6_copyFrom 56 = .ok (.invokestatic 24, 3) := by decide +kernel
theorem dX6_copyFrom_59 : decode cX6_copyFrom 59 = .ok (.aload_n 0, 1) := by decide +kernel
theorem dX6_copyFrom_60 : decode cX6_copyFrom 60 = .ok (.aload_n 1, 1) := by decide +kernel
theorem dX6_copyFrom_61 : decode cX6_copyFrom 61 = .ok (.getfield 30, 3) := by decide +kernel
theorem dX6_copyFrom_64 : decode cX6_copyFrom 64 = .ok (.putfield 30, 3) := by decide +kernel
theorem dX6_copyFrom_67 : decode cX6_copyFrom 67 = .ok (.aload_n 0, 1) := by decide +kernel
theorem dX6_copyFrom_68 : decode cX6_copyFrom 68 = .ok (.aload_n 1, 1) := by decide +kernel
theorem dX6_copyFrom_69 : decode cX6_copyFrom 69 = .ok (.getfield 34, 3) := by decide +kernel
theorem dX6_copyFrom_72 : decode cX6_copyFrom 72 = .ok (.putfield 34, 3) := by decide +kernel
theorem dX6_copyFrom_75 : decode cX6_copyFrom 75 = .ok (.aload_n 0, 1) := by decide +kernel
theorem dX6_copyFrom_76 : decode cX6_copyFrom 76 = .ok (.aload_n 1, 1) := by decide +kernel
theorem dX6_copyFrom_77 : decode cX6_copyFrom 77 = .ok (.getfield 37, 3) := by decide +kernel
theorem dX6_copyFrom_80 : decode cX6_copyFrom 80 = .ok (.putfield 37, 3) := by decide +kernel
theorem dX6_copyFrom_83 : decode cX6_copyFrom 83 = .ok (.aload_n 0, 1) := by decide +kernel
theorem dX6_copyFrom_84 : decode cX6_copyFrom 84 = .ok (.aload_n 1, 1) := by decide +kernel
theorem dX6_copyFrom_85 : decode cX6_copyFrom 85 = .ok (.getfield 40, 3) := by decide +kernel
theorem dX6_copyFrom_88 : decode cX6_copyFrom 88 = .ok (.putfield 40, 3) := by decide +kernel
theorem dX6_copyFrom_91 : decode cX6_copyFrom 91 = .ok (.return_, 1) := by decide +kernel
theorem dX6_hasWord_0 : decode cX6_hasWord 0 = .ok (.iload_n 1, 1) := by decide +kernel
theorem dX6_hasWord_1 : decode cX6_hasWord 1 = .ok (.ifCond .lt 15, 3) := by decide +kernel
theorem dX6_hasWord_4 : decode cX6_hasWord 4 = .ok (.iload_n 1, 1) := by decide +kernel
theorem dX6_hasWord_5 : decode cX6_hasWord 5 = .ok (.aload_n 0, 1) := by decide +kernel
theorem dX6_hasWord_6 : decode cX6_hasWord 6 = .ok (.getfield 30, 3) := by decide +kernel
theorem dX6_hasWord_9 : decode cX6_hasWord 9 = .ok (.if_icmp .ge 7, 3) := by decide +kernel
theorem dX6_hasWord_12 : decode cX6_hasWord 12 = .ok (.iconst 1, 1) := by decide +kernel
theorem dX6_hasWord_13 : decode cX6_hasWord 13 = .ok (.goto 4, 3) := by decide +kernel
theorem dX6_hasWord_16 : decode cX6_hasWord 16 = .ok (.iconst 0, 1) := by decide +kernel
theorem dX6_hasWord_17 : decode cX6_hasWord 17 = .ok (.ireturn, 1) := by decide +kernel
theorem dX6_hasPerson_0 : decode cX6_hasPerson 0 = .ok (.iload_n 1, 1) := by decide +kernel
theorem dX6_hasPerson_1 : decode cX6_hasPerson 1 = .ok (.ifCond .lt 15, 3) := by decide +kernel
theorem dX6_hasPerson_4 : decode cX6_hasPerson 4 = .ok (.iload_n 1, 1) := by decide +kernel
theorem dX6_hasPerson_5 : decode cX6_hasPerson 5 = .ok (.aload_n 0, 1) := by decide +kernel
theorem dX6_hasPerson_6 : decode cX6_hasPerson 6 = .ok (.getfield 34, 3) := by decide +kernel
theorem dX6_hasPerson_9 : decode cX6_hasPerson 9 = .ok (.if_icmp .ge 7, 3) := by decide +kernel
theorem dX6_hasPerson_12 : decode cX6_hasPerson 12 = .ok (.iconst 1, 1) := by decide +kernel
theorem dX6_hasPerson_13 : decode cX6_hasPerson 13 = .ok (.goto 4, 3) := by decide +kernel
theorem dX6_hasPerson_16 : decode cX6_hasPerson 16 = .ok (.iconst 0, 1) := by decide +kernel
theorem dX6_hasPerson_17 : decode cX6_hasPerson 17 = .ok (.ireturn, 1) := by decide +kernel
theorem dX6_addWord_0 : decode cX6_addWord 0 = .ok (.aload_n 0, 1) := by decide +kernel
theorem dX6_addWord_1 : decode cX6_addWord 1 = .ok (.getfield 30, 3) := by decide +kernel
theorem dX6_addWord_4 : decode cX6_addWord 4 = .ok (.bipush 8, 2) := by decide +kernel
theorem dX6_addWord_6 : decode cX6_addWord 6 = .ok (.if_icmp .lt 5, 3) := by decide +kernel
theorem dX6_addWord_9 : decode cX6_addWord 9 = .ok (.iconst 0, 1) := by decide +kernel
theorem dX6_addWord_10 : decode cX6_addWord 10 = .ok (.ireturn, 1) := by decide +kernel
theorem dX6_addWord_11 : decode cX6_addWord 11 = .ok (.aload_n 0, 1) := by decide +kernel
theorem dX6_addWord_12 : decode cX6_addWord 12 = .ok (.getfield 9, 3) := by decide +kernel
theorem dX6_addWord_15 : decode cX6_addWord 15 = .ok (.aload_n 0, 1) := by decide +kernel
theorem dX6_addWord_16 : decode cX6_addWord 16 = .ok (.getfield 30, 3) := by decide +kernel
theorem dX6_addWord_19 : decode cX6_addWord 19 = .ok (.iload_n 1, 1) := by decide +kernel
theorem dX6_addWord_20 : decode cX6_addWord 20 = .ok (.iastore, 1) := by decide +kernel
theorem dX6_addWord_21 : decode cX6_addWord 21 = .ok (.aload_n 0, 1) := by decide +kernel
theorem dX6_addWord_22 : decode cX6_addWord 22 = .ok (.getfield 15, 3) := by decide +kernel
theorem dX6_addWord_25 : decode cX6_addWord 25 = .ok (.aload_n 0, 1) := by decide +kernel
theorem dX6_addWord_26 : decode cX6_addWord 26 = .ok (.getfield 30, 3) := by decide +kernel
theorem dX6_addWord_29 : decode cX6_addWord 29 = .ok (.iload_n 2, 1) := by decide +kernel
theorem dX6_addWord_30 : decode cX6_addWord 30 = .ok (.iastore, 1) := by decide +kernel
theorem dX6_addWord_31 : decode cX6_addWord 31 = .ok (.aload_n 0, 1) := by decide +kernel
theorem dX6_addWord_32 : decode cX6_addWord 32 = .ok (.dup, 1) := by decide +kernel
theorem dX6_addWord_33 : decode cX6_addWord 33 = .ok (.getfield 30, 3) := by decide +kernel
theorem dX6_addWord_36 : decode cX6_addWord 36 = .ok (.iconst 1, 1) := by decide +kernel
theorem dX6_addWord_37 : decode cX6_addWord 37 = .ok (.iadd, 1) := by decide +kernel
theorem dX6_addWord_38 : decode cX6_addWord 38 = .ok (.putfield 30, 3) := by decide +kernel
theorem dX6_addWord_41 : decode cX6_addWord 41 = .ok (.iconst 1, 1) := by decide +kernel
theorem dX6_addWord_42 : decode cX6_addWord 42 = .ok (.ireturn, 1) := by decide +kernel
theorem dX6_addPerson_0 : decode cX6_addPerson 0 = .ok (.aload_n 0, 1) := by decide +kernel
theorem dX6_addPerson_1 : decode cX6_addPerson 1 = .ok (.getfield 34, 3) := by decide +kernel
theorem dX6_addPerson_4 : decode cX6_addPerson 4 = .ok (.iconst 4, 1) := by decide +kernel
theorem dX6_addPerson_5 : decode cX6_addPerson 5 = .ok (.if_icmp .ge 12, 3) := by decide +kernel
theorem dX6_addPerson_8 : decode cX6_addPerson 8 = .ok (.iload_n 1, 1) := by decide +kernel
theorem dX6_addPerson_9 : decode cX6_addPerson 9 = .ok (.ifCond .lt 8, 3) := by decide +kernel
theorem dX6_addPerson_12 : decode cX6_addPerson 12 = .ok (.iload_n 1, 1) := by decide +kernel
theorem dX6_addPerson_13 : decode cX6_addPerson 13 = .ok (.iconst 5, 1) := by decide +kernel
theorem dX6_addPerson_14 : decode cX6_addPerson 14 = .ok (.if_icmp .lt 5, 3) := by decide +kernel
theorem dX6_addPerson_17 : decode cX6_addPerson 17 = .ok (.iconst 0, 1) := by decide +kernel
theorem dX6_addPerson_18 : decode cX6_addPerson 18 = .ok (.ireturn, 1) := by decide +kernel
theorem dX6_addPerson_19 : decode cX6_addPerson 19 = .ok (.aload_n 0, 1) := by decide +kernel
theorem dX6_addPerson_20 : decode cX6_addPerson 20 = .ok (.getfield 21, 3) := by decide +kernel
theorem dX6_addPerson_23 : decode cX6_addPerson 23 = .ok (.aload_n 0, 1) := by decide +kernel
theorem dX6_addPerson_24 : decode cX6_addPerson 24 = .ok (.getfield 34, 3) := by decide +kernel
theorem dX6_addPerson_27 : decode cX6_addPerson 27 = .ok (.iload_n 1, 1) := by decide +kernel
theorem dX6_addPerson_28 : decode cX6_addPerson 28 = .ok (.iastore, 1) := by decide +kernel
theorem dX6_addPerson_29 : decode cX6_addPerson 29 = .ok (.aload_n 0, 1) := by decide +kernel
theorem dX6_addPerson_30 : decode cX6_addPerson 30 = .ok (.dup, 1) := by decide +kernel
theorem dX6_addPerson_31 : decode cX6_addPerson 31 = .ok (.getfield 34, 3) := by decide +kernel
theorem dX6_addPerson_34 : decode cX6_addPerson 34 = .ok (.iconst 1, 1) := by decide +kernel
theorem dX6_addPerson_35 : decode cX6_addPerson 35 = .ok (.iadd, 1) := by decide +kernel
theorem dX6_addPerson_36 : decode cX6_addPerson 36 = .ok (.putfield 34, 3) := by decide +kernel
theorem dX6_addPerson_39 : decode cX6_addPerson 39 = .ok (.iconst 1, 1) := by decide +kernel
theorem dX6_addPerson_40 : decode cX6_addPerson 40 = .ok (.ireturn, 1) := by decide +kernel
theorem dX6_setWeight_0 : decode cX6_setWeight 0 = .ok (.iload_n 1, 1) := by decide +kernel
theorem dX6_setWeight_1 : decode cX6_setWeight 1 = .ok (.invokestatic 43, 3) := by decide +kernel
theorem dX6_setWeight_4 : decode cX6_setWeight 4 = .ok (.ifCond .ne 5, 3) := by decide +kernel
theorem dX6_setWeight_7 : decode cX6_setWeight 7 = .ok (.iconst 0, 1) := by decide +kernel
theorem dX6_setWeight_8 : decode cX6_setWeight 8 = .ok (.ireturn, 1) := by decide +kernel
theorem dX6_setWeight_9 : decode cX6_setWeight 9 = .ok (.aload_n 0, 1) := by decide +kernel
theorem dX6_setWeight_10 : decode cX6_setWeight 10 = .ok (.getfield 18, 3) := by decide +kernel
theorem dX6_setWeight_13 : decode cX6_setWeight 13 = .ok (.iload_n 1, 1) := by decide +kernel
theorem dX6_setWeight_14 : decode cX6_setWeight 14 = .ok (.iload_n 2, 1) := by decide +kernel
theorem dX6_setWeight_15 : decode cX6_setWeight 15 = .ok (.iastore, 1) := by decide +kernel
theorem dX6_setWeight_16 : decode cX6_setWeight 16 = .ok (.iconst 1, 1) := by decide +kernel
theorem dX6_setWeight_17 : decode cX6_setWeight 17 = .ok (.ireturn, 1) := by decide +kernel
theorem dX6_setLaw_0 : decode cX6_setLaw 0 = .ok (.iload_n 1, 1) := by decide +kernel
theorem dX6_setLaw_1 : decode cX6_setLaw 1 = .ok (.invokestatic 47, 3) := by decide +kernel
theorem dX6_setLaw_4 : decode cX6_setLaw 4 = .ok (.ifCond .ne 5, 3) := by decide +kernel
theorem dX6_setLaw_7 : decode cX6_setLaw 7 = .ok (.iconst 0, 1) := by decide +kernel
theorem dX6_setLaw_8 : decode cX6_setLaw 8 = .ok (.ireturn, 1) := by decide +kernel
theorem dX6_setLaw_9 : decode cX6_setLaw 9 = .ok (.aload_n 0, 1) := by decide +kernel
theorem dX6_setLaw_10 : decode cX6_setLaw 10 = .ok (.iload_n 1, 1) := by decide +kernel
theorem dX6_setLaw_11 : decode cX6_setLaw 11 = .ok (.putfield 37, 3) := by decide +kernel
theorem dX6_setLaw_14 : decode cX6_setLaw 14 = .ok (.iconst 1, 1) := by decide +kernel
theorem dX6_setLaw_15 : decode cX6_setLaw 15 = .ok (.ireturn, 1) := by decide +kernel
theorem dX6_weightOf_0 : decode cX6_weightOf 0 = .ok (.iconst 0, 1) := by decide +kernel
theorem dX6_weightOf_1 : decode cX6_weightOf 1 = .ok (.istore_n 2, 1) := by decide +kernel
theorem dX6_weightOf_2 : decode cX6_weightOf 2 = .ok (.iconst 0, 1) := by decide +kernel
theorem dX6_weightOf_3 : decode cX6_weightOf 3 = .ok (.istore_n 3, 1) := by decide +kernel
theorem dX6_weightOf_4 : decode cX6_weightOf 4 = .ok (.iload_n 3, 1) := by decide +kernel
theorem dX6_weightOf_5 : decode cX6_weightOf 5 = .ok (.bipush 8, 2) := by decide +kernel
theorem dX6_weightOf_7 : decode cX6_weightOf 7 = .ok (.if_icmp .ge 26, 3) := by decide +kernel
theorem dX6_weightOf_10 : decode cX6_weightOf 10 = .ok (.iload_n 1, 1) := by decide +kernel
theorem dX6_weightOf_11 : decode cX6_weightOf 11 = .ok (.iload_n 3, 1) := by decide +kernel
theorem dX6_weightOf_12 : decode cX6_weightOf 12 = .ok (.ishr, 1) := by decide +kernel
theorem dX6_weightOf_13 : decode cX6_weightOf 13 = .ok (.iconst 1, 1) := by decide +kernel
theorem dX6_weightOf_14 : decode cX6_weightOf 14 = .ok (.iand, 1) := by decide +kernel
theorem dX6_weightOf_15 : decode cX6_weightOf 15 = .ok (.ifCond .eq 12, 3) := by decide +kernel
theorem dX6_weightOf_18 : decode cX6_weightOf 18 = .ok (.iload_n 2, 1) := by decide +kernel
theorem dX6_weightOf_19 : decode cX6_weightOf 19 = .ok (.aload_n 0, 1) := by decide +kernel
theorem dX6_weightOf_20 : decode cX6_weightOf 20 = .ok (.getfield 18, 3) := by decide +kernel
theorem dX6_weightOf_23 : decode cX6_weightOf 23 = .ok (.iload_n 3, 1) := by decide +kernel
theorem dX6_weightOf_24 : decode cX6_weightOf 24 = .ok (.iaload, 1) := by decide +kernel
theorem dX6_weightOf_25 : decode cX6_weightOf 25 = .ok (.iadd, 1) := by decide +kernel
theorem dX6_weightOf_26 : decode cX6_weightOf 26 = .ok (.istore_n 2, 1) := by decide +kernel
theorem dX6_weightOf_27 : decode cX6_weightOf 27 = .ok (.iinc 3 1, 3) := by decide +kernel
theorem dX6_weightOf_30 : decode cX6_weightOf 30 = .ok (.goto (-26), 3) := by decide +kernel
theorem dX6_weightOf_33 : decode cX6_weightOf 33 = .ok (.iload_n 2, 1) := by decide +kernel
theorem dX6_weightOf_34 : decode cX6_weightOf 34 = .ok (.ireturn, 1) := by decide +kernel
theorem dX6_grown_0 : decode cX6_grown 0 = .ok (.aload_n 0, 1) := by decide +kernel
theorem dX6_grown_1 : decode cX6_grown 1 = .ok (.iload_n 2, 1) := by decide +kernel
theorem dX6_grown_2 : decode cX6_grown 2 = .ok (.invokevirtual 50, 3) := by decide +kernel
theorem dX6_grown_5 : decode cX6_grown 5 = .ok (.ifCond .eq 22, 3) := by decide +kernel
theorem dX6_grown_8 : decode cX6_grown 8 = .ok (.iload_n 1, 1) := by decide +kernel
theorem dX6_grown_9 : decode cX6_grown 9 = .ok (.aload_n 0, 1) := by decide +kernel
theorem dX6_grown_10 : decode cX6_grown 10 = .ok (.getfield 9, 3) := by decide +kernel
theorem dX6_grown_13 : decode cX6_grown 13 = .ok (.iload_n 2, 1) := by decide +kernel
theorem dX6_grown_14 : decode cX6_grown 14 = .ok (.iaload, 1) := by decide +kernel
theorem dX6_grown_15 : decode cX6_grown 15 = .ok (.aload_n 0, 1) := by decide +kernel
theorem dX6_grown_16 : decode cX6_grown 16 = .ok (.getfield 15, 3) := by decide +kernel
theorem dX6_grown_19 : decode cX6_grown 19 = .ok (.iload_n 2, 1) := by decide +kernel
theorem dX6_grown_20 : decode cX6_grown 20 = .ok (.iaload, 1) := by decide +kernel
theorem dX6_grown_21 : decode cX6_grown 21 = .ok (.invokestatic 53, 3) := by decide +kernel
theorem dX6_grown_24 : decode cX6_grown 24 = .ok (.goto 9, 3) := by decide +kernel
theorem dX6_grown_27 : decode cX6_grown 27 = .ok (.iload_n 1, 1) := by decide +kernel
theorem dX6_grown_28 : decode cX6_grown 28 = .ok (.iconst 3, 1) := by decide +kernel
theorem dX6_grown_29 : decode cX6_grown 29 = .ok (.iconst 0, 1) := by decide +kernel
theorem dX6_grown_30 : decode cX6_grown 30 = .ok (.invokestatic 53, 3) := by decide +kernel
theorem dX6_grown_33 : decode cX6_grown 33 = .ok (.ireturn, 1) := by decide +kernel
