theorem dX8_init_0 : decode cX8_init 0 = .ok (.aload_n 0, 1) := by decide +kernel
theorem dX8_init_1 : decode cX8_init 1 = .ok (.invokespecial 1, 3) := by decide +kernel
theorem dX8_init_4 : decode cX8_init 4 = .ok (.aload_n 0, 1) := by decide +kernel
theorem dX8_init_5 : decode cX8_init 5 = .ok (.bipush 64, 2) := by decide +kernel
theorem dX8_init_7 : decode cX8_init 7 = .ok (.newarray .int, 2) := by decide +kernel
theorem dX8_init_9 : decode cX8_init 9 = .ok (.putfield 9, 3) := by decide +kernel
theorem dX8_init_12 : decode cX8_init 12 = .ok (.aload_n 0, 1) := by decide +kernel
theorem dX8_init_13 : decode cX8_init 13 = .ok (.bipush 6, 2) := by decide +kernel
theorem dX8_init_15 : decode cX8_init 15 = .ok (.newarray .int, 2) := by decide +kernel
theorem dX8_init_17 : decode cX8_init 17 = .ok (.putfield 13, 3) := by decide +kernel
theorem dX8_init_20 : decode cX8_init 20 = .ok (.aload_n 0, 1) := by decide +kernel
theorem dX8_init_21 : decode cX8_init 21 = .ok (.bipush 6, 2) := by decide +kernel
theorem dX8_init_23 : decode cX8_init 23 = .ok (.newarray .int, 2) := by decide +kernel
theorem dX8_init_25 : decode cX8_init 25 = .ok (.putfield 16, 3) := by decide +kernel
theorem dX8_init_28 : decode cX8_init 28 = .ok (.aload_n 0, 1) := by decide +kernel
theorem dX8_init_29 : decode cX8_init 29 = .ok (.bipush 8, 2) := by decide +kernel
theorem dX8_init_31 : decode cX8_init 31 = .ok (.newarray .int, 2) := by decide +kernel
theorem dX8_init_33 : decode cX8_init 33 = .ok (.putfield 19, 3) := by decide +kernel
theorem dX8_init_36 : decode cX8_init 36 = .ok (.aload_n 0, 1) := by decide +kernel
theorem dX8_init_37 : decode cX8_init 37 = .ok (.bipush 8, 2) := by decide +kernel
theorem dX8_init_39 : decode cX8_init 39 = .ok (.newarray .int, 2) := by decide +kernel
theorem dX8_init_41 : decode cX8_init 41 = .ok (.putfield 22, 3) := by decide +kernel
theorem dX8_init_44 : decode cX8_init 44 = .ok (.aload_n 0, 1) := by decide +kernel
theorem dX8_init_45 : decode cX8_init 45 = .ok (.bipush 8, 2) := by decide +kernel
theorem dX8_init_47 : decode cX8_init 47 = .ok (.newarray .int, 2) := by decide +kernel
theorem dX8_init_49 : decode cX8_init 49 = .ok (.putfield 25, 3) := by decide +kernel
theorem dX8_init_52 : decode cX8_init 52 = .ok (.aload_n 0, 1) := by decide +kernel
theorem dX8_init_53 : decode cX8_init 53 = .ok (.bipush 8, 2) := by decide +kernel
theorem dX8_init_55 : decode cX8_init 55 = .ok (.newarray .int, 2) := by decide +kernel
theorem dX8_init_57 : decode cX8_init 57 = .ok (.putfield 28, 3) := by decide +kernel
theorem dX8_init_60 : decode cX8_init 60 = .ok (.aload_n 0, 1) := by decide +kernel
theorem dX8_init_61 : decode cX8_init 61 = .ok (.iconst 4, 1) := by decide +kernel
theorem dX8_init_62 : decode cX8_init 62 = .ok (.newarray .int, 2) := by decide +kernel
theorem dX8_init_64 : decode cX8_init 64 = .ok (.putfield 31, 3) := by decide +kernel
theorem dX8_init_67 : decode cX8_init 67 = .ok (.aload_n 0, 1) := by decide +kernel
theorem dX8_init_68 : decode cX8_init 68 = .ok (.bipush 12, 2) := by decide +kernel
theorem dX8_init_70 : decode cX8_init 70 = .ok (.newarray .int, 2) := by decide +kernel
theorem dX8_init_72 : decode cX8_init 72 = .ok (.putfield 34, 3) := by decide +kernel
theorem dX8_init_75 : decode cX8_init 75 = .ok (.aload_n 0, 1) := by decide +kernel
theorem dX8_init_76 : decode cX8_init 76 = .ok (.bipush 12, 2) := by decide +kernel
theorem dX8_init_78 : decode cX8_init 78 = .ok (.newarray .int, 2) := by decide +kernel
theorem dX8_init_80 : decode cX8_init 80 = .ok (.putfield 37, 3) := by decide +kernel
theorem dX8_init_83 : decode cX8_init 83 = .ok (.aload_n 0, 1) := by decide +kernel
theorem dX8_init_84 : decode cX8_init 84 = .ok (.bipush 12, 2) := by decide +kernel
theorem dX8_init_86 : decode cX8_init 86 = .ok (.newarray .int, 2) := by decide +kernel
theorem dX8_init_88 : decode cX8_init 88 = .ok (.putfield 40, 3) := by decide +kernel
theorem dX8_init_91 : decode cX8_init 91 = .ok (.aload_n 0, 1) := by decide +kernel
theorem dX8_init_92 : decode cX8_init 92 = .ok (.sipush 585, 3) := by decide +kernel
theorem dX8_init_95 : decode cX8_init 95 = .ok (.newarray .int, 2) := by decide +kernel
theorem dX8_init_97 : decode cX8_init 97 = .ok (.putfield 43, 3) := by decide +kernel
theorem dX8_init_100 : decode cX8_init 100 = .ok (.aload_n 0, 1) := by decide +kernel
theorem dX8_init_101 : decode cX8_init 101 = .ok (.sipush 585, 3) := by decide +kernel
theorem dX8_init_104 : decode cX8_init 104 = .ok (.iconst 3, 1) := by decide +kernel
theorem dX8_init_105 : decode cX8_init 105 = .ok (.multianewarray 46 2, 4) := by decide +kernel
theorem dX8_init_109 : decode cX8_init 109 = .ok (.putfield 48, 3) := by decide +kernel
theorem dX8_init_112 : decode cX8_init 112 = .ok (.aload_n 0, 1) := by decide +kernel
theorem dX8_init_113 : decode cX8_init 113 = .ok (.sipush 585, 3) := by decide +kernel
theorem dX8_init_116 : decode cX8_init 116 = .ok (.newarray .int, 2) := by decide +kernel
theorem dX8_init_118 : decode cX8_init 118 = .ok (.putfield 51, 3) := by decide +kernel
theorem dX8_init_121 : decode cX8_init 121 = .ok (.aload_n 0, 1) := by decide +kernel
theorem dX8_init_122 : decode cX8_init 122 = .ok (.sipush 585, 3) := by decide +kernel
theorem dX8_init_125 : decode cX8_init 125 = .ok (.newarray .int, 2) := by decide +kernel
theorem dX8_init_127 : decode cX8_init 127 = .ok (.putfield 54, 3) := by decide +kernel
theorem dX8_init_130 : decode cX8_init 130 = .ok (.aload_n 0, 1) := by decide +kernel
theorem dX8_init_131 : decode cX8_init 131 = .ok (.iconst 4, 1) := by decide +kernel
theorem dX8_init_132 : decode cX8_init 132 = .ok (.newarray .int, 2) := by decide +kernel
theorem dX8_init_134 : decode cX8_init 134 = .ok (.putfield 57, 3) := by decide +kernel
theorem dX8_init_137 : decode cX8_init 137 = .ok (.aload_n 0, 1) := by decide +kernel
theorem dX8_init_138 : decode cX8_init 138 = .ok (.iconst 3, 1) := by decide +kernel
theorem dX8_init_139 : decode cX8_init 139 = .ok (.newarray .int, 2) := by decide +kernel
theorem dX8_init_141 : decode cX8_init 141 = .ok (.putfield 60, 3) := by decide +kernel
theorem dX8_init_144 : decode cX8_init 144 = .ok (.iconst 0, 1) := by decide +kernel
theorem dX8_init_145 : decode cX8_init 145 = .ok (.istore_n 1, 1) := by decide +kernel
theorem dX8_init_146 : decode cX8_init 146 = .ok (.iload_n 1, 1) := by decide +kernel
theorem dX8_init_147 : decode cX8_init 147 = .ok (.bipush 8, 2) := by decide +kernel
theorem dX8_init_149 : decode cX8_init 149 = .ok (.if_icmp .ge 16, 3) := by decide +kernel
theorem dX8_init_152 : decode cX8_init 152 = .ok (.aload_n 0, 1) := by decide +kernel
theorem dX8_init_153 : decode cX8_init 153 = .ok (.getfield 28, 3) := by decide +kernel
theorem dX8_init_156 : decode cX8_init 156 = .ok (.iload_n 1, 1) := by decide +kernel
theorem dX8_init_157 : decode cX8_init 157 = .ok (.iconst 1, 1) := by decide +kernel
theorem dX8_init_158 : decode cX8_init 158 = .ok (.iastore, 1) := by decide +kernel
theorem dX8_init_159 : decode cX8_init 159 = .ok (.iinc 1 1, 3) := by decide +kernel
theorem dX8_init_162 : decode cX8_init 162 = .ok (.goto (-16), 3) := by decide +kernel
theorem dX8_init_165 : decode cX8_init 165 = .ok (.return_, 1) := by decide +kernel
theorem dX8_in_0 : decode cX8_in 0 = .ok (.iload_n 0, 1) := by decide +kernel
theorem dX8_in_1 : decode cX8_in 1 = .ok (.iload_n 1, 1) := by decide +kernel
theorem dX8_in_2 : decode cX8_in 2 = .ok (.if_icmp .lt 12, 3) := by decide +kernel
theorem dX8_in_5 : decode cX8_in 5 = .ok (.iload_n 0, 1) := by decide +kernel
theorem dX8_in_6 : decode cX8_in 6 = .ok (.iload_n 2, 1) := by decide +kernel
theorem dX8_in_7 : decode cX8_in 7 = .ok (.if_icmp .gt 7, 3) := by decide +kernel
theorem dX8_in_10 : decode cX8_in 10 = .ok (.iconst 1, 1) := by decide +kernel
theorem dX8_in_11 : decode cX8_in 11 = .ok (.goto 4, 3) := by decide +kernel
theorem dX8_in_14 : decode cX8_in 14 = .ok (.iconst 0, 1) := by decide +kernel
theorem dX8_in_15 : decode cX8_in 15 = .ok (.ireturn, 1) := by decide +kernel
theorem dX8_isCase_0 : decode cX8_isCase 0 = .ok (.iload_n 0, 1) := by decide +kernel
theorem dX8_isCase_1 : decode cX8_isCase 1 = .ok (.iconst 0, 1) := by decide +kernel
theorem dX8_isCase_2 : decode cX8_isCase 2 = .ok (.bipush 7, 2) := by decide +kernel
theorem dX8_isCase_4 : decode cX8_isCase 4 = .ok (.invokestatic 63, 3) := by decide +kernel
theorem dX8_isCase_7 : decode cX8_isCase 7 = .ok (.ireturn, 1) := by decide +kernel
theorem dX8_isWord_0 : decode cX8_isWord 0 = .ok (.iload_n 1, 1) := by decide +kernel
theorem dX8_isWord_1 : decode cX8_isWord 1 = .ok (.iconst 0, 1) := by decide +kernel
theorem dX8_isWord_2 : decode cX8_isWord 2 = .ok (.aload_n 0, 1) := by decide +kernel
theorem dX8_isWord_3 : decode cX8_isWord 3 = .ok (.getfield 67, 3) := by decide +kernel
theorem dX8_isWord_6 : decode cX8_isWord 6 = .ok (.iconst 1, 1) := by decide +kernel
theorem dX8_isWord_7 : decode cX8_isWord 7 = .ok (.isub, 1) := by decide +kernel
theorem dX8_isWord_8 : decode cX8_isWord 8 = .ok (.invokestatic 63, 3) := by decide +kernel
theorem dX8_isWord_11 : decode cX8_isWord 11 = .ok (.ireturn, 1) := by decide +kernel
theorem dX8_isPerson_0 : decode cX8_isPerson 0 = .ok (.iload_n 1, 1) := by decide +kernel
theorem dX8_isPerson_1 : decode cX8_isPerson 1 = .ok (.iconst 0, 1) := by decide +kernel
theorem dX8_isPerson_2 : decode cX8_isPerson 2 = .ok (.aload_n 0, 1) := by decide +kernel
theorem dX8_isPerson_3 : decode cX8_isPerson 3 = .ok (.getfield 71, 3) := by decide +kernel
theorem dX8_isPerson_6 : decode cX8_isPerson 6 = .ok (.iconst 1, 1) := by decide +kernel
theorem dX8_isPerson_7 : decode cX8_isPerson 7 = .ok (.isub, 1) := by decide +kernel
theorem dX8_isPerson_8 : decode cX8_isPerson 8 = .ok (.invokestatic 63, 3) := by decide +kernel
theorem dX8_isPerson_11 : decode cX8_isPerson 11 = .ok (.ireturn, 1) := by decide +kernel
theorem dX8_isSet_0 : decode cX8_isSet 0 = .ok (.iload_n 0, 1) := by decide +kernel
theorem dX8_isSet_1 : decode cX8_isSet 1 = .ok (.iconst 0, 1) := by decide +kernel
theorem dX8_isSet_2 : decode cX8_isSet 2 = .ok (.sipush 255, 3) := by decide +kernel
theorem dX8_isSet_5 : decode cX8_isSet 5 = .ok (.invokestatic 63, 3) := by decide +kernel
theorem dX8_isSet_8 : decode cX8_isSet 8 = .ok (.ireturn, 1) := by decide +kernel
theorem dX8_digit_0 : decode cX8_digit 0 = .ok (.aload_n 0, 1) := by decide +kernel
theorem dX8_digit_1 : decode cX8_digit 1 = .ok (.invokevirtual 84, 3) := by decide +kernel
theorem dX8_digit_4 : decode cX8_digit 4 = .ok (.istore_n 1, 1) := by decide +kernel
theorem dX8_digit_5 : decode cX8_digit 5 = .ok (.aload_n 0, 1) := by decide +kernel
theorem dX8_digit_6 : decode cX8_digit 6 = .ok (.dup, 1) := by decide +kernel
theorem dX8_digit_7 : decode cX8_digit 7 = .ok (.getfield 81, 3) := by decide +kernel
theorem dX8_digit_10 : decode cX8_digit 10 = .ok (.iload_n 1, 1) := by decide +kernel
theorem dX8_digit_11 : decode cX8_digit 11 = .ok (.ifCond .eq 7, 3) := by decide +kernel
theorem dX8_digit_14 : decode cX8_digit 14 = .ok (.iconst 1, 1) := by decide +kernel
theorem dX8_digit_15 : decode cX8_digit 15 = .ok (.goto 4, 3) := by decide +kernel
theorem dX8_digit_18 : decode cX8_digit 18 = .ok (.iconst 0, 1) := by decide +kernel
theorem dX8_digit_19 : decode cX8_digit 19 = .ok (.iadd, 1) := by decide +kernel
theorem dX8_digit_20 : decode cX8_digit 20 = .ok (.putfield 81, 3) := by decide +kernel
theorem dX8_digit_23 : decode cX8_digit 23 = .ok (.iload_n 1, 1) := by decide +kernel
theorem dX8_digit_24 : decode cX8_digit 24 = .ok (.ireturn, 1) := by decide +kernel
theorem dX8_goesBy_0 : decode cX8_goesBy 0 = .ok (.aload_n 0, 1) := by decide +kernel
theorem dX8_goesBy_1 : decode cX8_goesBy 1 = .ok (.bipush 116, 2) := by decide +kernel
theorem dX8_goesBy_3 : decode cX8_goesBy 3 = .ok (.invokevirtual 92, 3) := by decide +kernel
theorem dX8_goesBy_6 : decode cX8_goesBy 6 = .ok (.ifCond .eq 33, 3) := by decide +kernel
theorem dX8_goesBy_9 : decode cX8_goesBy 9 = .ok (.iconst 0, 1) := by decide +kernel
theorem dX8_goesBy_10 : decode cX8_goesBy 10 = .ok (.istore_n 1, 1) := by decide +kernel
theorem dX8_goesBy_11 : decode cX8_goesBy 11 = .ok (.iload_n 1, 1) := by decide +kernel
theorem dX8_goesBy_12 : decode cX8_goesBy 12 = .ok (.bipush 8, 2) := by decide +kernel
theorem dX8_goesBy_14 : decode cX8_goesBy 14 = .ok (.if_icmp .ge 16, 3) := by decide +kernel
theorem dX8_goesBy_17 : decode cX8_goesBy 17 = .ok (.aload_n 0, 1) := by decide +kernel
theorem dX8_goesBy_18 : decode cX8_goesBy 18 = .ok (.invokevirtual 95, 3) := by decide +kernel
theorem dX8_goesBy_21 : decode cX8_goesBy 21 = .ok (.ifCond .eq 9, 3) := by decide +kernel
theorem dX8_goesBy_24 : decode cX8_goesBy 24 = .ok (.iinc 1 1, 3) := by decide +kernel
theorem dX8_goesBy_27 : decode cX8_goesBy 27 = .ok (.goto (-16), 3) := by decide +kernel
theorem dX8_goesBy_30 : decode cX8_goesBy 30 = .ok (.iload_n 1, 1) := by decide +kernel
theorem dX8_goesBy_31 : decode cX8_goesBy 31 = .ok (.ifCond .ne 5, 3) := by decide +kernel
theorem dX8_goesBy_34 : decode cX8_goesBy 34 = .ok (.iconst 0, 1) := by decide +kernel
theorem dX8_goesBy_35 : decode cX8_goesBy 35 = .ok (.ireturn, 1) := by decide +kernel
theorem dX8_goesBy_36 : decode cX8_goesBy 36 = .ok (.goto 115, 3) := by decide +kernel
theorem dX8_goesBy_39 : decode cX8_goesBy 39 = .ok (.aload_n 0, 1) := by decide +kernel
theorem dX8_goesBy_40 : decode cX8_goesBy 40 = .ok (.bipush 119, 2) := by decide +kernel
theorem dX8_goesBy_42 : decode cX8_goesBy 42 = .ok (.invokevirtual 92, 3) := by decide +kernel
theorem dX8_goesBy_45 : decode cX8_goesBy 45 = .ok (.ifCond .eq 28, 3) := by decide +kernel
theorem dX8_goesBy_48 : decode cX8_goesBy 48 = .ok (.aload_n 0, 1) := by decide +kernel
theorem dX8_goesBy_49 : decode cX8_goesBy 49 = .ok (.invokevirtual 95, 3) := by decide +kernel
theorem dX8_goesBy_52 : decode cX8_goesBy 52 = .ok (.ifCond .eq 19, 3) := by decide +kernel
theorem dX8_goesBy_55 : decode cX8_goesBy 55 = .ok (.aload_n 0, 1) := by decide +kernel
theorem dX8_goesBy_56 : decode cX8_goesBy 56 = .ok (.bipush 44, 2) := by decide +kernel
theorem dX8_goesBy_58 : decode cX8_goesBy 58 = .ok (.invokevirtual 92, 3) := by decide +kernel
theorem dX8_goesBy_61 : decode cX8_goesBy 61 = .ok (.ifCond .eq 10, 3) := by decide +kernel
theorem dX8_goesBy_64 : decode cX8_goesBy 64 = .ok (.aload_n 0, 1) := by decide +kernel
theorem dX8_goesBy_65 : decode cX8_goesBy 65 = .ok (.invokevirtual 95, 3) := by decide +kernel
theorem dX8_goesBy_68 : decode cX8_goesBy 68 = .ok (.ifCond .ne 83, 3) := by decide +kernel
theorem dX8_goesBy_71 : decode cX8_goesBy 71 = .ok (.iconst 0, 1) := by decide +kernel
theorem dX8_goesBy_72 : decode cX8_goesBy 72 = .ok (.ireturn, 1) := by decide +kernel
theorem dX8_goesBy_73 : decode cX8_goesBy 73 = .ok (.aload_n 0, 1) := by decide +kernel
theorem dX8_goesBy_74 : decode cX8_goesBy 74 = .ok (.bipush 108, 2) := by decide +kernel
theorem dX8_goesBy_76 : decode cX8_goesBy 76 = .ok (.invokevirtual 92, 3) := by decide +kernel
theorem dX8_goesBy_79 : decode cX8_goesBy 79 = .ok (.ifCond .eq 12, 3) := by decide +kernel
theorem dX8_goesBy_82 : decode cX8_goesBy 82 = .ok (.aload_n 0, 1) := by decide +kernel
theorem dX8_goesBy_83 : decode cX8_goesBy 83 = .ok (.invokevirtual 95, 3) := by decide +kernel
theorem dX8_goesBy_86 : decode cX8_goesBy 86 = .ok (.ifCond .ne 65, 3) := by decide +kernel
theorem dX8_goesBy_89 : decode cX8_goesBy 89 = .ok (.iconst 0, 1) := by decide +kernel
theorem dX8_goesBy_90 : decode cX8_goesBy 90 = .ok (.ireturn, 1) := by decide +kernel
theorem dX8_goesBy_91 : decode cX8_goesBy 91 = .ok (.aload_n 0, 1) := by decide +kernel
theorem dX8_goesBy_92 : decode cX8_goesBy 92 = .ok (.bipush 112, 2) := by decide +kernel
theorem dX8_goesBy_94 : decode cX8_goesBy 94 = .ok (.invokevirtual 92, 3) := by decide +kernel
theorem dX8_goesBy_97 : decode cX8_goesBy 97 = .ok (.ifCond .eq 25, 3) := by decide +kernel
theorem dX8_goesBy_100 : decode cX8_goesBy 100 = .ok (.aload_n 0, 1) := by decide +kernel
theorem dX8_goesBy_101 : decode cX8_goesBy 101 = .ok (.invokevirtual 98, 3) := by decide +kernel
theorem dX8_goesBy_104 : decode cX8_goesBy 104 = .ok (.ifCond .ne 5, 3) := by decide +kernel
theorem dX8_goesBy_107 : decode cX8_goesBy 107 = .ok (.iconst 0, 1) := by decide +kernel
theorem dX8_goesBy_108 : decode cX8_goesBy 108 = .ok (.ireturn, 1) := by decide +kernel
theorem dX8_goesBy_109 : decode cX8_goesBy 109 = .ok (.aload_n 0, 1) := by decide +kernel
theorem dX8_goesBy_110 : decode cX8_goesBy 110 = .ok (.dup, 1) := by decide +kernel
theorem dX8_goesBy_111 : decode cX8_goesBy 111 = .ok (.getfield 81, 3) := by decide +kernel
theorem dX8_goesBy_114 : decode cX8_goesBy 114 = .ok (.iconst 1, 1) := by decide +kernel
theorem dX8_goesBy_115 : decode cX8_goesBy 115 = .ok (.iadd, 1) := by decide +kernel
theorem dX8_goesBy_116 : decode cX8_goesBy 116 = .ok (.putfield 81, 3) := by decide +kernel
theorem dX8_goesBy_119 : decode cX8_goesBy 119 = .ok (.goto 32, 3) := by decide +kernel
theorem dX8_goesBy_122 : decode cX8_goesBy 122 = .ok (.aload_n 0, 1) := by decide +kernel
theorem dX8_goesBy_123 : decode cX8_goesBy 123 = .ok (.bipush 110, 2) := by decide +kernel
theorem dX8_goesBy_125 : decode cX8_goesBy 125 = .ok (.invokevirtual 92, 3) := by decide +kernel
theorem dX8_goesBy_128 : decode cX8_goesBy 128 = .ok (.ifCond .ne 23, 3) := by decide +kernel
theorem dX8_goesBy_131 : decode cX8_goesBy 131 = .ok (.aload_n 0, 1) := by decide +kernel
theorem dX8_goesBy_132 : decode cX8_goesBy 132 = .ok (.bipush 111, 2) := by decide +kernel
theorem dX8_goesBy_134 : decode cX8_goesBy 134 = .ok (.invokevirtual 92, 3) := by decide +kernel
theorem dX8_goesBy_137 : decode cX8_goesBy 137 = .ok (.ifCond .ne 14, 3) := by decide +kernel
theorem dX8_goesBy_140 : decode cX8_goesBy 140 = .ok (.aload_n 0, 1) := by decide +kernel
theorem dX8_goesBy_141 : decode cX8_goesBy 141 = .ok (.bipush 105, 2) := by decide +kernel
theorem dX8_goesBy_143 : decode cX8_goesBy 143 = .ok (.invokevirtual 92, 3) := by decide +kernel
theorem dX8_goesBy_146 : decode cX8_goesBy 146 = .ok (.ifCond .ne 5, 3) := by decide +kernel
theorem dX8_goesBy_149 : decode cX8_goesBy 149 = .ok (.iconst 0, 1) := by decide +kernel
theorem dX8_goesBy_150 : decode cX8_goesBy 150 = .ok (.ireturn, 1) := by decide +kernel
theorem dX8_goesBy_151 : decode cX8_goesBy 151 = .ok (.aload_n 0, 1) := by decide +kernel
theorem dX8_goesBy_152 : decode cX8_goesBy 152 = .ok (.bipush 59, 2) := by decide +kernel
theorem dX8_goesBy_154 : decode cX8_goesBy 154 = .ok (.invokevirtual 92, 3) := by decide +kernel
theorem dX8_goesBy_157 : decode cX8_goesBy 157 = .ok (.ireturn, 1) := by decide +kernel
theorem dX8_faultOfForm_0 : decode cX8_faultOfForm 0 = .ok (.aload_n 0, 1) := by decide +kernel
theorem dX8_faultOfForm_1 : decode cX8_faultOfForm 1 = .ok (.iconst 0, 1) := by decide +kernel
theorem dX8_faultOfForm_2 : decode cX8_faultOfForm 2 = .ok (.putfield 81, 3) := by decide +kernel
theorem dX8_faultOfForm_5 : decode cX8_faultOfForm 5 = .ok (.aload_n 0, 1) := by decide +kernel
theorem dX8_faultOfForm_6 : decode cX8_faultOfForm 6 = .ok (.invokevirtual 101, 3) := by decide +kernel
theorem dX8_faultOfForm_9 : decode cX8_faultOfForm 9 = .ok (.ifCond .ne 8, 3) := by decide +kernel
theorem dX8_faultOfForm_12 : decode cX8_faultOfForm 12 = .ok (.aload_n 0, 1) := by decide +kernel
theorem dX8_faultOfForm_13 : decode cX8_faultOfForm 13 = .ok (.getfield 81, 3) := by decide +kernel
theorem dX8_faultOfForm_16 : decode cX8_faultOfForm 16 = .ok (.ireturn, 1) := by decide +kernel
theorem dX8_faultOfForm_17 : decode cX8_faultOfForm 17 = .ok (.aload_n 0, 1) := by decide +kernel
theorem dX8_faultOfForm_18 : decode cX8_faultOfForm 18 = .ok (.getfield 81, 3) := by decide +kernel
theorem dX8_faultOfForm_21 : decode cX8_faultOfForm 21 = .ok (.aload_n 0, 1) := by decide +kernel
theorem dX8_faultOfForm_22 : decode cX8_faultOfForm 22 = .ok (.getfield 78, 3) := by decide +kernel
theorem dX8_faultOfForm_25 : decode cX8_faultOfForm 25 = .ok (.if_icmp .ge 15, 3) := by decide +kernel
theorem dX8_faultOfForm_28 : decode cX8_faultOfForm 28 = .ok (.aload_n 0, 1) := by decide +kernel
theorem dX8_faultOfForm_29 : decode cX8_faultOfForm 29 = .ok (.invokevirtual 101, 3) := by decide +kernel
theorem dX8_faultOfForm_32 : decode cX8_faultOfForm 32 = .ok (.ifCond .ne (-15), 3) := by decide +kernel
theorem dX8_faultOfForm_35 : decode cX8_faultOfForm 35 = .ok (.aload_n 0, 1) := by decide +kernel
theorem dX8_faultOfForm_36 : decode cX8_faultOfForm 36 = .ok (.getfield 81, 3) := by decide +kernel
theorem dX8_faultOfForm_39 : decode cX8_faultOfForm 39 = .ok (.ireturn, 1) := by decide +kernel
theorem dX8_faultOfForm_40 : decode cX8_faultOfForm 40 = .ok (.bipush (-9), 2) := by decide +kernel
theorem dX8_faultOfForm_42 : decode cX8_faultOfForm 42 = .ok (.ireturn, 1) := by decide +kernel
theorem dX8_addWord_0 : decode cX8_addWord 0 = .ok (.aload_n 0, 1) := by decide +kernel
theorem dX8_addWord_1 : decode cX8_addWord 1 = .ok (.getfield 67, 3) := by decide +kernel
theorem dX8_addWord_4 : decode cX8_addWord 4 = .ok (.bipush 8, 2) := by decide +kernel
theorem dX8_addWord_6 : decode cX8_addWord 6 = .ok (.if_icmp .ne 5, 3) := by decide +kernel
theorem dX8_addWord_9 : decode cX8_addWord 9 = .ok (.iconst 0, 1) := by decide +kernel
theorem dX8_addWord_10 : decode cX8_addWord 10 = .ok (.ireturn, 1) := by decide +kernel
theorem dX8_addWord_11 : decode cX8_addWord 11 = .ok (.aload_n 0, 1) := by decide +kernel
theorem dX8_addWord_12 : decode cX8_addWord 12 = .ok (.getfield 22, 3) := by decide +kernel
theorem dX8_addWord_15 : decode cX8_addWord 15 = .ok (.aload_n 0, 1) := by decide +kernel
theorem dX8_addWord_16 : decode cX8_addWord 16 = .ok (.getfield 67, 3) := by decide +kernel
theorem dX8_addWord_19 : decode cX8_addWord 19 = .ok (.iload_n 1, 1) := by decide +kernel
theorem dX8_addWord_20 : decode cX8_addWord 20 = .ok (.iastore, 1) := by decide +kernel
theorem dX8_addWord_21 : decode cX8_addWord 21 = .ok (.aload_n 0, 1) := by decide +kernel
theorem dX8_addWord_22 : decode cX8_addWord 22 = .ok (.getfield 25, 3) := by decide +kernel
theorem dX8_addWord_25 : decode cX8_addWord 25 = .ok (.aload_n 0, 1) := by decide +kernel
theorem dX8_addWord_26 : decode cX8_addWord 26 = .ok (.dup, 1) := by decide +kernel
theorem dX8_addWord_27 : decode cX8_addWord 27 = .ok (.getfield 67, 3) := by decide +kernel
theorem dX8_addWord_30 : decode cX8_addWord 30 = .ok (.dup_x1, 1) := by decide +kernel
theorem dX8_addWord_31 : decode cX8_addWord 31 = .ok (.iconst 1, 1) := by decide +kernel
theorem dX8_addWord_32 : decode cX8_addWord 32 = .ok (.iadd, 1) := by decide +kernel
theorem dX8_addWord_33 : decode cX8_addWord 33 = .ok (.putfield 67, 3) := by decide +kernel
theorem dX8_addWord_36 : decode cX8_addWord 36 = .ok (.iload_n 2, 1) := by decide +kernel
theorem dX8_addWord_37 : decode cX8_addWord 37 = .ok (.iastore, 1) := by decide +kernel
theorem dX8_addWord_38 : decode cX8_addWord 38 = .ok (.iconst 1, 1) := by decide +kernel
theorem dX8_addWord_39 : decode cX8_addWord 39 = .ok (.ireturn, 1) := by decide +kernel
theorem dX8_comes_0 : decode cX8_comes 0 = .ok (.aload_n 0, 1) := by decide +kernel
theorem dX8_comes_1 : decode cX8_comes 1 = .ok (.getfield 9, 3) := by decide +kernel
theorem dX8_comes_4 : decode cX8_comes 4 = .ok (.aload_n 0, 1) := by decide +kernel
theorem dX8_comes_5 : decode cX8_comes 5 = .ok (.dup, 1) := by decide +kernel
theorem dX8_comes_6 : decode cX8_comes 6 = .ok (.getfield 81, 3) := by decide +kernel
theorem dX8_comes_9 : decode cX8_comes 9 = .ok (.dup_x1, 1) := by decide +kernel
theorem dX8_comes_10 : decode cX8_comes 10 = .ok (.iconst 1, 1) := by decide +kernel
theorem dX8_comes_11 : decode cX8_comes 11 = .ok (.iadd, 1) := by decide +kernel
theorem dX8_comes_12 : decode cX8_comes 12 = .ok (.putfield 81, 3) := by decide +kernel
theorem dX8_comes_15 : decode cX8_comes 15 = .ok (.iaload, 1) := by decide +kernel
theorem dX8_comes_16 : decode cX8_comes 16 = .ok (.istore_n 1, 1) := by decide +kernel
theorem dX8_comes_17 : decode cX8_comes 17 = .ok (.aload_n 0, 1) := by decide +kernel
theorem dX8_comes_18 : decode cX8_comes 18 = .ok (.getfield 81, 3) := by decide +kernel
theorem dX8_comes_21 : decode cX8_comes 21 = .ok (.aload_n 0, 1) := by decide +kernel
theorem dX8_comes_22 : decode cX8_comes 22 = .ok (.getfield 78, 3) := by decide +kernel
theorem dX8_comes_25 : decode cX8_comes 25 = .ok (.if_icmp .ge 18, 3) := by decide +kernel
theorem dX8_comes_28 : decode cX8_comes 28 = .ok (.aload_n 0, 1) := by decide +kernel
theorem dX8_comes_29 : decode cX8_comes 29 = .ok (.getfield 9, 3) := by decide +kernel
theorem dX8_comes_32 : decode cX8_comes 32 = .ok (.aload_n 0, 1) := by decide +kernel
theorem dX8_comes_33 : decode cX8_comes 33 = .ok (.getfield 81, 3) := by decide +kernel
theorem dX8_comes_36 : decode cX8_comes 36 = .ok (.iaload, 1) := by decide +kernel
theorem dX8_comes_37 : decode cX8_comes 37 = .ok (.bipush 48, 2) := by decide +kernel
theorem dX8_comes_39 : decode cX8_comes 39 = .ok (.isub, 1) := by decide +kernel
theorem dX8_comes_40 : decode cX8_comes 40 = .ok (.goto 4, 3) := by decide +kernel
theorem dX8_comes_43 : decode cX8_comes 43 = .ok (.iconst 0, 1) := by decide +kernel
theorem dX8_comes_44 : decode cX8_comes 44 = .ok (.istore_n 2, 1) := by decide +kernel
theorem dX8_comes_45 : decode cX8_comes 45 = .ok (.iload_n 1, 1) := by decide +kernel
theorem dX8_comes_46 : decode cX8_comes 46 = .ok (.tableswitch 144 105 119 #[93, 144, 144, 130, 144, 79, 86, 144, 144, 144, 144, 74, 144, 144, 100], 74) := by decide +kernel
theorem dX8_comes_120 : decode cX8_comes 120 = .ok (.aload_n 0, 1) := by decide +kernel
theorem dX8_comes_121 : decode cX8_comes 121 = .ok (.invokevirtual 108, 3) := by decide +kernel
theorem dX8_comes_124 : decode cX8_comes 124 = .ok (.ireturn, 1) := by decide +kernel
theorem dX8_comes_125 : decode cX8_comes 125 = .ok (.aload_n 0, 1) := by decide +kernel
theorem dX8_comes_126 : decode cX8_comes 126 = .ok (.iconst 1, 1) := by decide +kernel
theorem dX8_comes_127 : decode cX8_comes 127 = .ok (.iconst 0, 1) := by decide +kernel
theorem dX8_comes_128 : decode cX8_comes 128 = .ok (.invokevirtual 104, 3) := by decide +kernel
theorem dX8_comes_131 : decode cX8_comes 131 = .ok (.ireturn, 1) := by decide +kernel
theorem dX8_comes_132 : decode cX8_comes 132 = .ok (.aload_n 0, 1) := by decide +kernel
theorem dX8_comes_133 : decode cX8_comes 133 = .ok (.iconst 2, 1) := by decide +kernel
theorem dX8_comes_134 : decode cX8_comes 134 = .ok (.iconst 0, 1) := by decide +kernel
theorem dX8_comes_135 : decode cX8_comes 135 = .ok (.invokevirtual 104, 3) := by decide +kernel
theorem dX8_comes_138 : decode cX8_comes 138 = .ok (.ireturn, 1) := by decide +kernel
theorem dX8_comes_139 : decode cX8_comes 139 = .ok (.aload_n 0, 1) := by decide +kernel
theorem dX8_comes_140 : decode cX8_comes 140 = .ok (.iconst 3, 1) := by decide +kernel
theorem dX8_comes_141 : decode cX8_comes 141 = .ok (.iconst 0, 1) := by decide +kernel
theorem dX8_comes_142 : decode cX8_comes 142 = .ok (.invokevirtual 104, 3) := by decide +kernel
theorem dX8_comes_145 : decode cX8_comes 145 = .ok (.ireturn, 1) := by decide +kernel
theorem dX8_comes_146 : decode cX8_comes 146 = .ok (.iload_n 2, 1) := by decide +kernel
theorem dX8_comes_147 : decode cX8_comes 147 = .ok (.bipush 7, 2) := by decide +kernel
theorem dX8_comes_149 : decode cX8_comes 149 = .ok (.if_icmp .le 5, 3) := by decide +kernel
theorem dX8_comes_152 : decode cX8_comes 152 = .ok (.iconst 0, 1) := by decide +kernel
theorem dX8_comes_153 : decode cX8_comes 153 = .ok (.ireturn, 1) := by decide +kernel
theorem dX8_comes_154 : decode cX8_comes 154 = .ok (.aload_n 0, 1) := by decide +kernel
theorem dX8_comes_155 : decode cX8_comes 155 = .ok (.getfield 28, 3) := by decide +kernel
theorem dX8_comes_158 : decode cX8_comes 158 = .ok (.iload_n 2, 1) := by decide +kernel
theorem dX8_comes_159 : decode cX8_comes 159 = .ok (.aload_n 0, 1) := by decide +kernel
theorem dX8_comes_160 : decode cX8_comes 160 = .ok (.getfield 9, 3) := by decide +kernel
theorem dX8_comes_163 : decode cX8_comes 163 = .ok (.aload_n 0, 1) := by decide +kernel
theorem dX8_comes_164 : decode cX8_comes 164 = .ok (.getfield 81, 3) := by decide +kernel
theorem dX8_comes_167 : decode cX8_comes 167 = .ok (.iconst 2, 1) := by decide +kernel
theorem dX8_comes_168 : decode cX8_comes 168 = .ok (.iadd, 1) := by decide +kernel
theorem dX8_comes_169 : decode cX8_comes 169 = .ok (.iaload, 1) := by decide +kernel
theorem dX8_comes_170 : decode cX8_comes 170 = .ok (.bipush 48, 2) := by decide +kernel
theorem dX8_comes_172 : decode cX8_comes 172 = .ok (.isub, 1) := by decide +kernel
theorem dX8_comes_173 : decode cX8_comes 173 = .ok (.iastore, 1) := by decide +kernel
theorem dX8_comes_174 : decode cX8_comes 174 = .ok (.iconst 1, 1) := by decide +kernel
theorem dX8_comes_175 : decode cX8_comes 175 = .ok (.ireturn, 1) := by decide +kernel
theorem dX8_comes_176 : decode cX8_comes 176 = .ok (.iload_n 2, 1) := by decide +kernel
theorem dX8_comes_177 : decode cX8_comes 177 = .ok (.iconst 4, 1) := by decide +kernel
theorem dX8_comes_178 : decode cX8_comes 178 = .ok (.if_icmp .le 5, 3) := by decide +kernel
theorem dX8_comes_181 : decode cX8_comes 181 = .ok (.iconst 0, 1) := by decide +kernel
theorem dX8_comes_182 : decode cX8_comes 182 = .ok (.ireturn, 1) := by decide +kernel
theorem dX8_comes_183 : decode cX8_comes 183 = .ok (.aload_n 0, 1) := by decide +kernel
theorem dX8_comes_184 : decode cX8_comes 184 = .ok (.iload_n 2, 1) := by decide +kernel
theorem dX8_comes_185 : decode cX8_comes 185 = .ok (.putfield 111, 3) := by decide +kernel
theorem dX8_comes_188 : decode cX8_comes 188 = .ok (.iconst 1, 1) := by decide +kernel
theorem dX8_comes_189 : decode cX8_comes 189 = .ok (.ireturn, 1) := by decide +kernel
theorem dX8_comes_190 : decode cX8_comes 190 = .ok (.aload_n 0, 1) := by decide +kernel
theorem dX8_comes_191 : decode cX8_comes 191 = .ok (.getfield 71, 3) := by decide +kernel
theorem dX8_comes_194 : decode cX8_comes 194 = .ok (.iconst 4, 1) := by decide +kernel
theorem dX8_comes_195 : decode cX8_comes 195 = .ok (.if_icmp .ne 5, 3) := by decide +kernel
theorem dX8_comes_198 : decode cX8_comes 198 = .ok (.iconst 0, 1) := by decide +kernel
theorem dX8_comes_199 : decode cX8_comes 199 = .ok (.ireturn, 1) := by decide +kernel
theorem dX8_comes_200 : decode cX8_comes 200 = .ok (.aload_n 0, 1) := by decide +kernel
theorem dX8_comes_201 : decode cX8_comes 201 = .ok (.getfield 31, 3) := by decide +kernel
theorem dX8_comes_204 : decode cX8_comes 204 = .ok (.aload_n 0, 1) := by decide +kernel
theorem dX8_comes_205 : decode cX8_comes 205 = .ok (.dup, 1) := by decide +kernel
theorem dX8_comes_206 : decode cX8_comes 206 = .ok (.getfield 71, 3) := by decide +kernel
theorem dX8_comes_209 : decode cX8_comes 209 = .ok (.dup_x1, 1) := by decide +kernel
theorem dX8_comes_210 : decode cX8_comes 210 = .ok (.iconst 1, 1) := by decide +kernel
theorem dX8_comes_211 : decode cX8_comes 211 = .ok (.iadd, 1) := by decide +kernel
theorem dX8_comes_212 : decode cX8_comes 212 = .ok (.putfield 71, 3) := by decide +kernel
theorem dX8_comes_215 : decode cX8_comes 215 = .ok (.aload_n 0, 1) := by decide +kernel
theorem dX8_comes_216 : decode cX8_comes 216 = .ok (.getfield 9, 3) := by decide +kernel
theorem dX8_comes_219 : decode cX8_comes 219 = .ok (.aload_n 0, 1) := by decide +kernel
theorem dX8_comes_220 : decode cX8_comes 220 = .ok (.getfield 81, 3) := by decide +kernel
theorem dX8_comes_223 : decode cX8_comes 223 = .ok (.iaload, 1) := by decide +kernel
theorem dX8_comes_224 : decode cX8_comes 224 = .ok (.iastore, 1) := by decide +kernel
theorem dX8_comes_225 : decode cX8_comes 225 = .ok (.iconst 1, 1) := by decide +kernel
theorem dX8_comes_226 : decode cX8_comes 226 = .ok (.ireturn, 1) := by decide +kernel
theorem dX8_idleOf_0 : decode cX8_idleOf 0 = .ok (.iconst 0, 1) := by decide +kernel
theorem dX8_idleOf_1 : decode cX8_idleOf 1 = .ok (.istore_n 3, 1) := by decide +kernel
theorem dX8_idleOf_2 : decode cX8_idleOf 2 = .ok (.iconst 0, 1) := by decide +kernel
theorem dX8_idleOf_3 : decode cX8_idleOf 3 = .ok (.istore 4, 2) := by decide +kernel
theorem dX8_idleOf_5 : decode cX8_idleOf 5 = .ok (.iload 4, 2) := by decide +kernel
theorem dX8_idleOf_7 : decode cX8_idleOf 7 = .ok (.iload_n 2, 1) := by decide +kernel
theorem dX8_idleOf_8 : decode cX8_idleOf 8 = .ok (.if_icmp .ge 30, 3) := by decide +kernel
theorem dX8_idleOf_11 : decode cX8_idleOf 11 = .ok (.iload_n 3, 1) := by decide +kernel
theorem dX8_idleOf_12 : decode cX8_idleOf 12 = .ok (.aload_n 0, 1) := by decide +kernel
theorem dX8_idleOf_13 : decode cX8_idleOf 13 = .ok (.getfield 22, 3) := by decide +kernel
theorem dX8_idleOf_16 : decode cX8_idleOf 16 = .ok (.aload_n 1, 1) := by decide +kernel
theorem dX8_idleOf_17 : decode cX8_idleOf 17 = .ok (.iload 4, 2) := by decide +kernel
theorem dX8_idleOf_19 : decode cX8_idleOf 19 = .ok (.iaload, 1) := by decide +kernel
theorem dX8_idleOf_20 : decode cX8_idleOf 20 = .ok (.iaload, 1) := by decide +kernel
theorem dX8_idleOf_21 : decode cX8_idleOf 21 = .ok (.iconst 3, 1) := by decide +kernel
theorem dX8_idleOf_22 : decode cX8_idleOf 22 = .ok (.if_icmp .ne 7, 3) := by decide +kernel
theorem dX8_idleOf_25 : decode cX8_idleOf 25 = .ok (.iconst 1, 1) := by decide +kernel
theorem dX8_idleOf_26 : decode cX8_idleOf 26 = .ok (.goto 4, 3) := by decide +kernel
theorem dX8_idleOf_29 : decode cX8_idleOf 29 = .ok (.iconst 0, 1) := by decide +kernel
theorem dX8_idleOf_30 : decode cX8_idleOf 30 = .ok (.iadd, 1) := by decide +kernel
theorem dX8_idleOf_31 : decode cX8_idleOf 31 = .ok (.istore_n 3, 1) := by decide +kernel
theorem dX8_idleOf_32 : decode cX8_idleOf 32 = .ok (.iinc 4 1, 3) := by decide +kernel
theorem dX8_idleOf_35 : decode cX8_idleOf 35 = .ok (.goto (-30), 3) := by decide +kernel
theorem dX8_idleOf_38 : decode cX8_idleOf 38 = .ok (.iload_n 3, 1) := by decide +kernel
theorem dX8_idleOf_39 : decode cX8_idleOf 39 = .ok (.ireturn, 1) := by decide +kernel
theorem dX8_doesSettle_0 : decode cX8_doesSettle 0 = .ok (.iload_n 1, 1) := by decide +kernel
theorem dX8_doesSettle_1 : decode cX8_doesSettle 1 = .ok (.ifCond .eq 21, 3) := by decide +kernel
theorem dX8_doesSettle_4 : decode cX8_doesSettle 4 = .ok (.iload_n 1, 1) := by decide +kernel
theorem dX8_doesSettle_5 : decode cX8_doesSettle 5 = .ok (.iload_n 0, 1) := by decide +kernel
theorem dX8_doesSettle_6 : decode cX8_doesSettle 6 = .ok (.iconst (-1), 1) := by decide +kernel
theorem dX8_doesSettle_7 : decode cX8_doesSettle 7 = .ok (.ixor, 1) := by decide +kernel
theorem dX8_doesSettle_8 : decode cX8_doesSettle 8 = .ok (.iand, 1) := by decide +kernel
theorem dX8_doesSettle_9 : decode cX8_doesSettle 9 = .ok (.ifCond .eq 9, 3) := by decide +kernel
theorem dX8_doesSettle_12 : decode cX8_doesSettle 12 = .ok (.iload_n 1, 1) := by decide +kernel
theorem dX8_doesSettle_13 : decode cX8_doesSettle 13 = .ok (.iload_n 0, 1) := by decide +kernel
theorem dX8_doesSettle_14 : decode cX8_doesSettle 14 = .ok (.iand, 1) := by decide +kernel
theorem dX8_doesSettle_15 : decode cX8_doesSettle 15 = .ok (.ifCond .ne 7, 3) := by decide +kernel
theorem dX8_doesSettle_18 : decode cX8_doesSettle 18 = .ok (.iconst 1, 1) := by decide +kernel
theorem dX8_doesSettle_19 : decode cX8_doesSettle 19 = .ok (.goto 4, 3) := by decide +kernel
theorem dX8_doesSettle_22 : decode cX8_doesSettle 22 = .ok (.iconst 0, 1) := by decide +kernel
theorem dX8_doesSettle_23 : decode cX8_doesSettle 23 = .ok (.ireturn, 1) := by decide +kernel
theorem dX8_follows_0 : decode cX8_follows 0 = .ok (.iload_n 1, 1) := by decide +kernel
theorem dX8_follows_1 : decode cX8_follows 1 = .ok (.ifCond .lt 7, 3) := by decide +kernel
theorem dX8_follows_4 : decode cX8_follows 4 = .ok (.iload_n 2, 1) := by decide +kernel
theorem dX8_follows_5 : decode cX8_follows 5 = .ok (.ifCond .ge 10, 3) := by decide +kernel
theorem dX8_follows_8 : decode cX8_follows 8 = .ok (.aload_n 0, 1) := by decide +kernel
theorem dX8_follows_9 : decode cX8_follows 9 = .ok (.bipush (-4), 2) := by decide +kernel
theorem dX8_follows_11 : decode cX8_follows 11 = .ok (.invokevirtual 74, 3) := by decide +kernel
theorem dX8_follows_14 : decode cX8_follows 14 = .ok (.ireturn, 1) := by decide +kernel
theorem dX8_follows_15 : decode cX8_follows 15 = .ok (.iload_n 1, 1) := by decide +kernel
theorem dX8_follows_16 : decode cX8_follows 16 = .ok (.bipush 6, 2) := by decide +kernel
theorem dX8_follows_18 : decode cX8_follows 18 = .ok (.if_icmp .gt 8, 3) := by decide +kernel
theorem dX8_follows_21 : decode cX8_follows 21 = .ok (.iload_n 2, 1) := by decide +kernel
theorem dX8_follows_22 : decode cX8_follows 22 = .ok (.iload_n 1, 1) := by decide +kernel
theorem dX8_follows_23 : decode cX8_follows 23 = .ok (.if_icmp .le 10, 3) := by decide +kernel
theorem dX8_follows_26 : decode cX8_follows 26 = .ok (.aload_n 0, 1) := by decide +kernel
theorem dX8_follows_27 : decode cX8_follows 27 = .ok (.bipush (-6), 2) := by decide +kernel
theorem dX8_follows_29 : decode cX8_follows 29 = .ok (.invokevirtual 74, 3) := by decide +kernel
theorem dX8_follows_32 : decode cX8_follows 32 = .ok (.ireturn, 1) := by decide +kernel
theorem dX8_follows_33 : decode cX8_follows 33 = .ok (.aload_n 0, 1) := by decide +kernel
theorem dX8_follows_34 : decode cX8_follows 34 = .ok (.getfield 111, 3) := by decide +kernel
theorem dX8_follows_37 : decode cX8_follows 37 = .ok (.aload_n 0, 1) := by decide +kernel
theorem dX8_follows_38 : decode cX8_follows 38 = .ok (.getfield 139, 3) := by decide +kernel
theorem dX8_follows_41 : decode cX8_follows 41 = .ok (.aload_n 0, 1) := by decide +kernel
theorem dX8_follows_42 : decode cX8_follows 42 = .ok (.aload_n 0, 1) := by decide +kernel
theorem dX8_follows_43 : decode cX8_follows 43 = .ok (.getfield 13, 3) := by decide +kernel
theorem dX8_follows_46 : decode cX8_follows 46 = .ok (.aload_n 0, 1) := by decide +kernel
theorem dX8_follows_47 : decode cX8_follows 47 = .ok (.getfield 139, 3) := by decide +kernel
theorem dX8_follows_50 : decode cX8_follows 50 = .ok (.invokevirtual 146, 3) := by decide +kernel
theorem dX8_follows_53 : decode cX8_follows 53 = .ok (.iload_n 1, 1) := by decide +kernel
theorem dX8_follows_54 : decode cX8_follows 54 = .ok (.iload_n 2, 1) := by decide +kernel
theorem dX8_follows_55 : decode cX8_follows 55 = .ok (.invokestatic 149, 3) := by decide +kernel
theorem dX8_follows_58 : decode cX8_follows 58 = .ok (.istore_n 3, 1) := by decide +kernel
theorem dX8_follows_59 : decode cX8_follows 59 = .ok (.aload_n 0, 1) := by decide +kernel
theorem dX8_follows_60 : decode cX8_follows 60 = .ok (.iconst 0, 1) := by decide +kernel
theorem dX8_follows_61 : decode cX8_follows 61 = .ok (.putfield 139, 3) := by decide +kernel
theorem dX8_follows_64 : decode cX8_follows 64 = .ok (.iload_n 3, 1) := by decide +kernel
theorem dX8_follows_65 : decode cX8_follows 65 = .ok (.ifCond .eq 7, 3) := by decide +kernel
theorem dX8_follows_68 : decode cX8_follows 68 = .ok (.iconst 1, 1) := by decide +kernel
theorem dX8_follows_69 : decode cX8_follows 69 = .ok (.goto 4, 3) := by decide +kernel
theorem dX8_follows_72 : decode cX8_follows 72 = .ok (.iconst 0, 1) := by decide +kernel
theorem dX8_follows_73 : decode cX8_follows 73 = .ok (.ireturn, 1) := by decide +kernel
theorem dX8_add_0 : decode cX8_add 0 = .ok (.aload_n 0, 1) := by decide +kernel
theorem dX8_add_1 : decode cX8_add 1 = .ok (.getfield 48, 3) := by decide +kernel
theorem dX8_add_4 : decode cX8_add 4 = .ok (.aload_n 0, 1) := by decide +kernel
theorem dX8_add_5 : decode cX8_add 5 = .ok (.getfield 159, 3) := by decide +kernel
theorem dX8_add_8 : decode cX8_add 8 = .ok (.aaload, 1) := by decide +kernel
theorem dX8_add_9 : decode cX8_add 9 = .ok (.astore 5, 2) := by decide +kernel
theorem dX8_add_11 : decode cX8_add 11 = .ok (.aload 5, 2) := by decide +kernel
theorem dX8_add_13 : decode cX8_add 13 = .ok (.iconst 0, 1) := by decide +kernel
theorem dX8_add_14 : decode cX8_add 14 = .ok (.iload_n 2, 1) := by decide +kernel
theorem dX8_add_15 : decode cX8_add 15 = .ok (.iastore, 1) := by decide +kernel
theorem dX8_add_16 : decode cX8_add 16 = .ok (.aload 5, 2) := by decide +kernel
theorem dX8_add_18 : decode cX8_add 18 = .ok (.iconst 1, 1) := by decide +kernel
theorem dX8_add_19 : decode cX8_add 19 = .ok (.iload_n 3, 1) := by decide +kernel
theorem dX8_add_20 : decode cX8_add 20 = .ok (.iastore, 1) := by decide +kernel
theorem dX8_add_21 : decode cX8_add 21 = .ok (.aload 5, 2) := by decide +kernel
theorem dX8_add_23 : decode cX8_add 23 = .ok (.iconst 2, 1) := by decide +kernel
theorem dX8_add_24 : decode cX8_add 24 = .ok (.iload 4, 2) := by decide +kernel
theorem dX8_add_26 : decode cX8_add 26 = .ok (.iastore, 1) := by decide +kernel
theorem dX8_add_27 : decode cX8_add 27 = .ok (.aload_n 0, 1) := by decide +kernel
theorem dX8_add_28 : decode cX8_add 28 = .ok (.getfield 43, 3) := by decide +kernel
theorem dX8_add_31 : decode cX8_add 31 = .ok (.aload_n 0, 1) := by decide +kernel
theorem dX8_add_32 : decode cX8_add 32 = .ok (.getfield 159, 3) := by decide +kernel
theorem dX8_add_35 : decode cX8_add 35 = .ok (.iload_n 1, 1) := by decide +kernel
theorem dX8_add_36 : decode cX8_add 36 = .ok (.iastore, 1) := by decide +kernel
theorem dX8_add_37 : decode cX8_add 37 = .ok (.aload_n 0, 1) := by decide +kernel
theorem dX8_add_38 : decode cX8_add 38 = .ok (.getfield 51, 3) := by decide +kernel
theorem dX8_add_41 : decode cX8_add 41 = .ok (.aload_n 0, 1) := by decide +kernel
theorem dX8_add_42 : decode cX8_add 42 = .ok (.getfield 159, 3) := by decide +kernel
theorem dX8_add_45 : decode cX8_add 45 = .ok (.aload_n 0, 1) := by decide +kernel
theorem dX8_add_46 : decode cX8_add 46 = .ok (.aload 5, 2) := by decide +kernel
theorem dX8_add_48 : decode cX8_add 48 = .ok (.iload_n 1, 1) := by decide +kernel
theorem dX8_add_49 : decode cX8_add 49 = .ok (.invokevirtual 142, 3) := by decide +kernel
theorem dX8_add_52 : decode cX8_add 52 = .ok (.iastore, 1) := by decide +kernel
theorem dX8_add_53 : decode cX8_add 53 = .ok (.aload_n 0, 1) := by decide +kernel
theorem dX8_add_54 : decode cX8_add 54 = .ok (.getfield 54, 3) := by decide +kernel
theorem dX8_add_57 : decode cX8_add 57 = .ok (.aload_n 0, 1) := by decide +kernel
theorem dX8_add_58 : decode cX8_add 58 = .ok (.getfield 159, 3) := by decide +kernel
theorem dX8_add_61 : decode cX8_add 61 = .ok (.aload_n 0, 1) := by decide +kernel
theorem dX8_add_62 : decode cX8_add 62 = .ok (.aload 5, 2) := by decide +kernel
theorem dX8_add_64 : decode cX8_add 64 = .ok (.iload_n 1, 1) := by decide +kernel
theorem dX8_add_65 : decode cX8_add 65 = .ok (.invokevirtual 146, 3) := by decide +kernel
theorem dX8_add_68 : decode cX8_add 68 = .ok (.iastore, 1) := by decide +kernel
theorem dX8_add_69 : decode cX8_add 69 = .ok (.aload_n 0, 1) := by decide +kernel
theorem dX8_add_70 : decode cX8_add 70 = .ok (.dup, 1) := by decide +kernel
theorem dX8_add_71 : decode cX8_add 71 = .ok (.getfield 159, 3) := by decide +kernel
theorem dX8_add_74 : decode cX8_add 74 = .ok (.iconst 1, 1) := by decide +kernel
theorem dX8_add_75 : decode cX8_add 75 = .ok (.iadd, 1) := by decide +kernel
theorem dX8_add_76 : decode cX8_add 76 = .ok (.putfield 159, 3) := by decide +kernel
theorem dX8_add_79 : decode cX8_add 79 = .ok (.return_, 1) := by decide +kernel
theorem dX8_asks_0 : decode cX8_asks 0 = .ok (.aload_n 0, 1) := by decide +kernel
theorem dX8_asks_1 : decode cX8_asks 1 = .ok (.iload_n 1, 1) := by decide +kernel
theorem dX8_asks_2 : decode cX8_asks 2 = .ok (.putfield 166, 3) := by decide +kernel
theorem dX8_asks_5 : decode cX8_asks 5 = .ok (.aload_n 0, 1) := by decide +kernel
theorem dX8_asks_6 : decode cX8_asks 6 = .ok (.iload_n 2, 1) := by decide +kernel
theorem dX8_asks_7 : decode cX8_asks 7 = .ok (.putfield 169, 3) := by decide +kernel
theorem dX8_asks_10 : decode cX8_asks 10 = .ok (.aload_n 0, 1) := by decide +kernel
theorem dX8_asks_11 : decode cX8_asks 11 = .ok (.iload_n 3, 1) := by decide +kernel
theorem dX8_asks_12 : decode cX8_asks 12 = .ok (.putfield 172, 3) := by decide +kernel
theorem dX8_asks_15 : decode cX8_asks 15 = .ok (.aload_n 0, 1) := by decide +kernel
theorem dX8_asks_16 : decode cX8_asks 16 = .ok (.iload 4, 2) := by decide +kernel
theorem dX8_asks_18 : decode cX8_asks 18 = .ok (.putfield 175, 3) := by decide +kernel
theorem dX8_asks_21 : decode cX8_asks 21 = .ok (.return_, 1) := by decide +kernel
theorem dX8_asksRow_0 : decode cX8_asksRow 0 = .ok (.aload_n 0, 1) := by decide +kernel
theorem dX8_asksRow_1 : decode cX8_asksRow 1 = .ok (.aload_n 0, 1) := by decide +kernel
theorem dX8_asksRow_2 : decode cX8_asksRow 2 = .ok (.getfield 139, 3) := by decide +kernel
theorem dX8_asksRow_5 : decode cX8_asksRow 5 = .ok (.aload_n 0, 1) := by decide +kernel
theorem dX8_asksRow_6 : decode cX8_asksRow 6 = .ok (.aload_n 0, 1) := by decide +kernel
theorem dX8_asksRow_7 : decode cX8_asksRow 7 = .ok (.getfield 13, 3) := by decide +kernel
theorem dX8_asksRow_10 : decode cX8_asksRow 10 = .ok (.aload_n 0, 1) := by decide +kernel
theorem dX8_asksRow_11 : decode cX8_asksRow 11 = .ok (.getfield 139, 3) := by decide +kernel
theorem dX8_asksRow_14 : decode cX8_asksRow 14 = .ok (.invokevirtual 146, 3) := by decide +kernel
theorem dX8_asksRow_17 : decode cX8_asksRow 17 = .ok (.aload_n 0, 1) := by decide +kernel
theorem dX8_asksRow_18 : decode cX8_asksRow 18 = .ok (.aload_n 0, 1) := by decide +kernel
theorem dX8_asksRow_19 : decode cX8_asksRow 19 = .ok (.getfield 13, 3) := by decide +kernel
theorem dX8_asksRow_22 : decode cX8_asksRow 22 = .ok (.aload_n 0, 1) := by decide +kernel
theorem dX8_asksRow_23 : decode cX8_asksRow 23 = .ok (.getfield 139, 3) := by decide +kernel
theorem dX8_asksRow_26 : decode cX8_asksRow 26 = .ok (.invokevirtual 142, 3) := by decide +kernel
theorem dX8_asksRow_29 : decode cX8_asksRow 29 = .ok (.aload_n 0, 1) := by decide +kernel
theorem dX8_asksRow_30 : decode cX8_asksRow 30 = .ok (.getfield 111, 3) := by decide +kernel
theorem dX8_asksRow_33 : decode cX8_asksRow 33 = .ok (.invokevirtual 178, 3) := by decide +kernel
theorem dX8_asksRow_36 : decode cX8_asksRow 36 = .ok (.return_, 1) := by decide +kernel
theorem dX8_isAnswer_0 : decode cX8_isAnswer 0 = .ok (.aload_n 0, 1) := by decide +kernel
theorem dX8_isAnswer_1 : decode cX8_isAnswer 1 = .ok (.getfield 175, 3) := by decide +kernel
theorem dX8_isAnswer_4 : decode cX8_isAnswer 4 = .ok (.aload_n 0, 1) := by decide +kernel
theorem dX8_isAnswer_5 : decode cX8_isAnswer 5 = .ok (.getfield 43, 3) := by decide +kernel
theorem dX8_isAnswer_8 : decode cX8_isAnswer 8 = .ok (.iload_n 1, 1) := by decide +kernel
theorem dX8_isAnswer_9 : decode cX8_isAnswer 9 = .ok (.iaload, 1) := by decide +kernel
theorem dX8_isAnswer_10 : decode cX8_isAnswer 10 = .ok (.aload_n 0, 1) := by decide +kernel
theorem dX8_isAnswer_11 : decode cX8_isAnswer 11 = .ok (.getfield 54, 3) := by decide +kernel
theorem dX8_isAnswer_14 : decode cX8_isAnswer 14 = .ok (.iload_n 1, 1) := by decide +kernel
theorem dX8_isAnswer_15 : decode cX8_isAnswer 15 = .ok (.iaload, 1) := by decide +kernel
theorem dX8_isAnswer_16 : decode cX8_isAnswer 16 = .ok (.aload_n 0, 1) := by decide +kernel
theorem dX8_isAnswer_17 : decode cX8_isAnswer 17 = .ok (.getfield 166, 3) := by decide +kernel
theorem dX8_isAnswer_20 : decode cX8_isAnswer 20 = .ok (.aload_n 0, 1) := by decide +kernel
theorem dX8_isAnswer_21 : decode cX8_isAnswer 21 = .ok (.getfield 169, 3) := by decide +kernel
theorem dX8_isAnswer_24 : decode cX8_isAnswer 24 = .ok (.invokestatic 149, 3) := by decide +kernel
theorem dX8_isAnswer_27 : decode cX8_isAnswer 27 = .ok (.ifCond .eq 23, 3) := by decide +kernel
theorem dX8_isAnswer_30 : decode cX8_isAnswer 30 = .ok (.aload_n 0, 1) := by decide +kernel
theorem dX8_isAnswer_31 : decode cX8_isAnswer 31 = .ok (.getfield 172, 3) := by decide +kernel
theorem dX8_isAnswer_34 : decode cX8_isAnswer 34 = .ok (.aload_n 0, 1) := by decide +kernel
theorem dX8_isAnswer_35 : decode cX8_isAnswer 35 = .ok (.getfield 51, 3) := by decide +kernel
theorem dX8_isAnswer_38 : decode cX8_isAnswer 38 = .ok (.iload_n 1, 1) := by decide +kernel
theorem dX8_isAnswer_39 : decode cX8_isAnswer 39 = .ok (.iaload, 1) := by decide +kernel
theorem dX8_isAnswer_40 : decode cX8_isAnswer 40 = .ok (.invokestatic 156, 3) := by decide +kernel
theorem dX8_isAnswer_43 : decode cX8_isAnswer 43 = .ok (.ifCond .eq 7, 3) := by decide +kernel
theorem dX8_isAnswer_46 : decode cX8_isAnswer 46 = .ok (.iconst 1, 1) := by decide +kernel
theorem dX8_isAnswer_47 : decode cX8_isAnswer 47 = .ok (.goto 4, 3) := by decide +kernel
theorem dX8_isAnswer_50 : decode cX8_isAnswer 50 = .ok (.iconst 0, 1) := by decide +kernel
theorem dX8_isAnswer_51 : decode cX8_isAnswer 51 = .ok (.ireturn, 1) := by decide +kernel
theorem dX8_isBetter_0 : decode cX8_isBetter 0 = .ok (.aload_n 0, 1) := by decide +kernel
theorem dX8_isBetter_1 : decode cX8_isBetter 1 = .ok (.aload_n 0, 1) := by decide +kernel
theorem dX8_isBetter_2 : decode cX8_isBetter 2 = .ok (.getfield 51, 3) := by decide +kernel
theorem dX8_isBetter_5 : decode cX8_isBetter 5 = .ok (.iload_n 2, 1) := by decide +kernel
theorem dX8_isBetter_6 : decode cX8_isBetter 6 = .ok (.iaload, 1) := by decide +kernel
theorem dX8_isBetter_7 : decode cX8_isBetter 7 = .ok (.invokevirtual 181, 3) := by decide +kernel
theorem dX8_isBetter_10 : decode cX8_isBetter 10 = .ok (.aload_n 0, 1) := by decide +kernel
theorem dX8_isBetter_11 : decode cX8_isBetter 11 = .ok (.aload_n 0, 1) := by decide +kernel
theorem dX8_isBetter_12 : decode cX8_isBetter 12 = .ok (.getfield 51, 3) := by decide +kernel
theorem dX8_isBetter_15 : decode cX8_isBetter 15 = .ok (.iload_n 3, 1) := by decide +kernel
theorem dX8_isBetter_16 : decode cX8_isBetter 16 = .ok (.iaload, 1) := by decide +kernel
theorem dX8_isBetter_17 : decode cX8_isBetter 17 = .ok (.invokevirtual 181, 3) := by decide +kernel
theorem dX8_isBetter_20 : decode cX8_isBetter 20 = .ok (.isub, 1) := by decide +kernel
theorem dX8_isBetter_21 : decode cX8_isBetter 21 = .ok (.istore 4, 2) := by decide +kernel
theorem dX8_isBetter_23 : decode cX8_isBetter 23 = .ok (.iload_n 1, 1) := by decide +kernel
theorem dX8_isBetter_24 : decode cX8_isBetter 24 = .ok (.lookupswitch 148 #[(98, 66), (103, 107), (104, 44), (111, 55)], 44) := by decide +kernel
theorem dX8_isBetter_68 : decode cX8_isBetter 68 = .ok (.iload 4, 2) := by decide +kernel
theorem dX8_isBetter_70 : decode cX8_isBetter 70 = .ok (.ifCond .le 7, 3) := by decide +kernel
theorem dX8_isBetter_73 : decode cX8_isBetter 73 = .ok (.iconst 1, 1) := by decide +kernel
theorem dX8_isBetter_74 : decode cX8_isBetter 74 = .ok (.goto 4, 3) := by decide +kernel
theorem dX8_isBetter_77 : decode cX8_isBetter 77 = .ok (.iconst 0, 1) := by decide +kernel
theorem dX8_isBetter_78 : decode cX8_isBetter 78 = .ok (.ireturn, 1) := by decide +kernel
theorem dX8_isBetter_79 : decode cX8_isBetter 79 = .ok (.iload 4, 2) := by decide +kernel
theorem dX8_isBetter_81 : decode cX8_isBetter 81 = .ok (.ifCond .ge 7, 3) := by decide +kernel
theorem dX8_isBetter_84 : decode cX8_isBetter 84 = .ok (.iconst 1, 1) := by decide +kernel
theorem dX8_isBetter_85 : decode cX8_isBetter 85 = .ok (.goto 4, 3) := by decide +kernel
theorem dX8_isBetter_88 : decode cX8_isBetter 88 = .ok (.iconst 0, 1) := by decide +kernel
theorem dX8_isBetter_89 : decode cX8_isBetter 89 = .ok (.ireturn, 1) := by decide +kernel
theorem dX8_isBetter_90 : decode cX8_isBetter 90 = .ok (.aload_n 0, 1) := by decide +kernel
theorem dX8_isBetter_91 : decode cX8_isBetter 91 = .ok (.getfield 43, 3) := by decide +kernel
theorem dX8_isBetter_94 : decode cX8_isBetter 94 = .ok (.iload_n 2, 1) := by decide +kernel
theorem dX8_isBetter_95 : decode cX8_isBetter 95 = .ok (.iaload, 1) := by decide +kernel
theorem dX8_isBetter_96 : decode cX8_isBetter 96 = .ok (.aload_n 0, 1) := by decide +kernel
theorem dX8_isBetter_97 : decode cX8_isBetter 97 = .ok (.getfield 43, 3) := by decide +kernel
theorem dX8_isBetter_100 : decode cX8_isBetter 100 = .ok (.iload_n 3, 1) := by decide +kernel
theorem dX8_isBetter_101 : decode cX8_isBetter 101 = .ok (.iaload, 1) := by decide +kernel
theorem dX8_isBetter_102 : decode cX8_isBetter 102 = .ok (.if_icmp .lt 23, 3) := by decide +kernel
theorem dX8_isBetter_105 : decode cX8_isBetter 105 = .ok (.aload_n 0, 1) := by decide +kernel
theorem dX8_isBetter_106 : decode cX8_isBetter 106 = .ok (.getfield 43, 3) := by decide +kernel
theorem dX8_isBetter_109 : decode cX8_isBetter 109 = .ok (.iload_n 2, 1) := by decide +kernel
theorem dX8_isBetter_110 : decode cX8_isBetter 110 = .ok (.iaload, 1) := by decide +kernel
theorem dX8_isBetter_111 : decode cX8_isBetter 111 = .ok (.aload_n 0, 1) := by decide +kernel
theorem dX8_isBetter_112 : decode cX8_isBetter 112 = .ok (.getfield 43, 3) := by decide +kernel
theorem dX8_isBetter_115 : decode cX8_isBetter 115 = .ok (.iload_n 3, 1) := by decide +kernel
theorem dX8_isBetter_116 : decode cX8_isBetter 116 = .ok (.iaload, 1) := by decide +kernel
theorem dX8_isBetter_117 : decode cX8_isBetter 117 = .ok (.if_icmp .ne 12, 3) := by decide +kernel
theorem dX8_isBetter_120 : decode cX8_isBetter 120 = .ok (.iload 4, 2) := by decide +kernel
theorem dX8_isBetter_122 : decode cX8_isBetter 122 = .ok (.ifCond .le 7, 3) := by decide +kernel
theorem dX8_isBetter_125 : decode cX8_isBetter 125 = .ok (.iconst 1, 1) := by decide +kernel
theorem dX8_isBetter_126 : decode cX8_isBetter 126 = .ok (.goto 4, 3) := by decide +kernel
theorem dX8_isBetter_129 : decode cX8_isBetter 129 = .ok (.iconst 0, 1) := by decide +kernel
theorem dX8_isBetter_130 : decode cX8_isBetter 130 = .ok (.ireturn, 1) := by decide +kernel
theorem dX8_isBetter_131 : decode cX8_isBetter 131 = .ok (.aload_n 0, 1) := by decide +kernel
theorem dX8_isBetter_132 : decode cX8_isBetter 132 = .ok (.getfield 43, 3) := by decide +kernel
theorem dX8_isBetter_135 : decode cX8_isBetter 135 = .ok (.iload_n 2, 1) := by decide +kernel
theorem dX8_isBetter_136 : decode cX8_isBetter 136 = .ok (.iaload, 1) := by decide +kernel
theorem dX8_isBetter_137 : decode cX8_isBetter 137 = .ok (.aload_n 0, 1) := by decide +kernel
theorem dX8_isBetter_138 : decode cX8_isBetter 138 = .ok (.getfield 43, 3) := by decide +kernel
theorem dX8_isBetter_141 : decode cX8_isBetter 141 = .ok (.iload_n 3, 1) := by decide +kernel
theorem dX8_isBetter_142 : decode cX8_isBetter 142 = .ok (.iaload, 1) := by decide +kernel
theorem dX8_isBetter_143 : decode cX8_isBetter 143 = .ok (.if_icmp .gt 23, 3) := by decide +kernel
theorem dX8_isBetter_146 : decode cX8_isBetter 146 = .ok (.aload_n 0, 1) := by decide +kernel
theorem dX8_isBetter_147 : decode cX8_isBetter 147 = .ok (.getfield 43, 3) := by decide +kernel
theorem dX8_isBetter_150 : decode cX8_isBetter 150 = .ok (.iload_n 2, 1) := by decide +kernel
theorem dX8_isBetter_151 : decode cX8_isBetter 151 = .ok (.iaload, 1) := by decide +kernel
theorem dX8_isBetter_152 : decode cX8_isBetter 152 = .ok (.aload_n 0, 1) := by decide +kernel
theorem dX8_isBetter_153 : decode cX8_isBetter 153 = .ok (.getfield 43, 3) := by decide +kernel
theorem dX8_isBetter_156 : decode cX8_isBetter 156 = .ok (.iload_n 3, 1) := by decide +kernel
theorem dX8_isBetter_157 : decode cX8_isBetter 157 = .ok (.iaload, 1) := by decide +kernel
theorem dX8_isBetter_158 : decode cX8_isBetter 158 = .ok (.if_icmp .ne 12, 3) := by decide +kernel
theorem dX8_isBetter_161 : decode cX8_isBetter 161 = .ok (.iload 4, 2) := by decide +kernel
theorem dX8_isBetter_163 : decode cX8_isBetter 163 = .ok (.ifCond .ge 7, 3) := by decide +kernel
theorem dX8_isBetter_166 : decode cX8_isBetter 166 = .ok (.iconst 1, 1) := by decide +kernel
theorem dX8_isBetter_167 : decode cX8_isBetter 167 = .ok (.goto 4, 3) := by decide +kernel
theorem dX8_isBetter_170 : decode cX8_isBetter 170 = .ok (.iconst 0, 1) := by decide +kernel
theorem dX8_isBetter_171 : decode cX8_isBetter 171 = .ok (.ireturn, 1) := by decide +kernel
theorem dX8_isBetter_172 : decode cX8_isBetter 172 = .ok (.iconst 0, 1) := by decide +kernel
theorem dX8_isBetter_173 : decode cX8_isBetter 173 = .ok (.ireturn, 1) := by decide +kernel
theorem dX8_answerOf_0 : decode cX8_answerOf 0 = .ok (.bipush (-9), 2) := by decide +kernel
theorem dX8_answerOf_2 : decode cX8_answerOf 2 = .ok (.istore_n 3, 1) := by decide +kernel
theorem dX8_answerOf_3 : decode cX8_answerOf 3 = .ok (.iconst 0, 1) := by decide +kernel
theorem dX8_answerOf_4 : decode cX8_answerOf 4 = .ok (.istore 4, 2) := by decide +kernel
theorem dX8_answerOf_6 : decode cX8_answerOf 6 = .ok (.iload 4, 2) := by decide +kernel
theorem dX8_answerOf_8 : decode cX8_answerOf 8 = .ok (.aload_n 0, 1) := by decide +kernel
theorem dX8_answerOf_9 : decode cX8_answerOf 9 = .ok (.getfield 159, 3) := by decide +kernel
theorem dX8_answerOf_12 : decode cX8_answerOf 12 = .ok (.if_icmp .ge 56, 3) := by decide +kernel
theorem dX8_answerOf_15 : decode cX8_answerOf 15 = .ok (.aload_n 0, 1) := by decide +kernel
theorem dX8_answerOf_16 : decode cX8_answerOf 16 = .ok (.getfield 51, 3) := by decide +kernel
theorem dX8_answerOf_19 : decode cX8_answerOf 19 = .ok (.iload 4, 2) := by decide +kernel
theorem dX8_answerOf_21 : decode cX8_answerOf 21 = .ok (.iaload, 1) := by decide +kernel
theorem dX8_answerOf_22 : decode cX8_answerOf 22 = .ok (.iload_n 2, 1) := by decide +kernel
theorem dX8_answerOf_23 : decode cX8_answerOf 23 = .ok (.ishr, 1) := by decide +kernel
theorem dX8_answerOf_24 : decode cX8_answerOf 24 = .ok (.iconst 1, 1) := by decide +kernel
theorem dX8_answerOf_25 : decode cX8_answerOf 25 = .ok (.iand, 1) := by decide +kernel
theorem dX8_answerOf_26 : decode cX8_answerOf 26 = .ok (.ifCond .eq 36, 3) := by decide +kernel
theorem dX8_answerOf_29 : decode cX8_answerOf 29 = .ok (.aload_n 0, 1) := by decide +kernel
theorem dX8_answerOf_30 : decode cX8_answerOf 30 = .ok (.iload 4, 2) := by decide +kernel
theorem dX8_answerOf_32 : decode cX8_answerOf 32 = .ok (.invokevirtual 184, 3) := by decide +kernel
theorem dX8_answerOf_35 : decode cX8_answerOf 35 = .ok (.ifCond .eq 27, 3) := by decide +kernel
theorem dX8_answerOf_38 : decode cX8_answerOf 38 = .ok (.iload_n 3, 1) := by decide +kernel
theorem dX8_answerOf_39 : decode cX8_answerOf 39 = .ok (.bipush (-9), 2) := by decide +kernel
theorem dX8_answerOf_41 : decode cX8_answerOf 41 = .ok (.if_icmp .eq 14, 3) := by decide +kernel
theorem dX8_answerOf_44 : decode cX8_answerOf 44 = .ok (.aload_n 0, 1) := by decide +kernel
theorem dX8_answerOf_45 : decode cX8_answerOf 45 = .ok (.iload_n 1, 1) := by decide +kernel
theorem dX8_answerOf_46 : decode cX8_answerOf 46 = .ok (.iload 4, 2) := by decide +kernel
theorem dX8_answerOf_48 : decode cX8_answerOf 48 = .ok (.iload_n 3, 1) := by decide +kernel
theorem dX8_answerOf_49 : decode cX8_answerOf 49 = .ok (.invokevirtual 187, 3) := by decide +kernel
theorem dX8_answerOf_52 : decode cX8_answerOf 52 = .ok (.ifCond .eq 8, 3) := by decide +kernel
theorem dX8_answerOf_55 : decode cX8_answerOf 55 = .ok (.iload 4, 2) := by decide +kernel
theorem dX8_answerOf_57 : decode cX8_answerOf 57 = .ok (.goto 4, 3) := by decide +kernel
theorem dX8_answerOf_60 : decode cX8_answerOf 60 = .ok (.iload_n 3, 1) := by decide +kernel
theorem dX8_answerOf_61 : decode cX8_answerOf 61 = .ok (.istore_n 3, 1) := by decide +kernel
theorem dX8_answerOf_62 : decode cX8_answerOf 62 = .ok (.iinc 4 1, 3) := by decide +kernel
theorem dX8_answerOf_65 : decode cX8_answerOf 65 = .ok (.goto (-59), 3) := by decide +kernel
theorem dX8_answerOf_68 : decode cX8_answerOf 68 = .ok (.iload_n 3, 1) := by decide +kernel
theorem dX8_answerOf_69 : decode cX8_answerOf 69 = .ok (.ireturn, 1) := by decide +kernel
theorem dX8_answer_0 : decode cX8_answer 0 = .ok (.aload_n 0, 1) := by decide +kernel
theorem dX8_answer_1 : decode cX8_answer 1 = .ok (.iload_n 1, 1) := by decide +kernel
theorem dX8_answer_2 : decode cX8_answer 2 = .ok (.invokevirtual 190, 3) := by decide +kernel
theorem dX8_answer_5 : decode cX8_answer 5 = .ok (.ifCond .ne 9, 3) := by decide +kernel
theorem dX8_answer_8 : decode cX8_answer 8 = .ok (.aload_n 0, 1) := by decide +kernel
theorem dX8_answer_9 : decode cX8_answer 9 = .ok (.iconst (-1), 1) := by decide +kernel
theorem dX8_answer_10 : decode cX8_answer 10 = .ok (.invokevirtual 74, 3) := by decide +kernel
theorem dX8_answer_13 : decode cX8_answer 13 = .ok (.ireturn, 1) := by decide +kernel
theorem dX8_answer_14 : decode cX8_answer 14 = .ok (.iload_n 2, 1) := by decide +kernel
theorem dX8_answer_15 : decode cX8_answer 15 = .ok (.iconst (-1), 1) := by decide +kernel
theorem dX8_answer_16 : decode cX8_answer 16 = .ok (.if_icmp .ge 10, 3) := by decide +kernel
theorem dX8_answer_19 : decode cX8_answer 19 = .ok (.aload_n 0, 1) := by decide +kernel
theorem dX8_answer_20 : decode cX8_answer 20 = .ok (.bipush (-4), 2) := by decide +kernel
theorem dX8_answer_22 : decode cX8_answer 22 = .ok (.invokevirtual 74, 3) := by decide +kernel
theorem dX8_answer_25 : decode cX8_answer 25 = .ok (.ireturn, 1) := by decide +kernel
theorem dX8_answer_26 : decode cX8_answer 26 = .ok (.aload_n 0, 1) := by decide +kernel
theorem dX8_answer_27 : decode cX8_answer 27 = .ok (.invokevirtual 193, 3) := by decide +kernel
theorem dX8_answer_30 : decode cX8_answer 30 = .ok (.aload_n 0, 1) := by decide +kernel
theorem dX8_answer_31 : decode cX8_answer 31 = .ok (.invokevirtual 196, 3) := by decide +kernel
theorem dX8_answer_34 : decode cX8_answer 34 = .ok (.aload_n 0, 1) := by decide +kernel
theorem dX8_answer_35 : decode cX8_answer 35 = .ok (.aload_n 0, 1) := by decide +kernel
theorem dX8_answer_36 : decode cX8_answer 36 = .ok (.getfield 31, 3) := by decide +kernel
theorem dX8_answer_39 : decode cX8_answer 39 = .ok (.iload_n 1, 1) := by decide +kernel
theorem dX8_answer_40 : decode cX8_answer 40 = .ok (.iaload, 1) := by decide +kernel
theorem dX8_answer_41 : decode cX8_answer 41 = .ok (.aload_n 0, 1) := by decide +kernel
theorem dX8_answer_42 : decode cX8_answer 42 = .ok (.getfield 136, 3) := by decide +kernel
theorem dX8_answer_45 : decode cX8_answer 45 = .ok (.invokevirtual 199, 3) := by decide +kernel
theorem dX8_answer_48 : decode cX8_answer 48 = .ok (.istore_n 3, 1) := by decide +kernel
theorem dX8_answer_49 : decode cX8_answer 49 = .ok (.iload_n 3, 1) := by decide +kernel
theorem dX8_answer_50 : decode cX8_answer 50 = .ok (.bipush (-9), 2) := by decide +kernel
theorem dX8_answer_52 : decode cX8_answer 52 = .ok (.if_icmp .eq 13, 3) := by decide +kernel
theorem dX8_answer_55 : decode cX8_answer 55 = .ok (.iload_n 2, 1) := by decide +kernel
theorem dX8_answer_56 : decode cX8_answer 56 = .ok (.aload_n 0, 1) := by decide +kernel
theorem dX8_answer_57 : decode cX8_answer 57 = .ok (.getfield 43, 3) := by decide +kernel
theorem dX8_answer_60 : decode cX8_answer 60 = .ok (.iload_n 3, 1) := by decide +kernel
theorem dX8_answer_61 : decode cX8_answer 61 = .ok (.iaload, 1) := by decide +kernel
theorem dX8_answer_62 : decode cX8_answer 62 = .ok (.if_icmp .lt 6, 3) := by decide +kernel
theorem dX8_answer_65 : decode cX8_answer 65 = .ok (.bipush (-9), 2) := by decide +kernel
theorem dX8_answer_67 : decode cX8_answer 67 = .ok (.ireturn, 1) := by decide +kernel
theorem dX8_answer_68 : decode cX8_answer 68 = .ok (.iload_n 2, 1) := by decide +kernel
theorem dX8_answer_69 : decode cX8_answer 69 = .ok (.iconst (-1), 1) := by decide +kernel
theorem dX8_answer_70 : decode cX8_answer 70 = .ok (.if_icmp .ne 12, 3) := by decide +kernel
theorem dX8_answer_73 : decode cX8_answer 73 = .ok (.aload_n 0, 1) := by decide +kernel
theorem dX8_answer_74 : decode cX8_answer 74 = .ok (.getfield 43, 3) := by decide +kernel
theorem dX8_answer_77 : decode cX8_answer 77 = .ok (.iload_n 3, 1) := by decide +kernel
theorem dX8_answer_78 : decode cX8_answer 78 = .ok (.iaload, 1) := by decide +kernel
theorem dX8_answer_79 : decode cX8_answer 79 = .ok (.goto 11, 3) := by decide +kernel
theorem dX8_answer_82 : decode cX8_answer 82 = .ok (.aload_n 0, 1) := by decide +kernel
theorem dX8_answer_83 : decode cX8_answer 83 = .ok (.getfield 48, 3) := by decide +kernel
theorem dX8_answer_86 : decode cX8_answer 86 = .ok (.iload_n 3, 1) := by decide +kernel
theorem dX8_answer_87 : decode cX8_answer 87 = .ok (.aaload, 1) := by decide +kernel
theorem dX8_answer_88 : decode cX8_answer 88 = .ok (.iload_n 2, 1) := by decide +kernel
theorem dX8_answer_89 : decode cX8_answer 89 = .ok (.iaload, 1) := by decide +kernel
theorem dX8_answer_90 : decode cX8_answer 90 = .ok (.ireturn, 1) := by decide +kernel
theorem dX8_answers_0 : decode cX8_answers 0 = .ok (.iload_n 1, 1) := by decide +kernel
theorem dX8_answers_1 : decode cX8_answers 1 = .ok (.invokestatic 133, 3) := by decide +kernel
theorem dX8_answers_4 : decode cX8_answers 4 = .ok (.ifCond .ne 9, 3) := by decide +kernel
theorem dX8_answers_7 : decode cX8_answers 7 = .ok (.aload_n 0, 1) := by decide +kernel
theorem dX8_answers_8 : decode cX8_answers 8 = .ok (.iconst (-1), 1) := by decide +kernel
theorem dX8_answers_9 : decode cX8_answers 9 = .ok (.invokevirtual 74, 3) := by decide +kernel
theorem dX8_answers_12 : decode cX8_answers 12 = .ok (.ireturn, 1) := by decide +kernel
theorem dX8_answers_13 : decode cX8_answers 13 = .ok (.aload_n 0, 1) := by decide +kernel
theorem dX8_answers_14 : decode cX8_answers 14 = .ok (.invokevirtual 193, 3) := by decide +kernel
theorem dX8_answers_17 : decode cX8_answers 17 = .ok (.aload_n 0, 1) := by decide +kernel
theorem dX8_answers_18 : decode cX8_answers 18 = .ok (.invokevirtual 196, 3) := by decide +kernel
theorem dX8_answers_21 : decode cX8_answers 21 = .ok (.iconst 0, 1) := by decide +kernel
theorem dX8_answers_22 : decode cX8_answers 22 = .ok (.istore_n 2, 1) := by decide +kernel
theorem dX8_answers_23 : decode cX8_answers 23 = .ok (.iconst 0, 1) := by decide +kernel
theorem dX8_answers_24 : decode cX8_answers 24 = .ok (.istore_n 3, 1) := by decide +kernel
theorem dX8_answers_25 : decode cX8_answers 25 = .ok (.iload_n 3, 1) := by decide +kernel
theorem dX8_answers_26 : decode cX8_answers 26 = .ok (.aload_n 0, 1) := by decide +kernel
theorem dX8_answers_27 : decode cX8_answers 27 = .ok (.getfield 159, 3) := by decide +kernel
theorem dX8_answers_30 : decode cX8_answers 30 = .ok (.if_icmp .ge 38, 3) := by decide +kernel
theorem dX8_answers_33 : decode cX8_answers 33 = .ok (.iload_n 2, 1) := by decide +kernel
theorem dX8_answers_34 : decode cX8_answers 34 = .ok (.aload_n 0, 1) := by decide +kernel
theorem dX8_answers_35 : decode cX8_answers 35 = .ok (.getfield 51, 3) := by decide +kernel
theorem dX8_answers_38 : decode cX8_answers 38 = .ok (.iload_n 3, 1) := by decide +kernel
theorem dX8_answers_39 : decode cX8_answers 39 = .ok (.iaload, 1) := by decide +kernel
theorem dX8_answers_40 : decode cX8_answers 40 = .ok (.iload_n 1, 1) := by decide +kernel
theorem dX8_answers_41 : decode cX8_answers 41 = .ok (.ishr, 1) := by decide +kernel
theorem dX8_answers_42 : decode cX8_answers 42 = .ok (.iconst 1, 1) := by decide +kernel
theorem dX8_answers_43 : decode cX8_answers 43 = .ok (.iand, 1) := by decide +kernel
theorem dX8_answers_44 : decode cX8_answers 44 = .ok (.ifCond .eq 15, 3) := by decide +kernel
theorem dX8_answers_47 : decode cX8_answers 47 = .ok (.aload_n 0, 1) := by decide +kernel
theorem dX8_answers_48 : decode cX8_answers 48 = .ok (.iload_n 3, 1) := by decide +kernel
theorem dX8_answers_49 : decode cX8_answers 49 = .ok (.invokevirtual 184, 3) := by decide +kernel
theorem dX8_answers_52 : decode cX8_answers 52 = .ok (.ifCond .eq 7, 3) := by decide +kernel
theorem dX8_answers_55 : decode cX8_answers 55 = .ok (.iconst 1, 1) := by decide +kernel
theorem dX8_answers_56 : decode cX8_answers 56 = .ok (.goto 4, 3) := by decide +kernel
theorem dX8_answers_59 : decode cX8_answers 59 = .ok (.iconst 0, 1) := by decide +kernel
theorem dX8_answers_60 : decode cX8_answers 60 = .ok (.iadd, 1) := by decide +kernel
theorem dX8_answers_61 : decode cX8_answers 61 = .ok (.istore_n 2, 1) := by decide +kernel
theorem dX8_answers_62 : decode cX8_answers 62 = .ok (.iinc 3 1, 3) := by decide +kernel
theorem dX8_answers_65 : decode cX8_answers 65 = .ok (.goto (-40), 3) := by decide +kernel
theorem dX8_answers_68 : decode cX8_answers 68 = .ok (.iload_n 2, 1) := by decide +kernel
theorem dX8_answers_69 : decode cX8_answers 69 = .ok (.ireturn, 1) := by decide +kernel
theorem dX8_goesOn_0 : decode cX8_goesOn 0 = .ok (.iconst 3, 1) := by decide +kernel
theorem dX8_goesOn_1 : decode cX8_goesOn 1 = .ok (.istore_n 1, 1) := by decide +kernel
theorem dX8_goesOn_2 : decode cX8_goesOn 2 = .ok (.iload_n 1, 1) := by decide +kernel
theorem dX8_goesOn_3 : decode cX8_goesOn 3 = .ok (.ifCond .lt 31, 3) := by decide +kernel
theorem dX8_goesOn_6 : decode cX8_goesOn 6 = .ok (.aload_n 0, 1) := by decide +kernel
theorem dX8_goesOn_7 : decode cX8_goesOn 7 = .ok (.getfield 57, 3) := by decide +kernel
theorem dX8_goesOn_10 : decode cX8_goesOn 10 = .ok (.iload_n 1, 1) := by decide +kernel
theorem dX8_goesOn_11 : decode cX8_goesOn 11 = .ok (.iaload, 1) := by decide +kernel
theorem dX8_goesOn_12 : decode cX8_goesOn 12 = .ok (.aload_n 0, 1) := by decide +kernel
theorem dX8_goesOn_13 : decode cX8_goesOn 13 = .ok (.getfield 67, 3) := by decide +kernel
theorem dX8_goesOn_16 : decode cX8_goesOn 16 = .ok (.iconst 1, 1) := by decide +kernel
theorem dX8_goesOn_17 : decode cX8_goesOn 17 = .ok (.isub, 1) := by decide +kernel
theorem dX8_goesOn_18 : decode cX8_goesOn 18 = .ok (.if_icmp .ne 16, 3) := by decide +kernel
theorem dX8_goesOn_21 : decode cX8_goesOn 21 = .ok (.aload_n 0, 1) := by decide +kernel
theorem dX8_goesOn_22 : decode cX8_goesOn 22 = .ok (.getfield 57, 3) := by decide +kernel
theorem dX8_goesOn_25 : decode cX8_goesOn 25 = .ok (.iload_n 1, 1) := by decide +kernel
theorem dX8_goesOn_26 : decode cX8_goesOn 26 = .ok (.iconst 0, 1) := by decide +kernel
theorem dX8_goesOn_27 : decode cX8_goesOn 27 = .ok (.iastore, 1) := by decide +kernel
theorem dX8_goesOn_28 : decode cX8_goesOn 28 = .ok (.iinc 1 (-1), 3) := by decide +kernel
theorem dX8_goesOn_31 : decode cX8_goesOn 31 = .ok (.goto (-29), 3) := by decide +kernel
theorem dX8_goesOn_34 : decode cX8_goesOn 34 = .ok (.iload_n 1, 1) := by decide +kernel
theorem dX8_goesOn_35 : decode cX8_goesOn 35 = .ok (.ifCond .lt 13, 3) := by decide +kernel
theorem dX8_goesOn_38 : decode cX8_goesOn 38 = .ok (.aload_n 0, 1) := by decide +kernel
theorem dX8_goesOn_39 : decode cX8_goesOn 39 = .ok (.getfield 57, 3) := by decide +kernel
theorem dX8_goesOn_42 : decode cX8_goesOn 42 = .ok (.iload_n 1, 1) := by decide +kernel
theorem dX8_goesOn_43 : decode cX8_goesOn 43 = .ok (.dup2, 1) := by decide +kernel
theorem dX8_goesOn_44 : decode cX8_goesOn 44 = .ok (.iaload, 1) := by decide +kernel
theorem dX8_goesOn_45 : decode cX8_goesOn 45 = .ok (.iconst 1, 1) := by decide +kernel
theorem dX8_goesOn_46 : decode cX8_goesOn 46 = .ok (.iadd, 1) := by decide +kernel
theorem dX8_goesOn_47 : decode cX8_goesOn 47 = .ok (.iastore, 1) := by decide +kernel
theorem dX8_goesOn_48 : decode cX8_goesOn 48 = .ok (.iload_n 1, 1) := by decide +kernel
theorem dX8_goesOn_49 : decode cX8_goesOn 49 = .ok (.ifCond .lt 7, 3) := by decide +kernel
theorem dX8_goesOn_52 : decode cX8_goesOn 52 = .ok (.iconst 1, 1) := by decide +kernel
theorem dX8_goesOn_53 : decode cX8_goesOn 53 = .ok (.goto 4, 3) := by decide +kernel
theorem dX8_goesOn_56 : decode cX8_goesOn 56 = .ok (.iconst 0, 1) := by decide +kernel
theorem dX8_goesOn_57 : decode cX8_goesOn 57 = .ok (.ireturn, 1) := by decide +kernel
theorem dX8_bestOf_0 : decode cX8_bestOf 0 = .ok (.aload_n 0, 1) := by decide +kernel
theorem dX8_bestOf_1 : decode cX8_bestOf 1 = .ok (.invokevirtual 193, 3) := by decide +kernel
theorem dX8_bestOf_4 : decode cX8_bestOf 4 = .ok (.bipush (-9), 2) := by decide +kernel
theorem dX8_bestOf_6 : decode cX8_bestOf 6 = .ok (.istore_n 3, 1) := by decide +kernel
theorem dX8_bestOf_7 : decode cX8_bestOf 7 = .ok (.iconst 1, 1) := by decide +kernel
theorem dX8_bestOf_8 : decode cX8_bestOf 8 = .ok (.istore 4, 2) := by decide +kernel
theorem dX8_bestOf_10 : decode cX8_bestOf 10 = .ok (.iload 4, 2) := by decide +kernel
theorem dX8_bestOf_12 : decode cX8_bestOf 12 = .ok (.aload_n 0, 1) := by decide +kernel
theorem dX8_bestOf_13 : decode cX8_bestOf 13 = .ok (.getfield 159, 3) := by decide +kernel
theorem dX8_bestOf_16 : decode cX8_bestOf 16 = .ok (.if_icmp .ge 66, 3) := by decide +kernel
theorem dX8_bestOf_19 : decode cX8_bestOf 19 = .ok (.aload_n 0, 1) := by decide +kernel
theorem dX8_bestOf_20 : decode cX8_bestOf 20 = .ok (.aload_n 0, 1) := by decide +kernel
theorem dX8_bestOf_21 : decode cX8_bestOf 21 = .ok (.getfield 43, 3) := by decide +kernel
theorem dX8_bestOf_24 : decode cX8_bestOf 24 = .ok (.iload 4, 2) := by decide +kernel
theorem dX8_bestOf_26 : decode cX8_bestOf 26 = .ok (.iaload, 1) := by decide +kernel
theorem dX8_bestOf_27 : decode cX8_bestOf 27 = .ok (.aload_n 0, 1) := by decide +kernel
theorem dX8_bestOf_28 : decode cX8_bestOf 28 = .ok (.getfield 54, 3) := by decide +kernel
theorem dX8_bestOf_31 : decode cX8_bestOf 31 = .ok (.iload 4, 2) := by decide +kernel
theorem dX8_bestOf_33 : decode cX8_bestOf 33 = .ok (.iaload, 1) := by decide +kernel
theorem dX8_bestOf_34 : decode cX8_bestOf 34 = .ok (.aload_n 0, 1) := by decide +kernel
theorem dX8_bestOf_35 : decode cX8_bestOf 35 = .ok (.getfield 51, 3) := by decide +kernel
theorem dX8_bestOf_38 : decode cX8_bestOf 38 = .ok (.iload 4, 2) := by decide +kernel
theorem dX8_bestOf_40 : decode cX8_bestOf 40 = .ok (.iaload, 1) := by decide +kernel
theorem dX8_bestOf_41 : decode cX8_bestOf 41 = .ok (.iload_n 2, 1) := by decide +kernel
theorem dX8_bestOf_42 : decode cX8_bestOf 42 = .ok (.invokevirtual 178, 3) := by decide +kernel
theorem dX8_bestOf_45 : decode cX8_bestOf 45 = .ok (.aload_n 0, 1) := by decide +kernel
theorem dX8_bestOf_46 : decode cX8_bestOf 46 = .ok (.iload_n 1, 1) := by decide +kernel
theorem dX8_bestOf_47 : decode cX8_bestOf 47 = .ok (.invokevirtual 206, 3) := by decide +kernel
theorem dX8_bestOf_50 : decode cX8_bestOf 50 = .ok (.istore 5, 2) := by decide +kernel
theorem dX8_bestOf_52 : decode cX8_bestOf 52 = .ok (.iload_n 3, 1) := by decide +kernel
theorem dX8_bestOf_53 : decode cX8_bestOf 53 = .ok (.bipush (-9), 2) := by decide +kernel
theorem dX8_bestOf_55 : decode cX8_bestOf 55 = .ok (.if_icmp .eq 12, 3) := by decide +kernel
theorem dX8_bestOf_58 : decode cX8_bestOf 58 = .ok (.iload 5, 2) := by decide +kernel
theorem dX8_bestOf_60 : decode cX8_bestOf 60 = .ok (.aload_n 0, 1) := by decide +kernel
theorem dX8_bestOf_61 : decode cX8_bestOf 61 = .ok (.getfield 209, 3) := by decide +kernel
theorem dX8_bestOf_64 : decode cX8_bestOf 64 = .ok (.if_icmp .ge 12, 3) := by decide +kernel
theorem dX8_bestOf_67 : decode cX8_bestOf 67 = .ok (.iload 4, 2) := by decide +kernel
theorem dX8_bestOf_69 : decode cX8_bestOf 69 = .ok (.istore_n 3, 1) := by decide +kernel
theorem dX8_bestOf_70 : decode cX8_bestOf 70 = .ok (.aload_n 0, 1) := by decide +kernel
theorem dX8_bestOf_71 : decode cX8_bestOf 71 = .ok (.iload 5, 2) := by decide +kernel
theorem dX8_bestOf_73 : decode cX8_bestOf 73 = .ok (.putfield 209, 3) := by decide +kernel
theorem dX8_bestOf_76 : decode cX8_bestOf 76 = .ok (.iinc 4 1, 3) := by decide +kernel
theorem dX8_bestOf_79 : decode cX8_bestOf 79 = .ok (.goto (-69), 3) := by decide +kernel
theorem dX8_bestOf_82 : decode cX8_bestOf 82 = .ok (.iload_n 3, 1) := by decide +kernel
theorem dX8_bestOf_83 : decode cX8_bestOf 83 = .ok (.ireturn, 1) := by decide +kernel
theorem dX8_best_0 : decode cX8_best 0 = .ok (.aload_n 0, 1) := by decide +kernel
theorem dX8_best_1 : decode cX8_best 1 = .ok (.iload_n 1, 1) := by decide +kernel
theorem dX8_best_2 : decode cX8_best 2 = .ok (.invokevirtual 190, 3) := by decide +kernel
theorem dX8_best_5 : decode cX8_best 5 = .ok (.ifCond .ne 9, 3) := by decide +kernel
theorem dX8_best_8 : decode cX8_best 8 = .ok (.aload_n 0, 1) := by decide +kernel
theorem dX8_best_9 : decode cX8_best 9 = .ok (.iconst (-1), 1) := by decide +kernel
theorem dX8_best_10 : decode cX8_best 10 = .ok (.invokevirtual 74, 3) := by decide +kernel
theorem dX8_best_13 : decode cX8_best 13 = .ok (.ireturn, 1) := by decide +kernel
theorem dX8_best_14 : decode cX8_best 14 = .ok (.iload_n 2, 1) := by decide +kernel
theorem dX8_best_15 : decode cX8_best 15 = .ok (.iconst (-1), 1) := by decide +kernel
theorem dX8_best_16 : decode cX8_best 16 = .ok (.if_icmp .ge 10, 3) := by decide +kernel
theorem dX8_best_19 : decode cX8_best 19 = .ok (.aload_n 0, 1) := by decide +kernel
theorem dX8_best_20 : decode cX8_best 20 = .ok (.bipush (-4), 2) := by decide +kernel
theorem dX8_best_22 : decode cX8_best 22 = .ok (.invokevirtual 74, 3) := by decide +kernel
theorem dX8_best_25 : decode cX8_best 25 = .ok (.ireturn, 1) := by decide +kernel
theorem dX8_best_26 : decode cX8_best 26 = .ok (.aload_n 0, 1) := by decide +kernel
theorem dX8_best_27 : decode cX8_best 27 = .ok (.aload_n 0, 1) := by decide +kernel
theorem dX8_best_28 : decode cX8_best 28 = .ok (.getfield 31, 3) := by decide +kernel
theorem dX8_best_31 : decode cX8_best 31 = .ok (.iload_n 1, 1) := by decide +kernel
theorem dX8_best_32 : decode cX8_best 32 = .ok (.iaload, 1) := by decide +kernel
theorem dX8_best_33 : decode cX8_best 33 = .ok (.aload_n 0, 1) := by decide +kernel
theorem dX8_best_34 : decode cX8_best 34 = .ok (.getfield 111, 3) := by decide +kernel
theorem dX8_best_37 : decode cX8_best 37 = .ok (.invokevirtual 212, 3) := by decide +kernel
theorem dX8_best_40 : decode cX8_best 40 = .ok (.istore_n 3, 1) := by decide +kernel
theorem dX8_best_41 : decode cX8_best 41 = .ok (.iload_n 3, 1) := by decide +kernel
theorem dX8_best_42 : decode cX8_best 42 = .ok (.bipush (-9), 2) := by decide +kernel
theorem dX8_best_44 : decode cX8_best 44 = .ok (.if_icmp .eq 13, 3) := by decide +kernel
theorem dX8_best_47 : decode cX8_best 47 = .ok (.iload_n 2, 1) := by decide +kernel
theorem dX8_best_48 : decode cX8_best 48 = .ok (.aload_n 0, 1) := by decide +kernel
theorem dX8_best_49 : decode cX8_best 49 = .ok (.getfield 43, 3) := by decide +kernel
theorem dX8_best_52 : decode cX8_best 52 = .ok (.iload_n 3, 1) := by decide +kernel
theorem dX8_best_53 : decode cX8_best 53 = .ok (.iaload, 1) := by decide +kernel
theorem dX8_best_54 : decode cX8_best 54 = .ok (.if_icmp .le 6, 3) := by decide +kernel
theorem dX8_best_57 : decode cX8_best 57 = .ok (.bipush (-9), 2) := by decide +kernel
theorem dX8_best_59 : decode cX8_best 59 = .ok (.ireturn, 1) := by decide +kernel
theorem dX8_best_60 : decode cX8_best 60 = .ok (.iload_n 2, 1) := by decide +kernel
theorem dX8_best_61 : decode cX8_best 61 = .ok (.iconst (-1), 1) := by decide +kernel
theorem dX8_best_62 : decode cX8_best 62 = .ok (.if_icmp .ne 10, 3) := by decide +kernel
theorem dX8_best_65 : decode cX8_best 65 = .ok (.aload_n 0, 1) := by decide +kernel
theorem dX8_best_66 : decode cX8_best 66 = .ok (.getfield 209, 3) := by decide +kernel
theorem dX8_best_69 : decode cX8_best 69 = .ok (.goto 26, 3) := by decide +kernel
theorem dX8_best_72 : decode cX8_best 72 = .ok (.iload_n 2, 1) := by decide +kernel
theorem dX8_best_73 : decode cX8_best 73 = .ok (.ifCond .ne 12, 3) := by decide +kernel
theorem dX8_best_76 : decode cX8_best 76 = .ok (.aload_n 0, 1) := by decide +kernel
theorem dX8_best_77 : decode cX8_best 77 = .ok (.getfield 43, 3) := by decide +kernel
theorem dX8_best_80 : decode cX8_best 80 = .ok (.iload_n 3, 1) := by decide +kernel
theorem dX8_best_81 : decode cX8_best 81 = .ok (.iaload, 1) := by decide +kernel
theorem dX8_best_82 : decode cX8_best 82 = .ok (.goto 13, 3) := by decide +kernel
theorem dX8_best_85 : decode cX8_best 85 = .ok (.aload_n 0, 1) := by decide +kernel
theorem dX8_best_86 : decode cX8_best 86 = .ok (.getfield 48, 3) := by decide +kernel
theorem dX8_best_89 : decode cX8_best 89 = .ok (.iload_n 3, 1) := by decide +kernel
theorem dX8_best_90 : decode cX8_best 90 = .ok (.aaload, 1) := by decide +kernel
theorem dX8_best_91 : decode cX8_best 91 = .ok (.iload_n 2, 1) := by decide +kernel
theorem dX8_best_92 : decode cX8_best 92 = .ok (.iconst 1, 1) := by decide +kernel
theorem dX8_best_93 : decode cX8_best 93 = .ok (.isub, 1) := by decide +kernel
theorem dX8_best_94 : decode cX8_best 94 = .ok (.iaload, 1) := by decide +kernel
theorem dX8_best_95 : decode cX8_best 95 = .ok (.ireturn, 1) := by decide +kernel
theorem dX8_forces_0 : decode cX8_forces 0 = .ok (.iconst 0, 1) := by decide +kernel
theorem dX8_forces_1 : decode cX8_forces 1 = .ok (.istore_n 2, 1) := by decide +kernel
theorem dX8_forces_2 : decode cX8_forces 2 = .ok (.iconst 0, 1) := by decide +kernel
theorem dX8_forces_3 : decode cX8_forces 3 = .ok (.istore_n 3, 1) := by decide +kernel
theorem dX8_forces_4 : decode cX8_forces 4 = .ok (.iload_n 3, 1) := by decide +kernel
theorem dX8_forces_5 : decode cX8_forces 5 = .ok (.aload_n 0, 1) := by decide +kernel
theorem dX8_forces_6 : decode cX8_forces 6 = .ok (.getfield 159, 3) := by decide +kernel
theorem dX8_forces_9 : decode cX8_forces 9 = .ok (.if_icmp .ge 102, 3) := by decide +kernel
theorem dX8_forces_12 : decode cX8_forces 12 = .ok (.aload_n 0, 1) := by decide +kernel
theorem dX8_forces_13 : decode cX8_forces 13 = .ok (.iload_n 3, 1) := by decide +kernel
theorem dX8_forces_14 : decode cX8_forces 14 = .ok (.invokevirtual 184, 3) := by decide +kernel
theorem dX8_forces_17 : decode cX8_forces 17 = .ok (.ifCond .eq 88, 3) := by decide +kernel
theorem dX8_forces_20 : decode cX8_forces 20 = .ok (.aload_n 0, 1) := by decide +kernel
theorem dX8_forces_21 : decode cX8_forces 21 = .ok (.getfield 51, 3) := by decide +kernel
theorem dX8_forces_24 : decode cX8_forces 24 = .ok (.iload_n 3, 1) := by decide +kernel
theorem dX8_forces_25 : decode cX8_forces 25 = .ok (.iaload, 1) := by decide +kernel
theorem dX8_forces_26 : decode cX8_forces 26 = .ok (.istore 4, 2) := by decide +kernel
theorem dX8_forces_28 : decode cX8_forces 28 = .ok (.iconst 0, 1) := by decide +kernel
theorem dX8_forces_29 : decode cX8_forces 29 = .ok (.istore 5, 2) := by decide +kernel
theorem dX8_forces_31 : decode cX8_forces 31 = .ok (.iconst 0, 1) := by decide +kernel
theorem dX8_forces_32 : decode cX8_forces 32 = .ok (.istore 6, 2) := by decide +kernel
theorem dX8_forces_34 : decode cX8_forces 34 = .ok (.iload 6, 2) := by decide +kernel
theorem dX8_forces_36 : decode cX8_forces 36 = .ok (.bipush 8, 2) := by decide +kernel
theorem dX8_forces_38 : decode cX8_forces 38 = .ok (.if_icmp .ge 39, 3) := by decide +kernel
theorem dX8_forces_41 : decode cX8_forces 41 = .ok (.iload 5, 2) := by decide +kernel
theorem dX8_forces_43 : decode cX8_forces 43 = .ok (.aload_n 0, 1) := by decide +kernel
theorem dX8_forces_44 : decode cX8_forces 44 = .ok (.getfield 28, 3) := by decide +kernel
theorem dX8_forces_47 : decode cX8_forces 47 = .ok (.iload 6, 2) := by decide +kernel
theorem dX8_forces_49 : decode cX8_forces 49 = .ok (.iaload, 1) := by decide +kernel
theorem dX8_forces_50 : decode cX8_forces 50 = .ok (.ifCond .le 17, 3) := by decide +kernel
theorem dX8_forces_53 : decode cX8_forces 53 = .ok (.iload 4, 2) := by decide +kernel
theorem dX8_forces_55 : decode cX8_forces 55 = .ok (.iload 6, 2) := by decide +kernel
theorem dX8_forces_57 : decode cX8_forces 57 = .ok (.ishr, 1) := by decide +kernel
theorem dX8_forces_58 : decode cX8_forces 58 = .ok (.iconst 1, 1) := by decide +kernel
theorem dX8_forces_59 : decode cX8_forces 59 = .ok (.iand, 1) := by decide +kernel
theorem dX8_forces_60 : decode cX8_forces 60 = .ok (.ifCond .eq 7, 3) := by decide +kernel
theorem dX8_forces_63 : decode cX8_forces 63 = .ok (.iconst 1, 1) := by decide +kernel
theorem dX8_forces_64 : decode cX8_forces 64 = .ok (.goto 4, 3) := by decide +kernel
theorem dX8_forces_67 : decode cX8_forces 67 = .ok (.iconst 0, 1) := by decide +kernel
theorem dX8_forces_68 : decode cX8_forces 68 = .ok (.ior, 1) := by decide +kernel
theorem dX8_forces_69 : decode cX8_forces 69 = .ok (.istore 5, 2) := by decide +kernel
theorem dX8_forces_71 : decode cX8_forces 71 = .ok (.iinc 6 1, 3) := by decide +kernel
theorem dX8_forces_74 : decode cX8_forces 74 = .ok (.goto (-40), 3) := by decide +kernel
theorem dX8_forces_77 : decode cX8_forces 77 = .ok (.iload 5, 2) := by decide +kernel
theorem dX8_forces_79 : decode cX8_forces 79 = .ok (.ifCond .eq 21, 3) := by decide +kernel
theorem dX8_forces_82 : decode cX8_forces 82 = .ok (.iload 4, 2) := by decide +kernel
theorem dX8_forces_84 : decode cX8_forces 84 = .ok (.iload_n 1, 1) := by decide +kernel
theorem dX8_forces_85 : decode cX8_forces 85 = .ok (.iconst (-1), 1) := by decide +kernel
theorem dX8_forces_86 : decode cX8_forces 86 = .ok (.ixor, 1) := by decide +kernel
theorem dX8_forces_87 : decode cX8_forces 87 = .ok (.iand, 1) := by decide +kernel
theorem dX8_forces_88 : decode cX8_forces 88 = .ok (.ifCond .eq 12, 3) := by decide +kernel
theorem dX8_forces_91 : decode cX8_forces 91 = .ok (.iload 4, 2) := by decide +kernel
theorem dX8_forces_93 : decode cX8_forces 93 = .ok (.iload_n 1, 1) := by decide +kernel
theorem dX8_forces_94 : decode cX8_forces 94 = .ok (.iand, 1) := by decide +kernel
theorem dX8_forces_95 : decode cX8_forces 95 = .ok (.ifCond .eq 5, 3) := by decide +kernel
theorem dX8_forces_98 : decode cX8_forces 98 = .ok (.iconst 0, 1) := by decide +kernel
theorem dX8_forces_99 : decode cX8_forces 99 = .ok (.ireturn, 1) := by decide +kernel
theorem dX8_forces_100 : decode cX8_forces 100 = .ok (.iload_n 2, 1) := by decide +kernel
theorem dX8_forces_101 : decode cX8_forces 101 = .ok (.iload 4, 2) := by decide +kernel
theorem dX8_forces_103 : decode cX8_forces 103 = .ok (.ior, 1) := by decide +kernel
theorem dX8_forces_104 : decode cX8_forces 104 = .ok (.istore_n 2, 1) := by decide +kernel
theorem dX8_forces_105 : decode cX8_forces 105 = .ok (.iinc 3 1, 3) := by decide +kernel
theorem dX8_forces_108 : decode cX8_forces 108 = .ok (.goto (-104), 3) := by decide +kernel
theorem dX8_forces_111 : decode cX8_forces 111 = .ok (.iconst 0, 1) := by decide +kernel
theorem dX8_forces_112 : decode cX8_forces 112 = .ok (.istore_n 3, 1) := by decide +kernel
theorem dX8_forces_113 : decode cX8_forces 113 = .ok (.iload_n 3, 1) := by decide +kernel
theorem dX8_forces_114 : decode cX8_forces 114 = .ok (.bipush 8, 2) := by decide +kernel
theorem dX8_forces_116 : decode cX8_forces 116 = .ok (.if_icmp .ge 28, 3) := by decide +kernel
theorem dX8_forces_119 : decode cX8_forces 119 = .ok (.aload_n 0, 1) := by decide +kernel
theorem dX8_forces_120 : decode cX8_forces 120 = .ok (.getfield 28, 3) := by decide +kernel
theorem dX8_forces_123 : decode cX8_forces 123 = .ok (.iload_n 3, 1) := by decide +kernel
theorem dX8_forces_124 : decode cX8_forces 124 = .ok (.iaload, 1) := by decide +kernel
theorem dX8_forces_125 : decode cX8_forces 125 = .ok (.ifCond .le 13, 3) := by decide +kernel
theorem dX8_forces_128 : decode cX8_forces 128 = .ok (.iload_n 2, 1) := by decide +kernel
theorem dX8_forces_129 : decode cX8_forces 129 = .ok (.iload_n 3, 1) := by decide +kernel
theorem dX8_forces_130 : decode cX8_forces 130 = .ok (.ishr, 1) := by decide +kernel
theorem dX8_forces_131 : decode cX8_forces 131 = .ok (.iconst 1, 1) := by decide +kernel
theorem dX8_forces_132 : decode cX8_forces 132 = .ok (.iand, 1) := by decide +kernel
theorem dX8_forces_133 : decode cX8_forces 133 = .ok (.ifCond .ne 5, 3) := by decide +kernel
theorem dX8_forces_136 : decode cX8_forces 136 = .ok (.iconst 0, 1) := by decide +kernel
theorem dX8_forces_137 : decode cX8_forces 137 = .ok (.ireturn, 1) := by decide +kernel
theorem dX8_forces_138 : decode cX8_forces 138 = .ok (.iinc 3 1, 3) := by decide +kernel
theorem dX8_forces_141 : decode cX8_forces 141 = .ok (.goto (-28), 3) := by decide +kernel
theorem dX8_forces_144 : decode cX8_forces 144 = .ok (.iconst 1, 1) := by decide +kernel
theorem dX8_forces_145 : decode cX8_forces 145 = .ok (.ireturn, 1) := by decide +kernel
theorem dX8_force_0 : decode cX8_force 0 = .ok (.iload_n 1, 1) := by decide +kernel
theorem dX8_force_1 : decode cX8_force 1 = .ok (.invokestatic 153, 3) := by decide +kernel
theorem dX8_force_4 : decode cX8_force 4 = .ok (.ifCond .ne 9, 3) := by decide +kernel
theorem dX8_force_7 : decode cX8_force 7 = .ok (.aload_n 0, 1) := by decide +kernel
theorem dX8_force_8 : decode cX8_force 8 = .ok (.iconst (-1), 1) := by decide +kernel
theorem dX8_force_9 : decode cX8_force 9 = .ok (.invokevirtual 74, 3) := by decide +kernel
theorem dX8_force_12 : decode cX8_force 12 = .ok (.ireturn, 1) := by decide +kernel
theorem dX8_force_13 : decode cX8_force 13 = .ok (.iload_n 2, 1) := by decide +kernel
theorem dX8_force_14 : decode cX8_force 14 = .ok (.iconst (-1), 1) := by decide +kernel
theorem dX8_force_15 : decode cX8_force 15 = .ok (.if_icmp .ge 10, 3) := by decide +kernel
theorem dX8_force_18 : decode cX8_force 18 = .ok (.aload_n 0, 1) := by decide +kernel
theorem dX8_force_19 : decode cX8_force 19 = .ok (.bipush (-4), 2) := by decide +kernel
theorem dX8_force_21 : decode cX8_force 21 = .ok (.invokevirtual 74, 3) := by decide +kernel
theorem dX8_force_24 : decode cX8_force 24 = .ok (.ireturn, 1) := by decide +kernel
theorem dX8_force_25 : decode cX8_force 25 = .ok (.aload_n 0, 1) := by decide +kernel
theorem dX8_force_26 : decode cX8_force 26 = .ok (.invokevirtual 193, 3) := by decide +kernel
theorem dX8_force_29 : decode cX8_force 29 = .ok (.iconst 1, 1) := by decide +kernel
theorem dX8_force_30 : decode cX8_force 30 = .ok (.istore_n 3, 1) := by decide +kernel
theorem dX8_force_31 : decode cX8_force 31 = .ok (.iload_n 3, 1) := by decide +kernel
theorem dX8_force_32 : decode cX8_force 32 = .ok (.aload_n 0, 1) := by decide +kernel
theorem dX8_force_33 : decode cX8_force 33 = .ok (.getfield 159, 3) := by decide +kernel
theorem dX8_force_36 : decode cX8_force 36 = .ok (.if_icmp .ge 81, 3) := by decide +kernel
theorem dX8_force_39 : decode cX8_force 39 = .ok (.aload_n 0, 1) := by decide +kernel
theorem dX8_force_40 : decode cX8_force 40 = .ok (.aload_n 0, 1) := by decide +kernel
theorem dX8_force_41 : decode cX8_force 41 = .ok (.getfield 43, 3) := by decide +kernel
theorem dX8_force_44 : decode cX8_force 44 = .ok (.iload_n 3, 1) := by decide +kernel
theorem dX8_force_45 : decode cX8_force 45 = .ok (.iaload, 1) := by decide +kernel
theorem dX8_force_46 : decode cX8_force 46 = .ok (.aload_n 0, 1) := by decide +kernel
theorem dX8_force_47 : decode cX8_force 47 = .ok (.getfield 54, 3) := by decide +kernel
theorem dX8_force_50 : decode cX8_force 50 = .ok (.iload_n 3, 1) := by decide +kernel
theorem dX8_force_51 : decode cX8_force 51 = .ok (.iaload, 1) := by decide +kernel
theorem dX8_force_52 : decode cX8_force 52 = .ok (.aload_n 0, 1) := by decide +kernel
theorem dX8_force_53 : decode cX8_force 53 = .ok (.getfield 51, 3) := by decide +kernel
theorem dX8_force_56 : decode cX8_force 56 = .ok (.iload_n 3, 1) := by decide +kernel
theorem dX8_force_57 : decode cX8_force 57 = .ok (.iaload, 1) := by decide +kernel
theorem dX8_force_58 : decode cX8_force 58 = .ok (.aload_n 0, 1) := by decide +kernel
theorem dX8_force_59 : decode cX8_force 59 = .ok (.getfield 111, 3) := by decide +kernel
theorem dX8_force_62 : decode cX8_force 62 = .ok (.invokevirtual 178, 3) := by decide +kernel
theorem dX8_force_65 : decode cX8_force 65 = .ok (.aload_n 0, 1) := by decide +kernel
theorem dX8_force_66 : decode cX8_force 66 = .ok (.iload_n 1, 1) := by decide +kernel
theorem dX8_force_67 : decode cX8_force 67 = .ok (.invokevirtual 215, 3) := by decide +kernel
theorem dX8_force_70 : decode cX8_force 70 = .ok (.ifCond .eq 41, 3) := by decide +kernel
theorem dX8_force_73 : decode cX8_force 73 = .ok (.iload_n 2, 1) := by decide +kernel
theorem dX8_force_74 : decode cX8_force 74 = .ok (.iconst (-1), 1) := by decide +kernel
theorem dX8_force_75 : decode cX8_force 75 = .ok (.if_icmp .ne 12, 3) := by decide +kernel
theorem dX8_force_78 : decode cX8_force 78 = .ok (.aload_n 0, 1) := by decide +kernel
theorem dX8_force_79 : decode cX8_force 79 = .ok (.getfield 43, 3) := by decide +kernel
theorem dX8_force_82 : decode cX8_force 82 = .ok (.iload_n 3, 1) := by decide +kernel
theorem dX8_force_83 : decode cX8_force 83 = .ok (.iaload, 1) := by decide +kernel
theorem dX8_force_84 : decode cX8_force 84 = .ok (.goto 26, 3) := by decide +kernel
theorem dX8_force_87 : decode cX8_force 87 = .ok (.iload_n 2, 1) := by decide +kernel
theorem dX8_force_88 : decode cX8_force 88 = .ok (.aload_n 0, 1) := by decide +kernel
theorem dX8_force_89 : decode cX8_force 89 = .ok (.getfield 43, 3) := by decide +kernel
theorem dX8_force_92 : decode cX8_force 92 = .ok (.iload_n 3, 1) := by decide +kernel
theorem dX8_force_93 : decode cX8_force 93 = .ok (.iaload, 1) := by decide +kernel
theorem dX8_force_94 : decode cX8_force 94 = .ok (.if_icmp .ge 14, 3) := by decide +kernel
theorem dX8_force_97 : decode cX8_force 97 = .ok (.aload_n 0, 1) := by decide +kernel
theorem dX8_force_98 : decode cX8_force 98 = .ok (.getfield 48, 3) := by decide +kernel
theorem dX8_force_101 : decode cX8_force 101 = .ok (.iload_n 3, 1) := by decide +kernel
theorem dX8_force_102 : decode cX8_force 102 = .ok (.aaload, 1) := by decide +kernel
theorem dX8_force_103 : decode cX8_force 103 = .ok (.iload_n 2, 1) := by decide +kernel
theorem dX8_force_104 : decode cX8_force 104 = .ok (.iaload, 1) := by decide +kernel
theorem dX8_force_105 : decode cX8_force 105 = .ok (.goto 5, 3) := by decide +kernel
theorem dX8_force_108 : decode cX8_force 108 = .ok (.bipush (-9), 2) := by decide +kernel
theorem dX8_force_110 : decode cX8_force 110 = .ok (.ireturn, 1) := by decide +kernel
theorem dX8_force_111 : decode cX8_force 111 = .ok (.iinc 3 1, 3) := by decide +kernel
theorem dX8_force_114 : decode cX8_force 114 = .ok (.goto (-83), 3) := by decide +kernel
theorem dX8_force_117 : decode cX8_force 117 = .ok (.bipush (-9), 2) := by decide +kernel
theorem dX8_force_119 : decode cX8_force 119 = .ok (.ireturn, 1) := by decide +kernel
theorem dX8_isTold_0 : decode cX8_isTold 0 = .ok (.aload_n 0, 1) := by decide +kernel
theorem dX8_isTold_1 : decode cX8_isTold 1 = .ok (.getfield 43, 3) := by decide +kernel
theorem dX8_isTold_4 : decode cX8_isTold 4 = .ok (.iload_n 1, 1) := by decide +kernel
theorem dX8_isTold_5 : decode cX8_isTold 5 = .ok (.iaload, 1) := by decide +kernel
theorem dX8_isTold_6 : decode cX8_isTold 6 = .ok (.aload_n 0, 1) := by decide +kernel
theorem dX8_isTold_7 : decode cX8_isTold 7 = .ok (.getfield 218, 3) := by decide +kernel
theorem dX8_isTold_10 : decode cX8_isTold 10 = .ok (.if_icmp .eq 5, 3) := by decide +kernel
theorem dX8_isTold_13 : decode cX8_isTold 13 = .ok (.iconst 0, 1) := by decide +kernel
theorem dX8_isTold_14 : decode cX8_isTold 14 = .ok (.ireturn, 1) := by decide +kernel
theorem dX8_isTold_15 : decode cX8_isTold 15 = .ok (.iconst 0, 1) := by decide +kernel
theorem dX8_isTold_16 : decode cX8_isTold 16 = .ok (.istore_n 2, 1) := by decide +kernel
theorem dX8_isTold_17 : decode cX8_isTold 17 = .ok (.iload_n 2, 1) := by decide +kernel
theorem dX8_isTold_18 : decode cX8_isTold 18 = .ok (.aload_n 0, 1) := by decide +kernel
theorem dX8_isTold_19 : decode cX8_isTold 19 = .ok (.getfield 218, 3) := by decide +kernel
theorem dX8_isTold_22 : decode cX8_isTold 22 = .ok (.if_icmp .ge 28, 3) := by decide +kernel
theorem dX8_isTold_25 : decode cX8_isTold 25 = .ok (.aload_n 0, 1) := by decide +kernel
theorem dX8_isTold_26 : decode cX8_isTold 26 = .ok (.getfield 48, 3) := by decide +kernel
theorem dX8_isTold_29 : decode cX8_isTold 29 = .ok (.iload_n 1, 1) := by decide +kernel
theorem dX8_isTold_30 : decode cX8_isTold 30 = .ok (.aaload, 1) := by decide +kernel
theorem dX8_isTold_31 : decode cX8_isTold 31 = .ok (.iload_n 2, 1) := by decide +kernel
theorem dX8_isTold_32 : decode cX8_isTold 32 = .ok (.iaload, 1) := by decide +kernel
theorem dX8_isTold_33 : decode cX8_isTold 33 = .ok (.aload_n 0, 1) := by decide +kernel
theorem dX8_isTold_34 : decode cX8_isTold 34 = .ok (.getfield 16, 3) := by decide +kernel
theorem dX8_isTold_37 : decode cX8_isTold 37 = .ok (.iload_n 2, 1) := by decide +kernel
theorem dX8_isTold_38 : decode cX8_isTold 38 = .ok (.iaload, 1) := by decide +kernel
theorem dX8_isTold_39 : decode cX8_isTold 39 = .ok (.if_icmp .eq 5, 3) := by decide +kernel
theorem dX8_isTold_42 : decode cX8_isTold 42 = .ok (.iconst 0, 1) := by decide +kernel
theorem dX8_isTold_43 : decode cX8_isTold 43 = .ok (.ireturn, 1) := by decide +kernel
theorem dX8_isTold_44 : decode cX8_isTold 44 = .ok (.iinc 2 1, 3) := by decide +kernel
theorem dX8_isTold_47 : decode cX8_isTold 47 = .ok (.goto (-30), 3) := by decide +kernel
theorem dX8_isTold_50 : decode cX8_isTold 50 = .ok (.iconst 1, 1) := by decide +kernel
theorem dX8_isTold_51 : decode cX8_isTold 51 = .ok (.ireturn, 1) := by decide +kernel
theorem dX8_common_0 : decode cX8_common 0 = .ok (.iload_n 0, 1) := by decide +kernel
theorem dX8_common_1 : decode cX8_common 1 = .ok (.istore_n 2, 1) := by decide +kernel
theorem dX8_common_2 : decode cX8_common 2 = .ok (.iload_n 1, 1) := by decide +kernel
theorem dX8_common_3 : decode cX8_common 3 = .ok (.istore_n 3, 1) := by decide +kernel
theorem dX8_common_4 : decode cX8_common 4 = .ok (.iload_n 3, 1) := by decide +kernel
theorem dX8_common_5 : decode cX8_common 5 = .ok (.ifCond .eq 16, 3) := by decide +kernel
theorem dX8_common_8 : decode cX8_common 8 = .ok (.iload_n 2, 1) := by decide +kernel
theorem dX8_common_9 : decode cX8_common 9 = .ok (.iload_n 3, 1) := by decide +kernel
theorem dX8_common_10 : decode cX8_common 10 = .ok (.irem, 1) := by decide +kernel
theorem dX8_common_11 : decode cX8_common 11 = .ok (.istore 4, 2) := by decide +kernel
theorem dX8_common_13 : decode cX8_common 13 = .ok (.iload_n 3, 1) := by decide +kernel
theorem dX8_common_14 : decode cX8_common 14 = .ok (.istore_n 2, 1) := by decide +kernel
theorem dX8_common_15 : decode cX8_common 15 = .ok (.iload 4, 2) := by decide +kernel
theorem dX8_common_17 : decode cX8_common 17 = .ok (.istore_n 3, 1) := by decide +kernel
theorem dX8_common_18 : decode cX8_common 18 = .ok (.goto (-14), 3) := by decide +kernel
theorem dX8_common_21 : decode cX8_common 21 = .ok (.iload_n 2, 1) := by decide +kernel
theorem dX8_common_22 : decode cX8_common 22 = .ok (.ireturn, 1) := by decide +kernel
theorem dX8_chance_0 : decode cX8_chance 0 = .ok (.iload_n 1, 1) := by decide +kernel
theorem dX8_chance_1 : decode cX8_chance 1 = .ok (.invokestatic 133, 3) := by decide +kernel
theorem dX8_chance_4 : decode cX8_chance 4 = .ok (.ifCond .ne 9, 3) := by decide +kernel
theorem dX8_chance_7 : decode cX8_chance 7 = .ok (.aload_n 0, 1) := by decide +kernel
theorem dX8_chance_8 : decode cX8_chance 8 = .ok (.iconst (-1), 1) := by decide +kernel
theorem dX8_chance_9 : decode cX8_chance 9 = .ok (.invokevirtual 74, 3) := by decide +kernel
theorem dX8_chance_12 : decode cX8_chance 12 = .ok (.ireturn, 1) := by decide +kernel
theorem dX8_chance_13 : decode cX8_chance 13 = .ok (.iload_n 2, 1) := by decide +kernel
theorem dX8_chance_14 : decode cX8_chance 14 = .ok (.iconst 0, 1) := by decide +kernel
theorem dX8_chance_15 : decode cX8_chance 15 = .ok (.iconst 1, 1) := by decide +kernel
theorem dX8_chance_16 : decode cX8_chance 16 = .ok (.invokestatic 63, 3) := by decide +kernel
theorem dX8_chance_19 : decode cX8_chance 19 = .ok (.ifCond .ne 10, 3) := by decide +kernel
theorem dX8_chance_22 : decode cX8_chance 22 = .ok (.aload_n 0, 1) := by decide +kernel
theorem dX8_chance_23 : decode cX8_chance 23 = .ok (.bipush (-2), 2) := by decide +kernel
theorem dX8_chance_25 : decode cX8_chance 25 = .ok (.invokevirtual 74, 3) := by decide +kernel
theorem dX8_chance_28 : decode cX8_chance 28 = .ok (.ireturn, 1) := by decide +kernel
theorem dX8_chance_29 : decode cX8_chance 29 = .ok (.aload_n 0, 1) := by decide +kernel
theorem dX8_chance_30 : decode cX8_chance 30 = .ok (.getfield 221, 3) := by decide +kernel
theorem dX8_chance_33 : decode cX8_chance 33 = .ok (.iload_n 1, 1) := by decide +kernel
theorem dX8_chance_34 : decode cX8_chance 34 = .ok (.ishr, 1) := by decide +kernel
theorem dX8_chance_35 : decode cX8_chance 35 = .ok (.iconst 1, 1) := by decide +kernel
theorem dX8_chance_36 : decode cX8_chance 36 = .ok (.iand, 1) := by decide +kernel
theorem dX8_chance_37 : decode cX8_chance 37 = .ok (.ifCond .eq 12, 3) := by decide +kernel
theorem dX8_chance_40 : decode cX8_chance 40 = .ok (.aload_n 0, 1) := by decide +kernel
theorem dX8_chance_41 : decode cX8_chance 41 = .ok (.getfield 28, 3) := by decide +kernel
theorem dX8_chance_44 : decode cX8_chance 44 = .ok (.iload_n 1, 1) := by decide +kernel
theorem dX8_chance_45 : decode cX8_chance 45 = .ok (.iaload, 1) := by decide +kernel
theorem dX8_chance_46 : decode cX8_chance 46 = .ok (.goto 4, 3) := by decide +kernel
theorem dX8_chance_49 : decode cX8_chance 49 = .ok (.iconst 0, 1) := by decide +kernel
theorem dX8_chance_50 : decode cX8_chance 50 = .ok (.istore_n 3, 1) := by decide +kernel
theorem dX8_chance_51 : decode cX8_chance 51 = .ok (.aload_n 0, 1) := by decide +kernel
theorem dX8_chance_52 : decode cX8_chance 52 = .ok (.aload_n 0, 1) := by decide +kernel
theorem dX8_chance_53 : decode cX8_chance 53 = .ok (.getfield 221, 3) := by decide +kernel
theorem dX8_chance_56 : decode cX8_chance 56 = .ok (.invokevirtual 181, 3) := by decide +kernel
theorem dX8_chance_59 : decode cX8_chance 59 = .ok (.istore 4, 2) := by decide +kernel
theorem dX8_chance_61 : decode cX8_chance 61 = .ok (.iload_n 3, 1) := by decide +kernel
theorem dX8_chance_62 : decode cX8_chance 62 = .ok (.ifCond .ne 5, 3) := by decide +kernel
theorem dX8_chance_65 : decode cX8_chance 65 = .ok (.iload_n 2, 1) := by decide +kernel
theorem dX8_chance_66 : decode cX8_chance 66 = .ok (.ireturn, 1) := by decide +kernel
theorem dX8_chance_67 : decode cX8_chance 67 = .ok (.iload 4, 2) := by decide +kernel
theorem dX8_chance_69 : decode cX8_chance 69 = .ok (.iload_n 3, 1) := by decide +kernel
theorem dX8_chance_70 : decode cX8_chance 70 = .ok (.invokestatic 227, 3) := by decide +kernel
theorem dX8_chance_73 : decode cX8_chance 73 = .ok (.istore 5, 2) := by decide +kernel
theorem dX8_chance_75 : decode cX8_chance 75 = .ok (.iload_n 2, 1) := by decide +kernel
theorem dX8_chance_76 : decode cX8_chance 76 = .ok (.ifCond .ne 10, 3) := by decide +kernel
theorem dX8_chance_79 : decode cX8_chance 79 = .ok (.iload_n 3, 1) := by decide +kernel
theorem dX8_chance_80 : decode cX8_chance 80 = .ok (.iload 5, 2) := by decide +kernel
theorem dX8_chance_82 : decode cX8_chance 82 = .ok (.idiv, 1) := by decide +kernel
theorem dX8_chance_83 : decode cX8_chance 83 = .ok (.goto 8, 3) := by decide +kernel
theorem dX8_chance_86 : decode cX8_chance 86 = .ok (.iload 4, 2) := by decide +kernel
theorem dX8_chance_88 : decode cX8_chance 88 = .ok (.iload 5, 2) := by decide +kernel
theorem dX8_chance_90 : decode cX8_chance 90 = .ok (.idiv, 1) := by decide +kernel
theorem dX8_chance_91 : decode cX8_chance 91 = .ok (.ireturn, 1) := by decide +kernel
theorem dX8_idle_0 : decode cX8_idle 0 = .ok (.aload_n 0, 1) := by decide +kernel
theorem dX8_idle_1 : decode cX8_idle 1 = .ok (.iload_n 1, 1) := by decide +kernel
theorem dX8_idle_2 : decode cX8_idle 2 = .ok (.invokevirtual 190, 3) := by decide +kernel
theorem dX8_idle_5 : decode cX8_idle 5 = .ok (.ifCond .ne 12, 3) := by decide +kernel
theorem dX8_idle_8 : decode cX8_idle 8 = .ok (.ldc 233, 2) := by decide +kernel
theorem dX8_idle_10 : decode cX8_idle 10 = .ok (.aload_n 0, 1) := by decide +kernel
theorem dX8_idle_11 : decode cX8_idle 11 = .ok (.iconst (-1), 1) := by decide +kernel
theorem dX8_idle_12 : decode cX8_idle 12 = .ok (.invokevirtual 74, 3) := by decide +kernel
theorem dX8_idle_15 : decode cX8_idle 15 = .ok (.isub, 1) := by decide +kernel
theorem dX8_idle_16 : decode cX8_idle 16 = .ok (.ireturn, 1) := by decide +kernel
theorem dX8_idle_17 : decode cX8_idle 17 = .ok (.aload_n 0, 1) := by decide +kernel
theorem dX8_idle_18 : decode cX8_idle 18 = .ok (.getfield 67, 3) := by decide +kernel
theorem dX8_idle_21 : decode cX8_idle 21 = .ok (.bipush 8, 2) := by decide +kernel
theorem dX8_idle_23 : decode cX8_idle 23 = .ok (.if_icmp .eq 10, 3) := by decide +kernel
theorem dX8_idle_26 : decode cX8_idle 26 = .ok (.aload_n 0, 1) := by decide +kernel
theorem dX8_idle_27 : decode cX8_idle 27 = .ok (.getfield 67, 3) := by decide +kernel
theorem dX8_idle_30 : decode cX8_idle 30 = .ok (.ifCond .ne 13, 3) := by decide +kernel
theorem dX8_idle_33 : decode cX8_idle 33 = .ok (.ldc 233, 2) := by decide +kernel
theorem dX8_idle_35 : decode cX8_idle 35 = .ok (.aload_n 0, 1) := by decide +kernel
theorem dX8_idle_36 : decode cX8_idle 36 = .ok (.bipush (-3), 2) := by decide +kernel
theorem dX8_idle_38 : decode cX8_idle 38 = .ok (.invokevirtual 74, 3) := by decide +kernel
theorem dX8_idle_41 : decode cX8_idle 41 = .ok (.isub, 1) := by decide +kernel
theorem dX8_idle_42 : decode cX8_idle 42 = .ok (.ireturn, 1) := by decide +kernel
theorem dX8_idle_43 : decode cX8_idle 43 = .ok (.aload_n 0, 1) := by decide +kernel
theorem dX8_idle_44 : decode cX8_idle 44 = .ok (.aload_n 0, 1) := by decide +kernel
theorem dX8_idle_45 : decode cX8_idle 45 = .ok (.getfield 31, 3) := by decide +kernel
theorem dX8_idle_48 : decode cX8_idle 48 = .ok (.iload_n 1, 1) := by decide +kernel
theorem dX8_idle_49 : decode cX8_idle 49 = .ok (.iaload, 1) := by decide +kernel
theorem dX8_idle_50 : decode cX8_idle 50 = .ok (.aload_n 0, 1) := by decide +kernel
theorem dX8_idle_51 : decode cX8_idle 51 = .ok (.getfield 111, 3) := by decide +kernel
theorem dX8_idle_54 : decode cX8_idle 54 = .ok (.invokevirtual 212, 3) := by decide +kernel
theorem dX8_idle_57 : decode cX8_idle 57 = .ok (.pop, 1) := by decide +kernel
theorem dX8_idle_58 : decode cX8_idle 58 = .ok (.aload_n 0, 1) := by decide +kernel
theorem dX8_idle_59 : decode cX8_idle 59 = .ok (.getfield 209, 3) := by decide +kernel
theorem dX8_idle_62 : decode cX8_idle 62 = .ok (.istore_n 2, 1) := by decide +kernel
theorem dX8_idle_63 : decode cX8_idle 63 = .ok (.aload_n 0, 1) := by decide +kernel
theorem dX8_idle_64 : decode cX8_idle 64 = .ok (.iconst 3, 1) := by decide +kernel
theorem dX8_idle_65 : decode cX8_idle 65 = .ok (.iconst 0, 1) := by decide +kernel
theorem dX8_idle_66 : decode cX8_idle 66 = .ok (.invokevirtual 104, 3) := by decide +kernel
theorem dX8_idle_69 : decode cX8_idle 69 = .ok (.pop, 1) := by decide +kernel
theorem dX8_idle_70 : decode cX8_idle 70 = .ok (.aload_n 0, 1) := by decide +kernel
theorem dX8_idle_71 : decode cX8_idle 71 = .ok (.aload_n 0, 1) := by decide +kernel
theorem dX8_idle_72 : decode cX8_idle 72 = .ok (.getfield 31, 3) := by decide +kernel
theorem dX8_idle_75 : decode cX8_idle 75 = .ok (.iload_n 1, 1) := by decide +kernel
theorem dX8_idle_76 : decode cX8_idle 76 = .ok (.iaload, 1) := by decide +kernel
theorem dX8_idle_77 : decode cX8_idle 77 = .ok (.aload_n 0, 1) := by decide +kernel
theorem dX8_idle_78 : decode cX8_idle 78 = .ok (.getfield 111, 3) := by decide +kernel
theorem dX8_idle_81 : decode cX8_idle 81 = .ok (.invokevirtual 212, 3) := by decide +kernel
theorem dX8_idle_84 : decode cX8_idle 84 = .ok (.pop, 1) := by decide +kernel
theorem dX8_idle_85 : decode cX8_idle 85 = .ok (.aload_n 0, 1) := by decide +kernel
theorem dX8_idle_86 : decode cX8_idle 86 = .ok (.dup, 1) := by decide +kernel
theorem dX8_idle_87 : decode cX8_idle 87 = .ok (.getfield 67, 3) := by decide +kernel
theorem dX8_idle_90 : decode cX8_idle 90 = .ok (.iconst 1, 1) := by decide +kernel
theorem dX8_idle_91 : decode cX8_idle 91 = .ok (.isub, 1) := by decide +kernel
theorem dX8_idle_92 : decode cX8_idle 92 = .ok (.putfield 67, 3) := by decide +kernel
theorem dX8_idle_95 : decode cX8_idle 95 = .ok (.iload_n 2, 1) := by decide +kernel
theorem dX8_idle_96 : decode cX8_idle 96 = .ok (.aload_n 0, 1) := by decide +kernel
theorem dX8_idle_97 : decode cX8_idle 97 = .ok (.getfield 209, 3) := by decide +kernel
theorem dX8_idle_100 : decode cX8_idle 100 = .ok (.isub, 1) := by decide +kernel
theorem dX8_idle_101 : decode cX8_idle 101 = .ok (.ireturn, 1) := by decide +kernel
theorem dX8_draw_0 : decode cX8_draw 0 = .ok (.aload_n 0, 1) := by decide +kernel
theorem dX8_draw_1 : decode cX8_draw 1 = .ok (.aload_n 0, 1) := by decide +kernel
theorem dX8_draw_2 : decode cX8_draw 2 = .ok (.getfield 234, 3) := by decide +kernel
theorem dX8_draw_5 : decode cX8_draw 5 = .ok (.ldc 237, 2) := by decide +kernel
theorem dX8_draw_7 : decode cX8_draw 7 = .ok (.imul, 1) := by decide +kernel
theorem dX8_draw_8 : decode cX8_draw 8 = .ok (.ldc 238, 2) := by decide +kernel
theorem dX8_draw_10 : decode cX8_draw 10 = .ok (.iadd, 1) := by decide +kernel
theorem dX8_draw_11 : decode cX8_draw 11 = .ok (.putfield 234, 3) := by decide +kernel
theorem dX8_draw_14 : decode cX8_draw 14 = .ok (.aload_n 0, 1) := by decide +kernel
theorem dX8_draw_15 : decode cX8_draw 15 = .ok (.getfield 234, 3) := by decide +kernel
theorem dX8_draw_18 : decode cX8_draw 18 = .ok (.ldc 239, 2) := by decide +kernel
theorem dX8_draw_20 : decode cX8_draw 20 = .ok (.iand, 1) := by decide +kernel
theorem dX8_draw_21 : decode cX8_draw 21 = .ok (.sipush 256, 3) := by decide +kernel
theorem dX8_draw_24 : decode cX8_draw 24 = .ok (.idiv, 1) := by decide +kernel
theorem dX8_draw_25 : decode cX8_draw 25 = .ok (.iload_n 1, 1) := by decide +kernel
theorem dX8_draw_26 : decode cX8_draw 26 = .ok (.irem, 1) := by decide +kernel
theorem dX8_draw_27 : decode cX8_draw 27 = .ok (.ireturn, 1) := by decide +kernel
theorem dX8_image_0 : decode cX8_image 0 = .ok (.aload_n 0, 1) := by decide +kernel
theorem dX8_image_1 : decode cX8_image 1 = .ok (.getfield 247, 3) := by decide +kernel
theorem dX8_image_4 : decode cX8_image 4 = .ok (.ifnonnull 14, 3) := by decide +kernel
theorem dX8_image_7 : decode cX8_image 7 = .ok (.aload_n 0, 1) := by decide +kernel
theorem dX8_image_8 : decode cX8_image 8 = .ok (.new 7, 3) := by decide +kernel
theorem dX8_image_11 : decode cX8_image 11 = .ok (.dup, 1) := by decide +kernel
theorem dX8_image_12 : decode cX8_image 12 = .ok (.invokespecial 122, 3) := by decide +kernel
theorem dX8_image_15 : decode cX8_image 15 = .ok (.putfield 247, 3) := by decide +kernel
theorem dX8_image_18 : decode cX8_image 18 = .ok (.aload_n 0, 1) := by decide +kernel
theorem dX8_image_19 : decode cX8_image 19 = .ok (.getfield 247, 3) := by decide +kernel
theorem dX8_image_22 : decode cX8_image 22 = .ok (.aload_n 0, 1) := by decide +kernel
theorem dX8_image_23 : decode cX8_image 23 = .ok (.invokevirtual 123, 3) := by decide +kernel
theorem dX8_image_26 : decode cX8_image 26 = .ok (.aload_n 0, 1) := by decide +kernel
theorem dX8_image_27 : decode cX8_image 27 = .ok (.getfield 67, 3) := by decide +kernel
theorem dX8_image_30 : decode cX8_image 30 = .ok (.ireturn, 1) := by decide +kernel
theorem dX8_count_0 : decode cX8_count 0 = .ok (.iload_n 1, 1) := by decide +kernel
theorem dX8_count_1 : decode cX8_count 1 = .ok (.tableswitch 99 0 8 #[51, 56, 61, 66, 71, 76, 81, 86, 94], 51) := by decide +kernel
theorem dX8_count_52 : decode cX8_count 52 = .ok (.aload_n 0, 1) := by decide +kernel
theorem dX8_count_53 : decode cX8_count 53 = .ok (.getfield 67, 3) := by decide +kernel
theorem dX8_count_56 : decode cX8_count 56 = .ok (.ireturn, 1) := by decide +kernel
theorem dX8_count_57 : decode cX8_count 57 = .ok (.aload_n 0, 1) := by decide +kernel
theorem dX8_count_58 : decode cX8_count 58 = .ok (.getfield 71, 3) := by decide +kernel
theorem dX8_count_61 : decode cX8_count 61 = .ok (.ireturn, 1) := by decide +kernel
theorem dX8_count_62 : decode cX8_count 62 = .ok (.aload_n 0, 1) := by decide +kernel
theorem dX8_count_63 : decode cX8_count 63 = .ok (.getfield 230, 3) := by decide +kernel
theorem dX8_count_66 : decode cX8_count 66 = .ok (.ireturn, 1) := by decide +kernel
theorem dX8_count_67 : decode cX8_count 67 = .ok (.aload_n 0, 1) := by decide +kernel
theorem dX8_count_68 : decode cX8_count 68 = .ok (.getfield 139, 3) := by decide +kernel
theorem dX8_count_71 : decode cX8_count 71 = .ok (.ireturn, 1) := by decide +kernel
theorem dX8_count_72 : decode cX8_count 72 = .ok (.aload_n 0, 1) := by decide +kernel
theorem dX8_count_73 : decode cX8_count 73 = .ok (.getfield 78, 3) := by decide +kernel
theorem dX8_count_76 : decode cX8_count 76 = .ok (.ireturn, 1) := by decide +kernel
theorem dX8_count_77 : decode cX8_count 77 = .ok (.aload_n 0, 1) := by decide +kernel
theorem dX8_count_78 : decode cX8_count 78 = .ok (.getfield 111, 3) := by decide +kernel
theorem dX8_count_81 : decode cX8_count 81 = .ok (.ireturn, 1) := by decide +kernel
theorem dX8_count_82 : decode cX8_count 82 = .ok (.aload_n 0, 1) := by decide +kernel
theorem dX8_count_83 : decode cX8_count 83 = .ok (.getfield 136, 3) := by decide +kernel
theorem dX8_count_86 : decode cX8_count 86 = .ok (.ireturn, 1) := by decide +kernel
theorem dX8_count_87 : decode cX8_count 87 = .ok (.aload_n 0, 1) := by decide +kernel
theorem dX8_count_88 : decode cX8_count 88 = .ok (.sipush 255, 3) := by decide +kernel
theorem dX8_count_91 : decode cX8_count 91 = .ok (.invokevirtual 181, 3) := by decide +kernel
theorem dX8_count_94 : decode cX8_count 94 = .ok (.ireturn, 1) := by decide +kernel
theorem dX8_count_95 : decode cX8_count 95 = .ok (.aload_n 0, 1) := by decide +kernel
theorem dX8_count_96 : decode cX8_count 96 = .ok (.getfield 218, 3) := by decide +kernel
theorem dX8_count_99 : decode cX8_count 99 = .ok (.ireturn, 1) := by decide +kernel
theorem dX8_count_100 : decode cX8_count 100 = .ok (.iload_n 1, 1) := by decide +kernel
theorem dX8_count_101 : decode cX8_count 101 = .ok (.bipush 11, 2) := by decide +kernel
theorem dX8_count_103 : decode cX8_count 103 = .ok (.bipush 16, 2) := by decide +kernel
theorem dX8_count_105 : decode cX8_count 105 = .ok (.invokestatic 63, 3) := by decide +kernel
theorem dX8_count_108 : decode cX8_count 108 = .ok (.ifCond .eq 15, 3) := by decide +kernel
theorem dX8_count_111 : decode cX8_count 111 = .ok (.aload_n 0, 1) := by decide +kernel
theorem dX8_count_112 : decode cX8_count 112 = .ok (.getfield 19, 3) := by decide +kernel
theorem dX8_count_115 : decode cX8_count 115 = .ok (.iload_n 1, 1) := by decide +kernel
theorem dX8_count_116 : decode cX8_count 116 = .ok (.bipush 10, 2) := by decide +kernel
theorem dX8_count_118 : decode cX8_count 118 = .ok (.isub, 1) := by decide +kernel
theorem dX8_count_119 : decode cX8_count 119 = .ok (.iaload, 1) := by decide +kernel
theorem dX8_count_120 : decode cX8_count 120 = .ok (.goto 5, 3) := by decide +kernel
theorem dX8_count_123 : decode cX8_count 123 = .ok (.bipush (-9), 2) := by decide +kernel
theorem dX8_count_125 : decode cX8_count 125 = .ok (.ireturn, 1) := by decide +kernel
