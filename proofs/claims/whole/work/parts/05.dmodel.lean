theorem dX6_init_0 : decode cX6_init 0 = .ok (.aload_n 0, 1) := by decide +kernel
theorem dX6_init_1 : decode cX6_init 1 = .ok (.invokespecial 1, 3) := by decide +kernel
theorem dX6_init_4 : decode cX6_init 4 = .ok (.aload_n 0, 1) := by decide +kernel
theorem dX6_init_5 : decode cX6_init 5 = .ok (.bipush 43, 2) := by decide +kernel
theorem dX6_init_7 : decode cX6_init 7 = .ok (.newarray .int, 2) := by decide +kernel
theorem dX6_init_9 : decode cX6_init 9 = .ok (.putfield 7, 3) := by decide +kernel
theorem dX6_init_12 : decode cX6_init 12 = .ok (.aload_n 0, 1) := by decide +kernel
theorem dX6_init_13 : decode cX6_init 13 = .ok (.bipush 43, 2) := by decide +kernel
theorem dX6_init_15 : decode cX6_init 15 = .ok (.newarray .int, 2) := by decide +kernel
theorem dX6_init_17 : decode cX6_init 17 = .ok (.putfield 13, 3) := by decide +kernel
theorem dX6_init_20 : decode cX6_init 20 = .ok (.aload_n 0, 1) := by decide +kernel
theorem dX6_init_21 : decode cX6_init 21 = .ok (.bipush 43, 2) := by decide +kernel
theorem dX6_init_23 : decode cX6_init 23 = .ok (.newarray .int, 2) := by decide +kernel
theorem dX6_init_25 : decode cX6_init 25 = .ok (.putfield 16, 3) := by decide +kernel
theorem dX6_init_28 : decode cX6_init 28 = .ok (.aload_n 0, 1) := by decide +kernel
theorem dX6_init_29 : decode cX6_init 29 = .ok (.bipush 43, 2) := by decide +kernel
theorem dX6_init_31 : decode cX6_init 31 = .ok (.newarray .int, 2) := by decide +kernel
theorem dX6_init_33 : decode cX6_init 33 = .ok (.putfield 19, 3) := by decide +kernel
theorem dX6_init_36 : decode cX6_init 36 = .ok (.aload_n 0, 1) := by decide +kernel
theorem dX6_init_37 : decode cX6_init 37 = .ok (.sipush 200, 3) := by decide +kernel
theorem dX6_init_40 : decode cX6_init 40 = .ok (.newarray .int, 2) := by decide +kernel
theorem dX6_init_42 : decode cX6_init 42 = .ok (.putfield 22, 3) := by decide +kernel
theorem dX6_init_45 : decode cX6_init 45 = .ok (.aload_n 0, 1) := by decide +kernel
theorem dX6_init_46 : decode cX6_init 46 = .ok (.bipush 8, 2) := by decide +kernel
theorem dX6_init_48 : decode cX6_init 48 = .ok (.newarray .int, 2) := by decide +kernel
theorem dX6_init_50 : decode cX6_init 50 = .ok (.putfield 25, 3) := by decide +kernel
theorem dX6_init_53 : decode cX6_init 53 = .ok (.aload_n 0, 1) := by decide +kernel
theorem dX6_init_54 : decode cX6_init 54 = .ok (.bipush 6, 2) := by decide +kernel
theorem dX6_init_56 : decode cX6_init 56 = .ok (.newarray .int, 2) := by decide +kernel
theorem dX6_init_58 : decode cX6_init 58 = .ok (.putfield 28, 3) := by decide +kernel
theorem dX6_init_61 : decode cX6_init 61 = .ok (.aload_n 0, 1) := by decide +kernel
theorem dX6_init_62 : decode cX6_init 62 = .ok (.bipush 30, 2) := by decide +kernel
theorem dX6_init_64 : decode cX6_init 64 = .ok (.newarray .int, 2) := by decide +kernel
theorem dX6_init_66 : decode cX6_init 66 = .ok (.putfield 31, 3) := by decide +kernel
theorem dX6_init_69 : decode cX6_init 69 = .ok (.aload_n 0, 1) := by decide +kernel
theorem dX6_init_70 : decode cX6_init 70 = .ok (.iconst 4, 1) := by decide +kernel
theorem dX6_init_71 : decode cX6_init 71 = .ok (.newarray .int, 2) := by decide +kernel
theorem dX6_init_73 : decode cX6_init 73 = .ok (.dup, 1) := by decide +kernel
theorem dX6_init_74 : decode cX6_init 74 = .ok (.iconst 0, 1) := by decide +kernel
theorem dX6_init_75 : decode cX6_init 75 = .ok (.iconst (-1), 1) := by decide +kernel
theorem dX6_init_76 : decode cX6_init 76 = .ok (.iastore, 1) := by decide +kernel
theorem dX6_init_77 : decode cX6_init 77 = .ok (.dup, 1) := by decide +kernel
theorem dX6_init_78 : decode cX6_init 78 = .ok (.iconst 1, 1) := by decide +kernel
theorem dX6_init_79 : decode cX6_init 79 = .ok (.iconst (-1), 1) := by decide +kernel
theorem dX6_init_80 : decode cX6_init 80 = .ok (.iastore, 1) := by decide +kernel
theorem dX6_init_81 : decode cX6_init 81 = .ok (.dup, 1) := by decide +kernel
theorem dX6_init_82 : decode cX6_init 82 = .ok (.iconst 2, 1) := by decide +kernel
theorem dX6_init_83 : decode cX6_init 83 = .ok (.iconst (-1), 1) := by decide +kernel
theorem dX6_init_84 : decode cX6_init 84 = .ok (.iastore, 1) := by decide +kernel
theorem dX6_init_85 : decode cX6_init 85 = .ok (.dup, 1) := by decide +kernel
theorem dX6_init_86 : decode cX6_init 86 = .ok (.iconst 3, 1) := by decide +kernel
theorem dX6_init_87 : decode cX6_init 87 = .ok (.iconst (-1), 1) := by decide +kernel
theorem dX6_init_88 : decode cX6_init 88 = .ok (.iastore, 1) := by decide +kernel
theorem dX6_init_89 : decode cX6_init 89 = .ok (.putfield 34, 3) := by decide +kernel
theorem dX6_init_92 : decode cX6_init 92 = .ok (.aload_n 0, 1) := by decide +kernel
theorem dX6_init_93 : decode cX6_init 93 = .ok (.iconst 4, 1) := by decide +kernel
theorem dX6_init_94 : decode cX6_init 94 = .ok (.newarray .int, 2) := by decide +kernel
theorem dX6_init_96 : decode cX6_init 96 = .ok (.putfield 37, 3) := by decide +kernel
theorem dX6_init_99 : decode cX6_init 99 = .ok (.aload_n 0, 1) := by decide +kernel
theorem dX6_init_100 : decode cX6_init 100 = .ok (.sipush 160, 3) := by decide +kernel
theorem dX6_init_103 : decode cX6_init 103 = .ok (.newarray .int, 2) := by decide +kernel
theorem dX6_init_105 : decode cX6_init 105 = .ok (.putfield 40, 3) := by decide +kernel
theorem dX6_init_108 : decode cX6_init 108 = .ok (.aload_n 0, 1) := by decide +kernel
theorem dX6_init_109 : decode cX6_init 109 = .ok (.iconst 4, 1) := by decide +kernel
theorem dX6_init_110 : decode cX6_init 110 = .ok (.newarray .int, 2) := by decide +kernel
theorem dX6_init_112 : decode cX6_init 112 = .ok (.putfield 43, 3) := by decide +kernel
theorem dX6_init_115 : decode cX6_init 115 = .ok (.aload_n 0, 1) := by decide +kernel
theorem dX6_init_116 : decode cX6_init 116 = .ok (.iconst 4, 1) := by decide +kernel
theorem dX6_init_117 : decode cX6_init 117 = .ok (.newarray .int, 2) := by decide +kernel
theorem dX6_init_119 : decode cX6_init 119 = .ok (.putfield 46, 3) := by decide +kernel
theorem dX6_init_122 : decode cX6_init 122 = .ok (.aload_n 0, 1) := by decide +kernel
theorem dX6_init_123 : decode cX6_init 123 = .ok (.iconst 4, 1) := by decide +kernel
theorem dX6_init_124 : decode cX6_init 124 = .ok (.newarray .int, 2) := by decide +kernel
theorem dX6_init_126 : decode cX6_init 126 = .ok (.putfield 49, 3) := by decide +kernel
theorem dX6_init_129 : decode cX6_init 129 = .ok (.aload_n 0, 1) := by decide +kernel
theorem dX6_init_130 : decode cX6_init 130 = .ok (.bipush 30, 2) := by decide +kernel
theorem dX6_init_132 : decode cX6_init 132 = .ok (.newarray .int, 2) := by decide +kernel
theorem dX6_init_134 : decode cX6_init 134 = .ok (.putfield 52, 3) := by decide +kernel
theorem dX6_init_137 : decode cX6_init 137 = .ok (.aload_n 0, 1) := by decide +kernel
theorem dX6_init_138 : decode cX6_init 138 = .ok (.invokevirtual 55, 3) := by decide +kernel
theorem dX6_init_141 : decode cX6_init 141 = .ok (.aload_n 0, 1) := by decide +kernel
theorem dX6_init_142 : decode cX6_init 142 = .ok (.getfield 7, 3) := by decide +kernel
theorem dX6_init_145 : decode cX6_init 145 = .ok (.iconst 2, 1) := by decide +kernel
theorem dX6_init_146 : decode cX6_init 146 = .ok (.iconst 1, 1) := by decide +kernel
theorem dX6_init_147 : decode cX6_init 147 = .ok (.iastore, 1) := by decide +kernel
theorem dX6_init_148 : decode cX6_init 148 = .ok (.return_, 1) := by decide +kernel
theorem dX6_begins_0 : decode cX6_begins 0 = .ok (.aload_n 0, 1) := by decide +kernel
theorem dX6_begins_1 : decode cX6_begins 1 = .ok (.getfield 7, 3) := by decide +kernel
theorem dX6_begins_4 : decode cX6_begins 4 = .ok (.iconst 2, 1) := by decide +kernel
theorem dX6_begins_5 : decode cX6_begins 5 = .ok (.iaload, 1) := by decide +kernel
theorem dX6_begins_6 : decode cX6_begins 6 = .ok (.istore_n 1, 1) := by decide +kernel
theorem dX6_begins_7 : decode cX6_begins 7 = .ok (.iconst 0, 1) := by decide +kernel
theorem dX6_begins_8 : decode cX6_begins 8 = .ok (.istore_n 2, 1) := by decide +kernel
theorem dX6_begins_9 : decode cX6_begins 9 = .ok (.iload_n 2, 1) := by decide +kernel
theorem dX6_begins_10 : decode cX6_begins 10 = .ok (.bipush 43, 2) := by decide +kernel
theorem dX6_begins_12 : decode cX6_begins 12 = .ok (.if_icmp .ge 16, 3) := by decide +kernel
theorem dX6_begins_15 : decode cX6_begins 15 = .ok (.aload_n 0, 1) := by decide +kernel
theorem dX6_begins_16 : decode cX6_begins 16 = .ok (.getfield 7, 3) := by decide +kernel
theorem dX6_begins_19 : decode cX6_begins 19 = .ok (.iload_n 2, 1) := by decide +kernel
theorem dX6_begins_20 : decode cX6_begins 20 = .ok (.iconst 0, 1) := by decide +kernel
theorem dX6_begins_21 : decode cX6_begins 21 = .ok (.iastore, 1) := by decide +kernel
theorem dX6_begins_22 : decode cX6_begins 22 = .ok (.iinc 2 1, 3) := by decide +kernel
theorem dX6_begins_25 : decode cX6_begins 25 = .ok (.goto (-16), 3) := by decide +kernel
theorem dX6_begins_28 : decode cX6_begins 28 = .ok (.aload_n 0, 1) := by decide +kernel
theorem dX6_begins_29 : decode cX6_begins 29 = .ok (.getfield 7, 3) := by decide +kernel
theorem dX6_begins_32 : decode cX6_begins 32 = .ok (.iconst 2, 1) := by decide +kernel
theorem dX6_begins_33 : decode cX6_begins 33 = .ok (.iload_n 1, 1) := by decide +kernel
theorem dX6_begins_34 : decode cX6_begins 34 = .ok (.iastore, 1) := by decide +kernel
theorem dX6_begins_35 : decode cX6_begins 35 = .ok (.aload_n 0, 1) := by decide +kernel
theorem dX6_begins_36 : decode cX6_begins 36 = .ok (.getfield 7, 3) := by decide +kernel
theorem dX6_begins_39 : decode cX6_begins 39 = .ok (.iconst 3, 1) := by decide +kernel
theorem dX6_begins_40 : decode cX6_begins 40 = .ok (.iconst 3, 1) := by decide +kernel
theorem dX6_begins_41 : decode cX6_begins 41 = .ok (.iastore, 1) := by decide +kernel
theorem dX6_begins_42 : decode cX6_begins 42 = .ok (.aload_n 0, 1) := by decide +kernel
theorem dX6_begins_43 : decode cX6_begins 43 = .ok (.getfield 7, 3) := by decide +kernel
theorem dX6_begins_46 : decode cX6_begins 46 = .ok (.iconst 4, 1) := by decide +kernel
theorem dX6_begins_47 : decode cX6_begins 47 = .ok (.iconst 1, 1) := by decide +kernel
theorem dX6_begins_48 : decode cX6_begins 48 = .ok (.iastore, 1) := by decide +kernel
theorem dX6_begins_49 : decode cX6_begins 49 = .ok (.aload_n 0, 1) := by decide +kernel
theorem dX6_begins_50 : decode cX6_begins 50 = .ok (.getfield 7, 3) := by decide +kernel
theorem dX6_begins_53 : decode cX6_begins 53 = .ok (.iconst 5, 1) := by decide +kernel
theorem dX6_begins_54 : decode cX6_begins 54 = .ok (.iconst 5, 1) := by decide +kernel
theorem dX6_begins_55 : decode cX6_begins 55 = .ok (.iastore, 1) := by decide +kernel
theorem dX6_begins_56 : decode cX6_begins 56 = .ok (.aload_n 0, 1) := by decide +kernel
theorem dX6_begins_57 : decode cX6_begins 57 = .ok (.getfield 7, 3) := by decide +kernel
theorem dX6_begins_60 : decode cX6_begins 60 = .ok (.bipush 6, 2) := by decide +kernel
theorem dX6_begins_62 : decode cX6_begins 62 = .ok (.bipush 20, 2) := by decide +kernel
theorem dX6_begins_64 : decode cX6_begins 64 = .ok (.iastore, 1) := by decide +kernel
theorem dX6_begins_65 : decode cX6_begins 65 = .ok (.return_, 1) := by decide +kernel
theorem dX6_isIn_0 : decode cX6_isIn 0 = .ok (.lload_n 0, 1) := by decide +kernel
theorem dX6_isIn_1 : decode cX6_isIn 1 = .ok (.lload_n 2, 1) := by decide +kernel
theorem dX6_isIn_2 : decode cX6_isIn 2 = .ok (.lcmp, 1) := by decide +kernel
theorem dX6_isIn_3 : decode cX6_isIn 3 = .ok (.ifCond .lt 14, 3) := by decide +kernel
theorem dX6_isIn_6 : decode cX6_isIn 6 = .ok (.lload_n 0, 1) := by decide +kernel
theorem dX6_isIn_7 : decode cX6_isIn 7 = .ok (.lload 4, 2) := by decide +kernel
theorem dX6_isIn_9 : decode cX6_isIn 9 = .ok (.lcmp, 1) := by decide +kernel
theorem dX6_isIn_10 : decode cX6_isIn 10 = .ok (.ifCond .gt 7, 3) := by decide +kernel
theorem dX6_isIn_13 : decode cX6_isIn 13 = .ok (.iconst 1, 1) := by decide +kernel
theorem dX6_isIn_14 : decode cX6_isIn 14 = .ok (.goto 4, 3) := by decide +kernel
theorem dX6_isIn_17 : decode cX6_isIn 17 = .ok (.iconst 0, 1) := by decide +kernel
theorem dX6_isIn_18 : decode cX6_isIn 18 = .ok (.ireturn, 1) := by decide +kernel
theorem dX6_isPerson_0 : decode cX6_isPerson 0 = .ok (.iload_n 0, 1) := by decide +kernel
theorem dX6_isPerson_1 : decode cX6_isPerson 1 = .ok (.ifCond .lt 13, 3) := by decide +kernel
theorem dX6_isPerson_4 : decode cX6_isPerson 4 = .ok (.iload_n 0, 1) := by decide +kernel
theorem dX6_isPerson_5 : decode cX6_isPerson 5 = .ok (.bipush 8, 2) := by decide +kernel
theorem dX6_isPerson_7 : decode cX6_isPerson 7 = .ok (.if_icmp .ge 7, 3) := by decide +kernel
theorem dX6_isPerson_10 : decode cX6_isPerson 10 = .ok (.iconst 1, 1) := by decide +kernel
theorem dX6_isPerson_11 : decode cX6_isPerson 11 = .ok (.goto 4, 3) := by decide +kernel
theorem dX6_isPerson_14 : decode cX6_isPerson 14 = .ok (.iconst 0, 1) := by decide +kernel
theorem dX6_isPerson_15 : decode cX6_isPerson 15 = .ok (.ireturn, 1) := by decide +kernel
theorem dX6_isRest_0 : decode cX6_isRest 0 = .ok (.iload_n 0, 1) := by decide +kernel
theorem dX6_isRest_1 : decode cX6_isRest 1 = .ok (.ifCond .lt 13, 3) := by decide +kernel
theorem dX6_isRest_4 : decode cX6_isRest 4 = .ok (.iload_n 0, 1) := by decide +kernel
theorem dX6_isRest_5 : decode cX6_isRest 5 = .ok (.bipush 6, 2) := by decide +kernel
theorem dX6_isRest_7 : decode cX6_isRest 7 = .ok (.if_icmp .ge 7, 3) := by decide +kernel
theorem dX6_isRest_10 : decode cX6_isRest 10 = .ok (.iconst 1, 1) := by decide +kernel
theorem dX6_isRest_11 : decode cX6_isRest 11 = .ok (.goto 4, 3) := by decide +kernel
theorem dX6_isRest_14 : decode cX6_isRest 14 = .ok (.iconst 0, 1) := by decide +kernel
theorem dX6_isRest_15 : decode cX6_isRest 15 = .ok (.ireturn, 1) := by decide +kernel
theorem dX6_isOne_0 : decode cX6_isOne 0 = .ok (.iload_n 1, 1) := by decide +kernel
theorem dX6_isOne_1 : decode cX6_isOne 1 = .ok (.ifCond .lt 17, 3) := by decide +kernel
theorem dX6_isOne_4 : decode cX6_isOne 4 = .ok (.iload_n 1, 1) := by decide +kernel
theorem dX6_isOne_5 : decode cX6_isOne 5 = .ok (.aload_n 0, 1) := by decide +kernel
theorem dX6_isOne_6 : decode cX6_isOne 6 = .ok (.getfield 7, 3) := by decide +kernel
theorem dX6_isOne_9 : decode cX6_isOne 9 = .ok (.iconst 0, 1) := by decide +kernel
theorem dX6_isOne_10 : decode cX6_isOne 10 = .ok (.iaload, 1) := by decide +kernel
theorem dX6_isOne_11 : decode cX6_isOne 11 = .ok (.if_icmp .ge 7, 3) := by decide +kernel
theorem dX6_isOne_14 : decode cX6_isOne 14 = .ok (.iconst 1, 1) := by decide +kernel
theorem dX6_isOne_15 : decode cX6_isOne 15 = .ok (.goto 4, 3) := by decide +kernel
theorem dX6_isOne_18 : decode cX6_isOne 18 = .ok (.iconst 0, 1) := by decide +kernel
theorem dX6_isOne_19 : decode cX6_isOne 19 = .ok (.ireturn, 1) := by decide +kernel
theorem dX6_its_0 : decode cX6_its 0 = .ok (.aload_n 0, 1) := by decide +kernel
theorem dX6_its_1 : decode cX6_its 1 = .ok (.getfield 7, 3) := by decide +kernel
theorem dX6_its_4 : decode cX6_its 4 = .ok (.bipush 19, 2) := by decide +kernel
theorem dX6_its_6 : decode cX6_its 6 = .ok (.iconst 3, 1) := by decide +kernel
theorem dX6_its_7 : decode cX6_its 7 = .ok (.iload_n 1, 1) := by decide +kernel
theorem dX6_its_8 : decode cX6_its 8 = .ok (.imul, 1) := by decide +kernel
theorem dX6_its_9 : decode cX6_its 9 = .ok (.iadd, 1) := by decide +kernel
theorem dX6_its_10 : decode cX6_its 10 = .ok (.iload_n 2, 1) := by decide +kernel
theorem dX6_its_11 : decode cX6_its 11 = .ok (.iadd, 1) := by decide +kernel
theorem dX6_its_12 : decode cX6_its 12 = .ok (.iaload, 1) := by decide +kernel
theorem dX6_its_13 : decode cX6_its 13 = .ok (.ireturn, 1) := by decide +kernel
theorem dX6_becomes_0 : decode cX6_becomes 0 = .ok (.aload_n 0, 1) := by decide +kernel
theorem dX6_becomes_1 : decode cX6_becomes 1 = .ok (.getfield 7, 3) := by decide +kernel
theorem dX6_becomes_4 : decode cX6_becomes 4 = .ok (.iload_n 1, 1) := by decide +kernel
theorem dX6_becomes_5 : decode cX6_becomes 5 = .ok (.iaload, 1) := by decide +kernel
theorem dX6_becomes_6 : decode cX6_becomes 6 = .ok (.istore_n 3, 1) := by decide +kernel
theorem dX6_becomes_7 : decode cX6_becomes 7 = .ok (.aload_n 0, 1) := by decide +kernel
theorem dX6_becomes_8 : decode cX6_becomes 8 = .ok (.getfield 7, 3) := by decide +kernel
theorem dX6_becomes_11 : decode cX6_becomes 11 = .ok (.iload_n 1, 1) := by decide +kernel
theorem dX6_becomes_12 : decode cX6_becomes 12 = .ok (.iload_n 2, 1) := by decide +kernel
theorem dX6_becomes_13 : decode cX6_becomes 13 = .ok (.iastore, 1) := by decide +kernel
theorem dX6_becomes_14 : decode cX6_becomes 14 = .ok (.iload_n 3, 1) := by decide +kernel
theorem dX6_becomes_15 : decode cX6_becomes 15 = .ok (.ireturn, 1) := by decide +kernel
theorem dX6_copyRow_0 : decode cX6_copyRow 0 = .ok (.iconst 0, 1) := by decide +kernel
theorem dX6_copyRow_1 : decode cX6_copyRow 1 = .ok (.istore_n 2, 1) := by decide +kernel
theorem dX6_copyRow_2 : decode cX6_copyRow 2 = .ok (.iload_n 2, 1) := by decide +kernel
theorem dX6_copyRow_3 : decode cX6_copyRow 3 = .ok (.bipush 43, 2) := by decide +kernel
theorem dX6_copyRow_5 : decode cX6_copyRow 5 = .ok (.if_icmp .ge 15, 3) := by decide +kernel
theorem dX6_copyRow_8 : decode cX6_copyRow 8 = .ok (.aload_n 1, 1) := by decide +kernel
theorem dX6_copyRow_9 : decode cX6_copyRow 9 = .ok (.iload_n 2, 1) := by decide +kernel
theorem dX6_copyRow_10 : decode cX6_copyRow 10 = .ok (.aload_n 0, 1) := by decide +kernel
theorem dX6_copyRow_11 : decode cX6_copyRow 11 = .ok (.iload_n 2, 1) := by decide +kernel
theorem dX6_copyRow_12 : decode cX6_copyRow 12 = .ok (.iaload, 1) := by decide +kernel
theorem dX6_copyRow_13 : decode cX6_copyRow 13 = .ok (.iastore, 1) := by decide +kernel
theorem dX6_copyRow_14 : decode cX6_copyRow 14 = .ok (.iinc 2 1, 3) := by decide +kernel
theorem dX6_copyRow_17 : decode cX6_copyRow 17 = .ok (.goto (-15), 3) := by decide +kernel
theorem dX6_copyRow_20 : decode cX6_copyRow 20 = .ok (.return_, 1) := by decide +kernel
theorem dX6_greatest_0 : decode cX6_greatest 0 = .ok (.iload_n 0, 1) := by decide +kernel
theorem dX6_greatest_1 : decode cX6_greatest 1 = .ok (.iload_n 1, 1) := by decide +kernel
theorem dX6_greatest_2 : decode cX6_greatest 2 = .ok (.if_icmp .le 7, 3) := by decide +kernel
theorem dX6_greatest_5 : decode cX6_greatest 5 = .ok (.iload_n 0, 1) := by decide +kernel
theorem dX6_greatest_6 : decode cX6_greatest 6 = .ok (.goto 4, 3) := by decide +kernel
theorem dX6_greatest_9 : decode cX6_greatest 9 = .ok (.iload_n 1, 1) := by decide +kernel
theorem dX6_greatest_10 : decode cX6_greatest 10 = .ok (.ireturn, 1) := by decide +kernel
theorem dX6_least_0 : decode cX6_least 0 = .ok (.iload_n 0, 1) := by decide +kernel
theorem dX6_least_1 : decode cX6_least 1 = .ok (.iload_n 1, 1) := by decide +kernel
theorem dX6_least_2 : decode cX6_least 2 = .ok (.if_icmp .ge 7, 3) := by decide +kernel
theorem dX6_least_5 : decode cX6_least 5 = .ok (.iload_n 0, 1) := by decide +kernel
theorem dX6_least_6 : decode cX6_least 6 = .ok (.goto 4, 3) := by decide +kernel
theorem dX6_least_9 : decode cX6_least 9 = .ok (.iload_n 1, 1) := by decide +kernel
theorem dX6_least_10 : decode cX6_least 10 = .ok (.ireturn, 1) := by decide +kernel
theorem dX6_within_0 : decode cX6_within 0 = .ok (.iload_n 0, 1) := by decide +kernel
theorem dX6_within_1 : decode cX6_within 1 = .ok (.ifCond .ge 7, 3) := by decide +kernel
theorem dX6_within_4 : decode cX6_within 4 = .ok (.iconst 0, 1) := by decide +kernel
theorem dX6_within_5 : decode cX6_within 5 = .ok (.goto 15, 3) := by decide +kernel
theorem dX6_within_8 : decode cX6_within 8 = .ok (.iload_n 0, 1) := by decide +kernel
theorem dX6_within_9 : decode cX6_within 9 = .ok (.bipush 99, 2) := by decide +kernel
theorem dX6_within_11 : decode cX6_within 11 = .ok (.if_icmp .le 8, 3) := by decide +kernel
theorem dX6_within_14 : decode cX6_within 14 = .ok (.bipush 99, 2) := by decide +kernel
theorem dX6_within_16 : decode cX6_within 16 = .ok (.goto 4, 3) := by decide +kernel
theorem dX6_within_19 : decode cX6_within 19 = .ok (.iload_n 0, 1) := by decide +kernel
theorem dX6_within_20 : decode cX6_within 20 = .ok (.ireturn, 1) := by decide +kernel
theorem dX6_size_0 : decode cX6_size 0 = .ok (.iconst 0, 1) := by decide +kernel
theorem dX6_size_1 : decode cX6_size 1 = .ok (.istore_n 1, 1) := by decide +kernel
theorem dX6_size_2 : decode cX6_size 2 = .ok (.iload_n 0, 1) := by decide +kernel
theorem dX6_size_3 : decode cX6_size 3 = .ok (.istore_n 2, 1) := by decide +kernel
theorem dX6_size_4 : decode cX6_size 4 = .ok (.iload_n 2, 1) := by decide +kernel
theorem dX6_size_5 : decode cX6_size 5 = .ok (.ifCond .eq 15, 3) := by decide +kernel
theorem dX6_size_8 : decode cX6_size 8 = .ok (.iinc 1 1, 3) := by decide +kernel
theorem dX6_size_11 : decode cX6_size 11 = .ok (.iload_n 2, 1) := by decide +kernel
theorem dX6_size_12 : decode cX6_size 12 = .ok (.iload_n 2, 1) := by decide +kernel
theorem dX6_size_13 : decode cX6_size 13 = .ok (.iconst 1, 1) := by decide +kernel
theorem dX6_size_14 : decode cX6_size 14 = .ok (.isub, 1) := by decide +kernel
theorem dX6_size_15 : decode cX6_size 15 = .ok (.iand, 1) := by decide +kernel
theorem dX6_size_16 : decode cX6_size 16 = .ok (.istore_n 2, 1) := by decide +kernel
theorem dX6_size_17 : decode cX6_size 17 = .ok (.goto (-13), 3) := by decide +kernel
theorem dX6_size_20 : decode cX6_size 20 = .ok (.iload_n 1, 1) := by decide +kernel
theorem dX6_size_21 : decode cX6_size 21 = .ok (.ireturn, 1) := by decide +kernel
theorem dX6_isUnder_0 : decode cX6_isUnder 0 = .ok (.iload_n 1, 1) := by decide +kernel
theorem dX6_isUnder_1 : decode cX6_isUnder 1 = .ok (.ifCond .eq 28, 3) := by decide +kernel
theorem dX6_isUnder_4 : decode cX6_isUnder 4 = .ok (.iload_n 0, 1) := by decide +kernel
theorem dX6_isUnder_5 : decode cX6_isUnder 5 = .ok (.iload_n 1, 1) := by decide +kernel
theorem dX6_isUnder_6 : decode cX6_isUnder 6 = .ok (.if_icmp .eq 23, 3) := by decide +kernel
theorem dX6_isUnder_9 : decode cX6_isUnder 9 = .ok (.iload_n 1, 1) := by decide +kernel
theorem dX6_isUnder_10 : decode cX6_isUnder 10 = .ok (.iconst 1, 1) := by decide +kernel
theorem dX6_isUnder_11 : decode cX6_isUnder 11 = .ok (.if_icmp .ne 8, 3) := by decide +kernel
theorem dX6_isUnder_14 : decode cX6_isUnder 14 = .ok (.iload_n 0, 1) := by decide +kernel
theorem dX6_isUnder_15 : decode cX6_isUnder 15 = .ok (.iconst 3, 1) := by decide +kernel
theorem dX6_isUnder_16 : decode cX6_isUnder 16 = .ok (.if_icmp .eq 13, 3) := by decide +kernel
theorem dX6_isUnder_19 : decode cX6_isUnder 19 = .ok (.iload_n 1, 1) := by decide +kernel
theorem dX6_isUnder_20 : decode cX6_isUnder 20 = .ok (.iconst 2, 1) := by decide +kernel
theorem dX6_isUnder_21 : decode cX6_isUnder 21 = .ok (.if_icmp .ne 12, 3) := by decide +kernel
theorem dX6_isUnder_24 : decode cX6_isUnder 24 = .ok (.iload_n 0, 1) := by decide +kernel
theorem dX6_isUnder_25 : decode cX6_isUnder 25 = .ok (.iconst 4, 1) := by decide +kernel
theorem dX6_isUnder_26 : decode cX6_isUnder 26 = .ok (.if_icmp .ne 7, 3) := by decide +kernel
theorem dX6_isUnder_29 : decode cX6_isUnder 29 = .ok (.iconst 1, 1) := by decide +kernel
theorem dX6_isUnder_30 : decode cX6_isUnder 30 = .ok (.goto 4, 3) := by decide +kernel
theorem dX6_isUnder_33 : decode cX6_isUnder 33 = .ok (.iconst 0, 1) := by decide +kernel
theorem dX6_isUnder_34 : decode cX6_isUnder 34 = .ok (.ireturn, 1) := by decide +kernel
set_option maxRecDepth 20000 in
theorem ggX6_feed_X6_isIn : GoodIn wsX6_feed wsX6_isIn := goodIn_r _ [8] (by decide +kernel) (by decide +kernel)
set_option maxRecDepth 20000 in
theorem gX6_feed_X6_isIn : GoodIn wsX6_feed (va_wsS RX6 60 yX6_isIn wsX6_isIn) := goodIn_app (goodIn_of _ (by decide +kernel)) ggX6_feed_X6_isIn
theorem dX6_feed_0 : decode cX6_feed 0 = .ok (.iload_n 3, 1) := by decide +kernel
theorem dX6_feed_1 : decode cX6_feed 1 = .ok (.i2l, 1) := by decide +kernel
theorem dX6_feed_2 : decode cX6_feed 2 = .ok (.lconst 1, 1) := by decide +kernel
theorem dX6_feed_3 : decode cX6_feed 3 = .ok (.ldc2_w 58, 3) := by decide +kernel
theorem dX6_feed_6 : decode cX6_feed 6 = .ok (.invokestatic 60, 3) := by decide +kernel
theorem dX6_feed_9 : decode cX6_feed 9 = .ok (.ifCond .ne 5, 3) := by decide +kernel
theorem dX6_feed_12 : decode cX6_feed 12 = .ok (.iconst (-1), 1) := by decide +kernel
theorem dX6_feed_13 : decode cX6_feed 13 = .ok (.ireturn, 1) := by decide +kernel
theorem dX6_feed_14 : decode cX6_feed 14 = .ok (.aload_n 0, 1) := by decide +kernel
theorem dX6_feed_15 : decode cX6_feed 15 = .ok (.getfield 64, 3) := by decide +kernel
theorem dX6_feed_18 : decode cX6_feed 18 = .ok (.iload_n 3, 1) := by decide +kernel
theorem dX6_feed_19 : decode cX6_feed 19 = .ok (.iadd, 1) := by decide +kernel
theorem dX6_feed_20 : decode cX6_feed 20 = .ok (.sipush 200, 3) := by decide +kernel
theorem dX6_feed_23 : decode cX6_feed 23 = .ok (.if_icmp .le 6, 3) := by decide +kernel
theorem dX6_feed_26 : decode cX6_feed 26 = .ok (.bipush (-2), 2) := by decide +kernel
theorem dX6_feed_28 : decode cX6_feed 28 = .ok (.ireturn, 1) := by decide +kernel
theorem dX6_feed_29 : decode cX6_feed 29 = .ok (.iconst 0, 1) := by decide +kernel
theorem dX6_feed_30 : decode cX6_feed 30 = .ok (.istore 4, 2) := by decide +kernel
theorem dX6_feed_32 : decode cX6_feed 32 = .ok (.iload 4, 2) := by decide +kernel
theorem dX6_feed_34 : decode cX6_feed 34 = .ok (.iload_n 3, 1) := by decide +kernel
theorem dX6_feed_35 : decode cX6_feed 35 = .ok (.if_icmp .ge 40, 3) := by decide +kernel
theorem dX6_feed_38 : decode cX6_feed 38 = .ok (.aload_n 0, 1) := by decide +kernel
theorem dX6_feed_39 : decode cX6_feed 39 = .ok (.getfield 22, 3) := by decide +kernel
theorem dX6_feed_42 : decode cX6_feed 42 = .ok (.aload_n 0, 1) := by decide +kernel
theorem dX6_feed_43 : decode cX6_feed 43 = .ok (.getfield 64, 3) := by decide +kernel
theorem dX6_feed_46 : decode cX6_feed 46 = .ok (.lload_n 1, 1) := by decide +kernel
theorem dX6_feed_47 : decode cX6_feed 47 = .ok (.bipush 8, 2) := by decide +kernel
theorem dX6_feed_49 : decode cX6_feed 49 = .ok (.iload 4, 2) := by decide +kernel
theorem dX6_feed_51 : decode cX6_feed 51 = .ok (.imul, 1) := by decide +kernel
theorem dX6_feed_52 : decode cX6_feed 52 = .ok (.lshr, 1) := by decide +kernel
theorem dX6_feed_53 : decode cX6_feed 53 = .ok (.ldc2_w 68, 3) := by decide +kernel
theorem dX6_feed_56 : decode cX6_feed 56 = .ok (.land, 1) := by decide +kernel
theorem dX6_feed_57 : decode cX6_feed 57 = .ok (.l2i, 1) := by decide +kernel
theorem dX6_feed_58 : decode cX6_feed 58 = .ok (.iastore, 1) := by decide +kernel
theorem dX6_feed_59 : decode cX6_feed 59 = .ok (.aload_n 0, 1) := by decide +kernel
theorem dX6_feed_60 : decode cX6_feed 60 = .ok (.dup, 1) := by decide +kernel
theorem dX6_feed_61 : decode cX6_feed 61 = .ok (.getfield 64, 3) := by decide +kernel
theorem dX6_feed_64 : decode cX6_feed 64 = .ok (.iconst 1, 1) := by decide +kernel
theorem dX6_feed_65 : decode cX6_feed 65 = .ok (.iadd, 1) := by decide +kernel
theorem dX6_feed_66 : decode cX6_feed 66 = .ok (.putfield 64, 3) := by decide +kernel
theorem dX6_feed_69 : decode cX6_feed 69 = .ok (.iinc 4 1, 3) := by decide +kernel
theorem dX6_feed_72 : decode cX6_feed 72 = .ok (.goto (-40), 3) := by decide +kernel
theorem dX6_feed_75 : decode cX6_feed 75 = .ok (.aload_n 0, 1) := by decide +kernel
theorem dX6_feed_76 : decode cX6_feed 76 = .ok (.getfield 64, 3) := by decide +kernel
theorem dX6_feed_79 : decode cX6_feed 79 = .ok (.ireturn, 1) := by decide +kernel
theorem dX6_isAlpha_0 : decode cX6_isAlpha 0 = .ok (.iload_n 0, 1) := by decide +kernel
theorem dX6_isAlpha_1 : decode cX6_isAlpha 1 = .ok (.bipush 97, 2) := by decide +kernel
theorem dX6_isAlpha_3 : decode cX6_isAlpha 3 = .ok (.if_icmp .lt 13, 3) := by decide +kernel
theorem dX6_isAlpha_6 : decode cX6_isAlpha 6 = .ok (.iload_n 0, 1) := by decide +kernel
theorem dX6_isAlpha_7 : decode cX6_isAlpha 7 = .ok (.bipush 122, 2) := by decide +kernel
theorem dX6_isAlpha_9 : decode cX6_isAlpha 9 = .ok (.if_icmp .gt 7, 3) := by decide +kernel
theorem dX6_isAlpha_12 : decode cX6_isAlpha 12 = .ok (.iconst 1, 1) := by decide +kernel
theorem dX6_isAlpha_13 : decode cX6_isAlpha 13 = .ok (.goto 4, 3) := by decide +kernel
theorem dX6_isAlpha_16 : decode cX6_isAlpha 16 = .ok (.iconst 0, 1) := by decide +kernel
theorem dX6_isAlpha_17 : decode cX6_isAlpha 17 = .ok (.ireturn, 1) := by decide +kernel
theorem dX6_isDigit_0 : decode cX6_isDigit 0 = .ok (.iload_n 0, 1) := by decide +kernel
theorem dX6_isDigit_1 : decode cX6_isDigit 1 = .ok (.bipush 48, 2) := by decide +kernel
theorem dX6_isDigit_3 : decode cX6_isDigit 3 = .ok (.if_icmp .lt 13, 3) := by decide +kernel
theorem dX6_isDigit_6 : decode cX6_isDigit 6 = .ok (.iload_n 0, 1) := by decide +kernel
theorem dX6_isDigit_7 : decode cX6_isDigit 7 = .ok (.bipush 57, 2) := by decide +kernel
theorem dX6_isDigit_9 : decode cX6_isDigit 9 = .ok (.if_icmp .gt 7, 3) := by decide +kernel
theorem dX6_isDigit_12 : decode cX6_isDigit 12 = .ok (.iconst 1, 1) := by decide +kernel
theorem dX6_isDigit_13 : decode cX6_isDigit 13 = .ok (.goto 4, 3) := by decide +kernel
theorem dX6_isDigit_16 : decode cX6_isDigit 16 = .ok (.iconst 0, 1) := by decide +kernel
theorem dX6_isDigit_17 : decode cX6_isDigit 17 = .ok (.ireturn, 1) := by decide +kernel
theorem dX6_byteAt_0 : decode cX6_byteAt 0 = .ok (.iload_n 1, 1) := by decide +kernel
theorem dX6_byteAt_1 : decode cX6_byteAt 1 = .ok (.aload_n 0, 1) := by decide +kernel
theorem dX6_byteAt_2 : decode cX6_byteAt 2 = .ok (.getfield 64, 3) := by decide +kernel
theorem dX6_byteAt_5 : decode cX6_byteAt 5 = .ok (.if_icmp .ge 12, 3) := by decide +kernel
theorem dX6_byteAt_8 : decode cX6_byteAt 8 = .ok (.aload_n 0, 1) := by decide +kernel
theorem dX6_byteAt_9 : decode cX6_byteAt 9 = .ok (.getfield 22, 3) := by decide +kernel
theorem dX6_byteAt_12 : decode cX6_byteAt 12 = .ok (.iload_n 1, 1) := by decide +kernel
theorem dX6_byteAt_13 : decode cX6_byteAt 13 = .ok (.iaload, 1) := by decide +kernel
theorem dX6_byteAt_14 : decode cX6_byteAt 14 = .ok (.goto 4, 3) := by decide +kernel
theorem dX6_byteAt_17 : decode cX6_byteAt 17 = .ok (.iconst (-1), 1) := by decide +kernel
theorem dX6_byteAt_18 : decode cX6_byteAt 18 = .ok (.ireturn, 1) := by decide +kernel
set_option maxRecDepth 20000 in
theorem ggX6_nextToken_X6_byteAt : GoodIn wsX6_nextToken wsX6_byteAt := goodIn_r _ [9, 10, 11, 18, 19, 20, 21, 22, 23, 24, 25, 26, 27, 28, 29, 30, 31, 32, 33, 34, 35, 36, 37, 38, 39, 40, 41, 42, 43, 44, 45] (by decide +kernel) (by decide +kernel)
set_option maxRecDepth 20000 in
theorem gX6_nextToken_X6_byteAt : GoodIn wsX6_nextToken (wsV RX6 76 RX6 yX6_byteAt wsX6_byteAt) := goodIn_app (goodIn_of _ (by decide +kernel)) ggX6_nextToken_X6_byteAt
set_option maxRecDepth 20000 in
theorem ggX6_nextToken_X6_isAlpha : GoodIn wsX6_nextToken wsX6_isAlpha := goodIn_r _ [14] (by decide +kernel) (by decide +kernel)
set_option maxRecDepth 20000 in
theorem gX6_nextToken_X6_isAlpha : GoodIn wsX6_nextToken (va_wsS RX6 80 yX6_isAlpha wsX6_isAlpha) := goodIn_app (goodIn_of _ (by decide +kernel)) ggX6_nextToken_X6_isAlpha
set_option maxRecDepth 20000 in
theorem ggX6_nextToken_X6_isDigit : GoodIn wsX6_nextToken wsX6_isDigit := goodIn_r _ [17] (by decide +kernel) (by decide +kernel)
set_option maxRecDepth 20000 in
theorem gX6_nextToken_X6_isDigit : GoodIn wsX6_nextToken (va_wsS RX6 84 yX6_isDigit wsX6_isDigit) := goodIn_app (goodIn_of _ (by decide +kernel)) ggX6_nextToken_X6_isDigit
theorem dX6_nextToken_0 : decode cX6_nextToken 0 = .ok (.aload_n 0, 1) := by decide +kernel
theorem dX6_nextToken_1 : decode cX6_nextToken 1 = .ok (.aload_n 0, 1) := by decide +kernel
theorem dX6_nextToken_2 : decode cX6_nextToken 2 = .ok (.getfield 70, 3) := by decide +kernel
theorem dX6_nextToken_5 : decode cX6_nextToken 5 = .ok (.putfield 73, 3) := by decide +kernel
theorem dX6_nextToken_8 : decode cX6_nextToken 8 = .ok (.aload_n 0, 1) := by decide +kernel
theorem dX6_nextToken_9 : decode cX6_nextToken 9 = .ok (.aload_n 0, 1) := by decide +kernel
theorem dX6_nextToken_10 : decode cX6_nextToken 10 = .ok (.getfield 73, 3) := by decide +kernel
theorem dX6_nextToken_13 : decode cX6_nextToken 13 = .ok (.invokevirtual 76, 3) := by decide +kernel
theorem dX6_nextToken_16 : decode cX6_nextToken 16 = .ok (.bipush 32, 2) := by decide +kernel
theorem dX6_nextToken_18 : decode cX6_nextToken 18 = .ok (.if_icmp .ne 16, 3) := by decide +kernel
theorem dX6_nextToken_21 : decode cX6_nextToken 21 = .ok (.aload_n 0, 1) := by decide +kernel
theorem dX6_nextToken_22 : decode cX6_nextToken 22 = .ok (.dup, 1) := by decide +kernel
theorem dX6_nextToken_23 : decode cX6_nextToken 23 = .ok (.getfield 73, 3) := by decide +kernel
theorem dX6_nextToken_26 : decode cX6_nextToken 26 = .ok (.iconst 1, 1) := by decide +kernel
theorem dX6_nextToken_27 : decode cX6_nextToken 27 = .ok (.iadd, 1) := by decide +kernel
theorem dX6_nextToken_28 : decode cX6_nextToken 28 = .ok (.putfield 73, 3) := by decide +kernel
theorem dX6_nextToken_31 : decode cX6_nextToken 31 = .ok (.goto (-23), 3) := by decide +kernel
theorem dX6_nextToken_34 : decode cX6_nextToken 34 = .ok (.aload_n 0, 1) := by decide +kernel
theorem dX6_nextToken_35 : decode cX6_nextToken 35 = .ok (.aload_n 0, 1) := by decide +kernel
theorem dX6_nextToken_36 : decode cX6_nextToken 36 = .ok (.getfield 73, 3) := by decide +kernel
theorem dX6_nextToken_39 : decode cX6_nextToken 39 = .ok (.putfield 70, 3) := by decide +kernel
theorem dX6_nextToken_42 : decode cX6_nextToken 42 = .ok (.aload_n 0, 1) := by decide +kernel
theorem dX6_nextToken_43 : decode cX6_nextToken 43 = .ok (.aload_n 0, 1) := by decide +kernel
theorem dX6_nextToken_44 : decode cX6_nextToken 44 = .ok (.getfield 73, 3) := by decide +kernel
theorem dX6_nextToken_47 : decode cX6_nextToken 47 = .ok (.invokevirtual 76, 3) := by decide +kernel
theorem dX6_nextToken_50 : decode cX6_nextToken 50 = .ok (.istore_n 1, 1) := by decide +kernel
theorem dX6_nextToken_51 : decode cX6_nextToken 51 = .ok (.aload_n 0, 1) := by decide +kernel
theorem dX6_nextToken_52 : decode cX6_nextToken 52 = .ok (.iload_n 1, 1) := by decide +kernel
theorem dX6_nextToken_53 : decode cX6_nextToken 53 = .ok (.ifCond .ge 7, 3) := by decide +kernel
theorem dX6_nextToken_56 : decode cX6_nextToken 56 = .ok (.iconst 0, 1) := by decide +kernel
theorem dX6_nextToken_57 : decode cX6_nextToken 57 = .ok (.goto 26, 3) := by decide +kernel
theorem dX6_nextToken_60 : decode cX6_nextToken 60 = .ok (.iload_n 1, 1) := by decide +kernel
theorem dX6_nextToken_61 : decode cX6_nextToken 61 = .ok (.invokestatic 80, 3) := by decide +kernel
theorem dX6_nextToken_64 : decode cX6_nextToken 64 = .ok (.ifCond .eq 7, 3) := by decide +kernel
theorem dX6_nextToken_67 : decode cX6_nextToken 67 = .ok (.iconst 1, 1) := by decide +kernel
theorem dX6_nextToken_68 : decode cX6_nextToken 68 = .ok (.goto 15, 3) := by decide +kernel
theorem dX6_nextToken_71 : decode cX6_nextToken 71 = .ok (.iload_n 1, 1) := by decide +kernel
theorem dX6_nextToken_72 : decode cX6_nextToken 72 = .ok (.invokestatic 84, 3) := by decide +kernel
theorem dX6_nextToken_75 : decode cX6_nextToken 75 = .ok (.ifCond .eq 7, 3) := by decide +kernel
theorem dX6_nextToken_78 : decode cX6_nextToken 78 = .ok (.iconst 2, 1) := by decide +kernel
theorem dX6_nextToken_79 : decode cX6_nextToken 79 = .ok (.goto 4, 3) := by decide +kernel
theorem dX6_nextToken_82 : decode cX6_nextToken 82 = .ok (.iconst 3, 1) := by decide +kernel
theorem dX6_nextToken_83 : decode cX6_nextToken 83 = .ok (.putfield 87, 3) := by decide +kernel
theorem dX6_nextToken_86 : decode cX6_nextToken 86 = .ok (.aload_n 0, 1) := by decide +kernel
theorem dX6_nextToken_87 : decode cX6_nextToken 87 = .ok (.iconst 0, 1) := by decide +kernel
theorem dX6_nextToken_88 : decode cX6_nextToken 88 = .ok (.putfield 90, 3) := by decide +kernel
theorem dX6_nextToken_91 : decode cX6_nextToken 91 = .ok (.aload_n 0, 1) := by decide +kernel
theorem dX6_nextToken_92 : decode cX6_nextToken 92 = .ok (.getfield 87, 3) := by decide +kernel
theorem dX6_nextToken_95 : decode cX6_nextToken 95 = .ok (.iconst 1, 1) := by decide +kernel
theorem dX6_nextToken_96 : decode cX6_nextToken 96 = .ok (.if_icmp .ne 30, 3) := by decide +kernel
theorem dX6_nextToken_99 : decode cX6_nextToken 99 = .ok (.aload_n 0, 1) := by decide +kernel
theorem dX6_nextToken_100 : decode cX6_nextToken 100 = .ok (.aload_n 0, 1) := by decide +kernel
theorem dX6_nextToken_101 : decode cX6_nextToken 101 = .ok (.getfield 70, 3) := by decide +kernel
theorem dX6_nextToken_104 : decode cX6_nextToken 104 = .ok (.invokevirtual 76, 3) := by decide +kernel
theorem dX6_nextToken_107 : decode cX6_nextToken 107 = .ok (.invokestatic 80, 3) := by decide +kernel
theorem dX6_nextToken_110 : decode cX6_nextToken 110 = .ok (.ifCond .eq 16, 3) := by decide +kernel
theorem dX6_nextToken_113 : decode cX6_nextToken 113 = .ok (.aload_n 0, 1) := by decide +kernel
theorem dX6_nextToken_114 : decode cX6_nextToken 114 = .ok (.dup, 1) := by decide +kernel
theorem dX6_nextToken_115 : decode cX6_nextToken 115 = .ok (.getfield 70, 3) := by decide +kernel
theorem dX6_nextToken_118 : decode cX6_nextToken 118 = .ok (.iconst 1, 1) := by decide +kernel
theorem dX6_nextToken_119 : decode cX6_nextToken 119 = .ok (.iadd, 1) := by decide +kernel
theorem dX6_nextToken_120 : decode cX6_nextToken 120 = .ok (.putfield 70, 3) := by decide +kernel
theorem dX6_nextToken_123 : decode cX6_nextToken 123 = .ok (.goto (-32), 3) := by decide +kernel
theorem dX6_nextToken_126 : decode cX6_nextToken 126 = .ok (.aload_n 0, 1) := by decide +kernel
theorem dX6_nextToken_127 : decode cX6_nextToken 127 = .ok (.getfield 87, 3) := by decide +kernel
theorem dX6_nextToken_130 : decode cX6_nextToken 130 = .ok (.iconst 2, 1) := by decide +kernel
theorem dX6_nextToken_131 : decode cX6_nextToken 131 = .ok (.if_icmp .ne 70, 3) := by decide +kernel
theorem dX6_nextToken_134 : decode cX6_nextToken 134 = .ok (.aload_n 0, 1) := by decide +kernel
theorem dX6_nextToken_135 : decode cX6_nextToken 135 = .ok (.aload_n 0, 1) := by decide +kernel
theorem dX6_nextToken_136 : decode cX6_nextToken 136 = .ok (.getfield 70, 3) := by decide +kernel
theorem dX6_nextToken_139 : decode cX6_nextToken 139 = .ok (.invokevirtual 76, 3) := by decide +kernel
theorem dX6_nextToken_142 : decode cX6_nextToken 142 = .ok (.invokestatic 84, 3) := by decide +kernel
theorem dX6_nextToken_145 : decode cX6_nextToken 145 = .ok (.ifCond .eq 56, 3) := by decide +kernel
theorem dX6_nextToken_148 : decode cX6_nextToken 148 = .ok (.aload_n 0, 1) := by decide +kernel
theorem dX6_nextToken_149 : decode cX6_nextToken 149 = .ok (.aload_n 0, 1) := by decide +kernel
theorem dX6_nextToken_150 : decode cX6_nextToken 150 = .ok (.getfield 90, 3) := by decide +kernel
theorem dX6_nextToken_153 : decode cX6_nextToken 153 = .ok (.sipush 999, 3) := by decide +kernel
theorem dX6_nextToken_156 : decode cX6_nextToken 156 = .ok (.if_icmp .le 10, 3) := by decide +kernel
theorem dX6_nextToken_159 : decode cX6_nextToken 159 = .ok (.aload_n 0, 1) := by decide +kernel
theorem dX6_nextToken_160 : decode cX6_nextToken 160 = .ok (.getfield 90, 3) := by decide +kernel
theorem dX6_nextToken_163 : decode cX6_nextToken 163 = .ok (.goto 22, 3) := by decide +kernel
theorem dX6_nextToken_166 : decode cX6_nextToken 166 = .ok (.bipush 10, 2) := by decide +kernel
theorem dX6_nextToken_168 : decode cX6_nextToken 168 = .ok (.aload_n 0, 1) := by decide +kernel
theorem dX6_nextToken_169 : decode cX6_nextToken 169 = .ok (.getfield 90, 3) := by decide +kernel
theorem dX6_nextToken_172 : decode cX6_nextToken 172 = .ok (.imul, 1) := by decide +kernel
theorem dX6_nextToken_173 : decode cX6_nextToken 173 = .ok (.aload_n 0, 1) := by decide +kernel
theorem dX6_nextToken_174 : decode cX6_nextToken 174 = .ok (.aload_n 0, 1) := by decide +kernel
theorem dX6_nextToken_175 : decode cX6_nextToken 175 = .ok (.getfield 70, 3) := by decide +kernel
theorem dX6_nextToken_178 : decode cX6_nextToken 178 = .ok (.invokevirtual 76, 3) := by decide +kernel
theorem dX6_nextToken_181 : decode cX6_nextToken 181 = .ok (.iadd, 1) := by decide +kernel
theorem dX6_nextToken_182 : decode cX6_nextToken 182 = .ok (.bipush 48, 2) := by decide +kernel
theorem dX6_nextToken_184 : decode cX6_nextToken 184 = .ok (.isub, 1) := by decide +kernel
theorem dX6_nextToken_185 : decode cX6_nextToken 185 = .ok (.putfield 90, 3) := by decide +kernel
theorem dX6_nextToken_188 : decode cX6_nextToken 188 = .ok (.aload_n 0, 1) := by decide +kernel
theorem dX6_nextToken_189 : decode cX6_nextToken 189 = .ok (.dup, 1) := by decide +kernel
theorem dX6_nextToken_190 : decode cX6_nextToken 190 = .ok (.getfield 70, 3) := by decide +kernel
theorem dX6_nextToken_193 : decode cX6_nextToken 193 = .ok (.iconst 1, 1) := by decide +kernel
theorem dX6_nextToken_194 : decode cX6_nextToken 194 = .ok (.iadd, 1) := by decide +kernel
theorem dX6_nextToken_195 : decode cX6_nextToken 195 = .ok (.putfield 70, 3) := by decide +kernel
theorem dX6_nextToken_198 : decode cX6_nextToken 198 = .ok (.goto (-72), 3) := by decide +kernel
theorem dX6_nextToken_201 : decode cX6_nextToken 201 = .ok (.aload_n 0, 1) := by decide +kernel
theorem dX6_nextToken_202 : decode cX6_nextToken 202 = .ok (.dup, 1) := by decide +kernel
theorem dX6_nextToken_203 : decode cX6_nextToken 203 = .ok (.getfield 70, 3) := by decide +kernel
theorem dX6_nextToken_206 : decode cX6_nextToken 206 = .ok (.aload_n 0, 1) := by decide +kernel
theorem dX6_nextToken_207 : decode cX6_nextToken 207 = .ok (.getfield 87, 3) := by decide +kernel
theorem dX6_nextToken_210 : decode cX6_nextToken 210 = .ok (.iconst 2, 1) := by decide +kernel
theorem dX6_nextToken_211 : decode cX6_nextToken 211 = .ok (.if_icmp .le 7, 3) := by decide +kernel
theorem dX6_nextToken_214 : decode cX6_nextToken 214 = .ok (.iconst 1, 1) := by decide +kernel
theorem dX6_nextToken_215 : decode cX6_nextToken 215 = .ok (.goto 4, 3) := by decide +kernel
theorem dX6_nextToken_218 : decode cX6_nextToken 218 = .ok (.iconst 0, 1) := by decide +kernel
theorem dX6_nextToken_219 : decode cX6_nextToken 219 = .ok (.iadd, 1) := by decide +kernel
theorem dX6_nextToken_220 : decode cX6_nextToken 220 = .ok (.putfield 70, 3) := by decide +kernel
theorem dX6_nextToken_223 : decode cX6_nextToken 223 = .ok (.return_, 1) := by decide +kernel
set_option maxRecDepth 20000 in
theorem ggX6_needs_X6_nextToken : GoodIn wsX6_needs wsX6_nextToken := goodIn_r _ [6, 7, 8, 9, 10, 11, 12, 13, 5, 14, 15, 16, 17, 18, 19, 20, 21, 22, 23, 24, 25, 26, 27, 28, 29, 30, 31, 32, 33, 34, 35, 36, 37, 38, 39, 40, 41, 42, 43, 44, 45, 46, 47, 48, 49, 50] (by decide +kernel) (by decide +kernel)
set_option maxRecDepth 20000 in
theorem gX6_needs_X6_nextToken : GoodIn wsX6_needs (wsV RX6 97 RX6 yX6_nextToken wsX6_nextToken) := goodIn_app (goodIn_of _ (by decide +kernel)) ggX6_needs_X6_nextToken
theorem dX6_needs_0 : decode cX6_needs 0 = .ok (.aload_n 0, 1) := by decide +kernel
theorem dX6_needs_1 : decode cX6_needs 1 = .ok (.aload_n 0, 1) := by decide +kernel
theorem dX6_needs_2 : decode cX6_needs 2 = .ok (.getfield 93, 3) := by decide +kernel
theorem dX6_needs_5 : decode cX6_needs 5 = .ok (.ifCond .ne 7, 3) := by decide +kernel
theorem dX6_needs_8 : decode cX6_needs 8 = .ok (.iload_n 1, 1) := by decide +kernel
theorem dX6_needs_9 : decode cX6_needs 9 = .ok (.ifCond .ne 7, 3) := by decide +kernel
theorem dX6_needs_12 : decode cX6_needs 12 = .ok (.iconst 1, 1) := by decide +kernel
theorem dX6_needs_13 : decode cX6_needs 13 = .ok (.goto 4, 3) := by decide +kernel
theorem dX6_needs_16 : decode cX6_needs 16 = .ok (.iconst 0, 1) := by decide +kernel
theorem dX6_needs_17 : decode cX6_needs 17 = .ok (.putfield 93, 3) := by decide +kernel
theorem dX6_needs_20 : decode cX6_needs 20 = .ok (.aload_n 0, 1) := by decide +kernel
theorem dX6_needs_21 : decode cX6_needs 21 = .ok (.getfield 93, 3) := by decide +kernel
theorem dX6_needs_24 : decode cX6_needs 24 = .ok (.ifCond .ne 7, 3) := by decide +kernel
theorem dX6_needs_27 : decode cX6_needs 27 = .ok (.aload_n 0, 1) := by decide +kernel
theorem dX6_needs_28 : decode cX6_needs 28 = .ok (.invokevirtual 97, 3) := by decide +kernel
theorem dX6_needs_31 : decode cX6_needs 31 = .ok (.return_, 1) := by decide +kernel
set_option maxRecDepth 20000 in
theorem ggX6_isName_X6_byteAt : GoodIn wsX6_isName wsX6_byteAt := goodIn_r _ [8, 9, 10, 11, 12, 13, 14, 15, 16, 17, 18, 19, 20, 21, 22, 23, 24, 25, 26, 27, 28, 29, 30, 31, 32, 33, 34, 35, 36, 37, 38] (by decide +kernel) (by decide +kernel)
set_option maxRecDepth 20000 in
theorem gX6_isName_X6_byteAt : GoodIn wsX6_isName (wsV RX6 76 RX6 yX6_byteAt wsX6_byteAt) := goodIn_app (goodIn_of _ (by decide +kernel)) ggX6_isName_X6_byteAt
theorem dX6_isName_0 : decode cX6_isName 0 = .ok (.aload_n 0, 1) := by decide +kernel
theorem dX6_isName_1 : decode cX6_isName 1 = .ok (.getfield 87, 3) := by decide +kernel
theorem dX6_isName_4 : decode cX6_isName 4 = .ok (.iconst 1, 1) := by decide +kernel
theorem dX6_isName_5 : decode cX6_isName 5 = .ok (.if_icmp .ne 76, 3) := by decide +kernel
theorem dX6_isName_8 : decode cX6_isName 8 = .ok (.aload_n 0, 1) := by decide +kernel
theorem dX6_isName_9 : decode cX6_isName 9 = .ok (.getfield 70, 3) := by decide +kernel
theorem dX6_isName_12 : decode cX6_isName 12 = .ok (.aload_n 0, 1) := by decide +kernel
theorem dX6_isName_13 : decode cX6_isName 13 = .ok (.getfield 73, 3) := by decide +kernel
theorem dX6_isName_16 : decode cX6_isName 16 = .ok (.isub, 1) := by decide +kernel
theorem dX6_isName_17 : decode cX6_isName 17 = .ok (.iload_n 1, 1) := by decide +kernel
theorem dX6_isName_18 : decode cX6_isName 18 = .ok (.if_icmp .ne 63, 3) := by decide +kernel
theorem dX6_isName_21 : decode cX6_isName 21 = .ok (.aload_n 0, 1) := by decide +kernel
theorem dX6_isName_22 : decode cX6_isName 22 = .ok (.aload_n 0, 1) := by decide +kernel
theorem dX6_isName_23 : decode cX6_isName 23 = .ok (.getfield 73, 3) := by decide +kernel
theorem dX6_isName_26 : decode cX6_isName 26 = .ok (.invokevirtual 76, 3) := by decide +kernel
theorem dX6_isName_29 : decode cX6_isName 29 = .ok (.iload_n 2, 1) := by decide +kernel
theorem dX6_isName_30 : decode cX6_isName 30 = .ok (.if_icmp .ne 51, 3) := by decide +kernel
theorem dX6_isName_33 : decode cX6_isName 33 = .ok (.aload_n 0, 1) := by decide +kernel
theorem dX6_isName_34 : decode cX6_isName 34 = .ok (.aload_n 0, 1) := by decide +kernel
theorem dX6_isName_35 : decode cX6_isName 35 = .ok (.getfield 73, 3) := by decide +kernel
theorem dX6_isName_38 : decode cX6_isName 38 = .ok (.iconst 1, 1) := by decide +kernel
theorem dX6_isName_39 : decode cX6_isName 39 = .ok (.iadd, 1) := by decide +kernel
theorem dX6_isName_40 : decode cX6_isName 40 = .ok (.invokevirtual 76, 3) := by decide +kernel
theorem dX6_isName_43 : decode cX6_isName 43 = .ok (.iload_n 3, 1) := by decide +kernel
theorem dX6_isName_44 : decode cX6_isName 44 = .ok (.if_icmp .ne 37, 3) := by decide +kernel
theorem dX6_isName_47 : decode cX6_isName 47 = .ok (.aload_n 0, 1) := by decide +kernel
theorem dX6_isName_48 : decode cX6_isName 48 = .ok (.aload_n 0, 1) := by decide +kernel
theorem dX6_isName_49 : decode cX6_isName 49 = .ok (.getfield 73, 3) := by decide +kernel
theorem dX6_isName_52 : decode cX6_isName 52 = .ok (.iconst 2, 1) := by decide +kernel
theorem dX6_isName_53 : decode cX6_isName 53 = .ok (.iadd, 1) := by decide +kernel
theorem dX6_isName_54 : decode cX6_isName 54 = .ok (.invokevirtual 76, 3) := by decide +kernel
theorem dX6_isName_57 : decode cX6_isName 57 = .ok (.iload 4, 2) := by decide +kernel
theorem dX6_isName_59 : decode cX6_isName 59 = .ok (.if_icmp .ne 22, 3) := by decide +kernel
theorem dX6_isName_62 : decode cX6_isName 62 = .ok (.aload_n 0, 1) := by decide +kernel
theorem dX6_isName_63 : decode cX6_isName 63 = .ok (.aload_n 0, 1) := by decide +kernel
theorem dX6_isName_64 : decode cX6_isName 64 = .ok (.getfield 70, 3) := by decide +kernel
theorem dX6_isName_67 : decode cX6_isName 67 = .ok (.iconst 1, 1) := by decide +kernel
theorem dX6_isName_68 : decode cX6_isName 68 = .ok (.isub, 1) := by decide +kernel
theorem dX6_isName_69 : decode cX6_isName 69 = .ok (.invokevirtual 76, 3) := by decide +kernel
theorem dX6_isName_72 : decode cX6_isName 72 = .ok (.iload 5, 2) := by decide +kernel
theorem dX6_isName_74 : decode cX6_isName 74 = .ok (.if_icmp .ne 7, 3) := by decide +kernel
theorem dX6_isName_77 : decode cX6_isName 77 = .ok (.iconst 1, 1) := by decide +kernel
theorem dX6_isName_78 : decode cX6_isName 78 = .ok (.goto 4, 3) := by decide +kernel
theorem dX6_isName_81 : decode cX6_isName 81 = .ok (.iconst 0, 1) := by decide +kernel
theorem dX6_isName_82 : decode cX6_isName 82 = .ok (.ireturn, 1) := by decide +kernel
set_option maxRecDepth 20000 in
theorem ggX6_isSame_X6_byteAt : GoodIn wsX6_isSame wsX6_byteAt := goodIn_r _ [6, 7, 8, 9, 10, 11, 12, 13, 14, 15, 16, 17, 18, 19, 20, 21, 22, 23, 24, 25, 26, 27, 28, 29, 30, 31, 32, 33, 34, 35, 36] (by decide +kernel) (by decide +kernel)
set_option maxRecDepth 20000 in
theorem gX6_isSame_X6_byteAt : GoodIn wsX6_isSame (wsV RX6 76 RX6 yX6_byteAt wsX6_byteAt) := goodIn_app (goodIn_of _ (by decide +kernel)) ggX6_isSame_X6_byteAt
theorem dX6_isSame_0 : decode cX6_isSame 0 = .ok (.aload_n 0, 1) := by decide +kernel
theorem dX6_isSame_1 : decode cX6_isSame 1 = .ok (.aload_n 0, 1) := by decide +kernel
theorem dX6_isSame_2 : decode cX6_isSame 2 = .ok (.getfield 73, 3) := by decide +kernel
theorem dX6_isSame_5 : decode cX6_isSame 5 = .ok (.iload_n 1, 1) := by decide +kernel
theorem dX6_isSame_6 : decode cX6_isSame 6 = .ok (.iadd, 1) := by decide +kernel
theorem dX6_isSame_7 : decode cX6_isSame 7 = .ok (.invokevirtual 76, 3) := by decide +kernel
theorem dX6_isSame_10 : decode cX6_isSame 10 = .ok (.iload_n 2, 1) := by decide +kernel
theorem dX6_isSame_11 : decode cX6_isSame 11 = .ok (.if_icmp .ne 40, 3) := by decide +kernel
theorem dX6_isSame_14 : decode cX6_isSame 14 = .ok (.aload_n 0, 1) := by decide +kernel
theorem dX6_isSame_15 : decode cX6_isSame 15 = .ok (.aload_n 0, 1) := by decide +kernel
theorem dX6_isSame_16 : decode cX6_isSame 16 = .ok (.getfield 73, 3) := by decide +kernel
theorem dX6_isSame_19 : decode cX6_isSame 19 = .ok (.iload_n 1, 1) := by decide +kernel
theorem dX6_isSame_20 : decode cX6_isSame 20 = .ok (.iadd, 1) := by decide +kernel
theorem dX6_isSame_21 : decode cX6_isSame 21 = .ok (.iconst 1, 1) := by decide +kernel
theorem dX6_isSame_22 : decode cX6_isSame 22 = .ok (.iadd, 1) := by decide +kernel
theorem dX6_isSame_23 : decode cX6_isSame 23 = .ok (.invokevirtual 76, 3) := by decide +kernel
theorem dX6_isSame_26 : decode cX6_isSame 26 = .ok (.iload_n 3, 1) := by decide +kernel
theorem dX6_isSame_27 : decode cX6_isSame 27 = .ok (.if_icmp .ne 24, 3) := by decide +kernel
theorem dX6_isSame_30 : decode cX6_isSame 30 = .ok (.aload_n 0, 1) := by decide +kernel
theorem dX6_isSame_31 : decode cX6_isSame 31 = .ok (.aload_n 0, 1) := by decide +kernel
theorem dX6_isSame_32 : decode cX6_isSame 32 = .ok (.getfield 73, 3) := by decide +kernel
theorem dX6_isSame_35 : decode cX6_isSame 35 = .ok (.iload_n 1, 1) := by decide +kernel
theorem dX6_isSame_36 : decode cX6_isSame 36 = .ok (.iadd, 1) := by decide +kernel
theorem dX6_isSame_37 : decode cX6_isSame 37 = .ok (.iconst 2, 1) := by decide +kernel
theorem dX6_isSame_38 : decode cX6_isSame 38 = .ok (.iadd, 1) := by decide +kernel
theorem dX6_isSame_39 : decode cX6_isSame 39 = .ok (.invokevirtual 76, 3) := by decide +kernel
theorem dX6_isSame_42 : decode cX6_isSame 42 = .ok (.iload 4, 2) := by decide +kernel
theorem dX6_isSame_44 : decode cX6_isSame 44 = .ok (.if_icmp .ne 7, 3) := by decide +kernel
theorem dX6_isSame_47 : decode cX6_isSame 47 = .ok (.iconst 1, 1) := by decide +kernel
theorem dX6_isSame_48 : decode cX6_isSame 48 = .ok (.goto 4, 3) := by decide +kernel
theorem dX6_isSame_51 : decode cX6_isSame 51 = .ok (.iconst 0, 1) := by decide +kernel
theorem dX6_isSame_52 : decode cX6_isSame 52 = .ok (.ireturn, 1) := by decide +kernel
set_option maxRecDepth 20000 in
theorem ggX6_isFour_X6_isName : GoodIn wsX6_isFour wsX6_isName := goodIn_r _ [5, 6, 7, 8, 9, 10, 11, 4, 12, 13, 14, 15, 16, 17, 18, 19, 20, 21, 22, 23, 24, 25, 26, 27, 28, 29, 30, 31, 32, 33, 34, 35, 36, 37, 38, 39, 40, 41, 42] (by decide +kernel) (by decide +kernel)
set_option maxRecDepth 20000 in
theorem gX6_isFour_X6_isName : GoodIn wsX6_isFour (wsV RX6 100 RX6 yX6_isName wsX6_isName) := goodIn_app (goodIn_of _ (by decide +kernel)) ggX6_isFour_X6_isName
theorem dX6_isFour_0 : decode cX6_isFour 0 = .ok (.aload_n 0, 1) := by decide +kernel
theorem dX6_isFour_1 : decode cX6_isFour 1 = .ok (.iconst 4, 1) := by decide +kernel
theorem dX6_isFour_2 : decode cX6_isFour 2 = .ok (.iload_n 1, 1) := by decide +kernel
theorem dX6_isFour_3 : decode cX6_isFour 3 = .ok (.iload_n 2, 1) := by decide +kernel
theorem dX6_isFour_4 : decode cX6_isFour 4 = .ok (.iload_n 3, 1) := by decide +kernel
theorem dX6_isFour_5 : decode cX6_isFour 5 = .ok (.iload 4, 2) := by decide +kernel
theorem dX6_isFour_7 : decode cX6_isFour 7 = .ok (.invokevirtual 100, 3) := by decide +kernel
theorem dX6_isFour_10 : decode cX6_isFour 10 = .ok (.ireturn, 1) := by decide +kernel
set_option maxRecDepth 20000 in
theorem ggX6_isFive_X6_isName : GoodIn wsX6_isFive wsX6_isName := goodIn_r _ [6, 7, 8, 1, 9, 10, 11, 5, 12, 13, 14, 15, 16, 17, 18, 19, 20, 21, 22, 23, 24, 25, 26, 27, 28, 29, 30, 31, 32, 33, 34, 35, 36, 37, 38, 39, 40, 41, 42] (by decide +kernel) (by decide +kernel)
set_option maxRecDepth 20000 in
theorem gX6_isFive_X6_isName : GoodIn wsX6_isFive (wsV RX6 100 RX6 yX6_isName wsX6_isName) := goodIn_app (goodIn_of _ (by decide +kernel)) ggX6_isFive_X6_isName
set_option maxRecDepth 20000 in
theorem ggX6_isFive_X6_byteAt : GoodIn wsX6_isFive wsX6_byteAt := goodIn_r _ [12, 13, 14, 15, 16, 17, 18, 19, 20, 21, 22, 23, 24, 25, 26, 27, 28, 29, 30, 31, 32, 33, 34, 35, 36, 37, 38, 39, 40, 41, 42] (by decide +kernel) (by decide +kernel)
set_option maxRecDepth 20000 in
theorem gX6_isFive_X6_byteAt : GoodIn wsX6_isFive (wsV RX6 76 RX6 yX6_byteAt wsX6_byteAt) := goodIn_app (goodIn_of _ (by decide +kernel)) ggX6_isFive_X6_byteAt
theorem dX6_isFive_0 : decode cX6_isFive 0 = .ok (.aload_n 0, 1) := by decide +kernel
theorem dX6_isFive_1 : decode cX6_isFive 1 = .ok (.iconst 5, 1) := by decide +kernel
theorem dX6_isFive_2 : decode cX6_isFive 2 = .ok (.iload_n 1, 1) := by decide +kernel
theorem dX6_isFive_3 : decode cX6_isFive 3 = .ok (.iload_n 2, 1) := by decide +kernel
theorem dX6_isFive_4 : decode cX6_isFive 4 = .ok (.iload_n 3, 1) := by decide +kernel
theorem dX6_isFive_5 : decode cX6_isFive 5 = .ok (.iload 5, 2) := by decide +kernel
theorem dX6_isFive_7 : decode cX6_isFive 7 = .ok (.invokevirtual 100, 3) := by decide +kernel
theorem dX6_isFive_10 : decode cX6_isFive 10 = .ok (.ifCond .eq 22, 3) := by decide +kernel
theorem dX6_isFive_13 : decode cX6_isFive 13 = .ok (.aload_n 0, 1) := by decide +kernel
theorem dX6_isFive_14 : decode cX6_isFive 14 = .ok (.aload_n 0, 1) := by decide +kernel
theorem dX6_isFive_15 : decode cX6_isFive 15 = .ok (.getfield 73, 3) := by decide +kernel
theorem dX6_isFive_18 : decode cX6_isFive 18 = .ok (.iconst 3, 1) := by decide +kernel
theorem dX6_isFive_19 : decode cX6_isFive 19 = .ok (.iadd, 1) := by decide +kernel
theorem dX6_isFive_20 : decode cX6_isFive 20 = .ok (.invokevirtual 76, 3) := by decide +kernel
theorem dX6_isFive_23 : decode cX6_isFive 23 = .ok (.iload 4, 2) := by decide +kernel
theorem dX6_isFive_25 : decode cX6_isFive 25 = .ok (.if_icmp .ne 7, 3) := by decide +kernel
theorem dX6_isFive_28 : decode cX6_isFive 28 = .ok (.iconst 1, 1) := by decide +kernel
theorem dX6_isFive_29 : decode cX6_isFive 29 = .ok (.goto 4, 3) := by decide +kernel
theorem dX6_isFive_32 : decode cX6_isFive 32 = .ok (.iconst 0, 1) := by decide +kernel
theorem dX6_isFive_33 : decode cX6_isFive 33 = .ok (.ireturn, 1) := by decide +kernel
set_option maxRecDepth 20000 in
theorem ggX6_kindHere_X6_isFour : GoodIn wsX6_kindHere wsX6_isFour := goodIn_r _ [5, 6, 7, 8, 4, 9, 10, 11, 12, 13, 14, 15, 16, 17, 18, 27, 28, 29, 30, 31, 32, 33, 34, 35, 36, 37, 38, 39, 40, 41, 42, 43, 44, 45, 46, 47, 48, 49, 50, 51, 52, 53, 54] (by decide +kernel) (by decide +kernel)
set_option maxRecDepth 20000 in
theorem gX6_kindHere_X6_isFour : GoodIn wsX6_kindHere (wsV RX6 104 RX6 yX6_isFour wsX6_isFour) := goodIn_app (goodIn_of _ (by decide +kernel)) ggX6_kindHere_X6_isFour
set_option maxRecDepth 20000 in
theorem ggX6_kindHere_X6_isFive : GoodIn wsX6_kindHere wsX6_isFive := goodIn_r _ [22, 12, 6, 7, 8, 4, 9, 10, 11, 13, 14, 15, 16, 17, 18, 27, 28, 29, 30, 31, 32, 33, 34, 35, 36, 37, 38, 39, 40, 41, 42, 43, 44, 45, 46, 47, 48, 49, 50, 51, 52, 53, 54] (by decide +kernel) (by decide +kernel)
set_option maxRecDepth 20000 in
theorem gX6_kindHere_X6_isFive : GoodIn wsX6_kindHere (wsV RX6 108 RX6 yX6_isFive wsX6_isFive) := goodIn_app (goodIn_of _ (by decide +kernel)) ggX6_kindHere_X6_isFive
set_option maxRecDepth 20000 in
theorem ggX6_kindHere_X6_isName : GoodIn wsX6_kindHere wsX6_isName := goodIn_r _ [9, 10, 11, 12, 13, 14, 15, 4, 16, 17, 18, 27, 28, 29, 30, 31, 32, 33, 34, 35, 36, 37, 38, 39, 40, 41, 42, 43, 44, 45, 46, 47, 48, 49, 50, 51, 52, 53, 54] (by decide +kernel) (by decide +kernel)
set_option maxRecDepth 20000 in
theorem gX6_kindHere_X6_isName : GoodIn wsX6_kindHere (wsV RX6 100 RX6 yX6_isName wsX6_isName) := goodIn_app (goodIn_of _ (by decide +kernel)) ggX6_kindHere_X6_isName
set_option maxRecDepth 20000 in
theorem ggX6_kindHere_X6_isSame : GoodIn wsX6_kindHere wsX6_isSame := goodIn_r _ [26, 12, 13, 14, 15, 4, 16, 17, 18, 27, 28, 29, 30, 31, 32, 33, 34, 35, 36, 37, 38, 39, 40, 41, 42, 43, 44, 45, 46, 47, 48, 49, 50, 51, 52, 53, 54] (by decide +kernel) (by decide +kernel)
set_option maxRecDepth 20000 in
theorem gX6_kindHere_X6_isSame : GoodIn wsX6_kindHere (wsV RX6 111 RX6 yX6_isSame wsX6_isSame) := goodIn_app (goodIn_of _ (by decide +kernel)) ggX6_kindHere_X6_isSame
theorem dX6_kindHere_0 : decode cX6_kindHere 0 = .ok (.aload_n 0, 1) := by decide +kernel
theorem dX6_kindHere_1 : decode cX6_kindHere 1 = .ok (.bipush 109, 2) := by decide +kernel
theorem dX6_kindHere_3 : decode cX6_kindHere 3 = .ok (.bipush 97, 2) := by decide +kernel
theorem dX6_kindHere_5 : decode cX6_kindHere 5 = .ok (.bipush 114, 2) := by decide +kernel
theorem dX6_kindHere_7 : decode cX6_kindHere 7 = .ok (.bipush 107, 2) := by decide +kernel
theorem dX6_kindHere_9 : decode cX6_kindHere 9 = .ok (.invokevirtual 104, 3) := by decide +kernel
theorem dX6_kindHere_12 : decode cX6_kindHere 12 = .ok (.ifCond .eq 5, 3) := by decide +kernel
theorem dX6_kindHere_15 : decode cX6_kindHere 15 = .ok (.iconst 0, 1) := by decide +kernel
theorem dX6_kindHere_16 : decode cX6_kindHere 16 = .ok (.ireturn, 1) := by decide +kernel
theorem dX6_kindHere_17 : decode cX6_kindHere 17 = .ok (.aload_n 0, 1) := by decide +kernel
theorem dX6_kindHere_18 : decode cX6_kindHere 18 = .ok (.bipush 115, 2) := by decide +kernel
theorem dX6_kindHere_20 : decode cX6_kindHere 20 = .ok (.bipush 104, 2) := by decide +kernel
theorem dX6_kindHere_22 : decode cX6_kindHere 22 = .ok (.bipush 105, 2) := by decide +kernel
theorem dX6_kindHere_24 : decode cX6_kindHere 24 = .ok (.bipush 112, 2) := by decide +kernel
theorem dX6_kindHere_26 : decode cX6_kindHere 26 = .ok (.invokevirtual 104, 3) := by decide +kernel
theorem dX6_kindHere_29 : decode cX6_kindHere 29 = .ok (.ifCond .eq 5, 3) := by decide +kernel
theorem dX6_kindHere_32 : decode cX6_kindHere 32 = .ok (.iconst 1, 1) := by decide +kernel
theorem dX6_kindHere_33 : decode cX6_kindHere 33 = .ok (.ireturn, 1) := by decide +kernel
theorem dX6_kindHere_34 : decode cX6_kindHere 34 = .ok (.aload_n 0, 1) := by decide +kernel
theorem dX6_kindHere_35 : decode cX6_kindHere 35 = .ok (.bipush 115, 2) := by decide +kernel
theorem dX6_kindHere_37 : decode cX6_kindHere 37 = .ok (.bipush 110, 2) := by decide +kernel
theorem dX6_kindHere_39 : decode cX6_kindHere 39 = .ok (.bipush 97, 2) := by decide +kernel
theorem dX6_kindHere_41 : decode cX6_kindHere 41 = .ok (.bipush 107, 2) := by decide +kernel
theorem dX6_kindHere_43 : decode cX6_kindHere 43 = .ok (.bipush 101, 2) := by decide +kernel
theorem dX6_kindHere_45 : decode cX6_kindHere 45 = .ok (.invokevirtual 108, 3) := by decide +kernel
theorem dX6_kindHere_48 : decode cX6_kindHere 48 = .ok (.ifCond .eq 5, 3) := by decide +kernel
theorem dX6_kindHere_51 : decode cX6_kindHere 51 = .ok (.iconst 2, 1) := by decide +kernel
theorem dX6_kindHere_52 : decode cX6_kindHere 52 = .ok (.ireturn, 1) := by decide +kernel
theorem dX6_kindHere_53 : decode cX6_kindHere 53 = .ok (.aload_n 0, 1) := by decide +kernel
theorem dX6_kindHere_54 : decode cX6_kindHere 54 = .ok (.bipush 6, 2) := by decide +kernel
theorem dX6_kindHere_56 : decode cX6_kindHere 56 = .ok (.bipush 97, 2) := by decide +kernel
theorem dX6_kindHere_58 : decode cX6_kindHere 58 = .ok (.bipush 110, 2) := by decide +kernel
theorem dX6_kindHere_60 : decode cX6_kindHere 60 = .ok (.bipush 99, 2) := by decide +kernel
theorem dX6_kindHere_62 : decode cX6_kindHere 62 = .ok (.bipush 114, 2) := by decide +kernel
theorem dX6_kindHere_64 : decode cX6_kindHere 64 = .ok (.invokevirtual 100, 3) := by decide +kernel
theorem dX6_kindHere_67 : decode cX6_kindHere 67 = .ok (.ifCond .eq 19, 3) := by decide +kernel
theorem dX6_kindHere_70 : decode cX6_kindHere 70 = .ok (.aload_n 0, 1) := by decide +kernel
theorem dX6_kindHere_71 : decode cX6_kindHere 71 = .ok (.iconst 2, 1) := by decide +kernel
theorem dX6_kindHere_72 : decode cX6_kindHere 72 = .ok (.bipush 99, 2) := by decide +kernel
theorem dX6_kindHere_74 : decode cX6_kindHere 74 = .ok (.bipush 104, 2) := by decide +kernel
theorem dX6_kindHere_76 : decode cX6_kindHere 76 = .ok (.bipush 111, 2) := by decide +kernel
theorem dX6_kindHere_78 : decode cX6_kindHere 78 = .ok (.invokevirtual 111, 3) := by decide +kernel
theorem dX6_kindHere_81 : decode cX6_kindHere 81 = .ok (.ifCond .eq 5, 3) := by decide +kernel
theorem dX6_kindHere_84 : decode cX6_kindHere 84 = .ok (.iconst 3, 1) := by decide +kernel
theorem dX6_kindHere_85 : decode cX6_kindHere 85 = .ok (.ireturn, 1) := by decide +kernel
theorem dX6_kindHere_86 : decode cX6_kindHere 86 = .ok (.aload_n 0, 1) := by decide +kernel
theorem dX6_kindHere_87 : decode cX6_kindHere 87 = .ok (.bipush 6, 2) := by decide +kernel
theorem dX6_kindHere_89 : decode cX6_kindHere 89 = .ok (.bipush 100, 2) := by decide +kernel
theorem dX6_kindHere_91 : decode cX6_kindHere 91 = .ok (.bipush 114, 2) := by decide +kernel
theorem dX6_kindHere_93 : decode cX6_kindHere 93 = .ok (.bipush 97, 2) := by decide +kernel
theorem dX6_kindHere_95 : decode cX6_kindHere 95 = .ok (.bipush 110, 2) := by decide +kernel
theorem dX6_kindHere_97 : decode cX6_kindHere 97 = .ok (.invokevirtual 100, 3) := by decide +kernel
theorem dX6_kindHere_100 : decode cX6_kindHere 100 = .ok (.ifCond .eq 19, 3) := by decide +kernel
theorem dX6_kindHere_103 : decode cX6_kindHere 103 = .ok (.aload_n 0, 1) := by decide +kernel
theorem dX6_kindHere_104 : decode cX6_kindHere 104 = .ok (.iconst 2, 1) := by decide +kernel
theorem dX6_kindHere_105 : decode cX6_kindHere 105 = .ok (.bipush 97, 2) := by decide +kernel
theorem dX6_kindHere_107 : decode cX6_kindHere 107 = .ok (.bipush 103, 2) := by decide +kernel
theorem dX6_kindHere_109 : decode cX6_kindHere 109 = .ok (.bipush 111, 2) := by decide +kernel
theorem dX6_kindHere_111 : decode cX6_kindHere 111 = .ok (.invokevirtual 111, 3) := by decide +kernel
theorem dX6_kindHere_114 : decode cX6_kindHere 114 = .ok (.ifCond .eq 5, 3) := by decide +kernel
theorem dX6_kindHere_117 : decode cX6_kindHere 117 = .ok (.iconst 4, 1) := by decide +kernel
theorem dX6_kindHere_118 : decode cX6_kindHere 118 = .ok (.ireturn, 1) := by decide +kernel
theorem dX6_kindHere_119 : decode cX6_kindHere 119 = .ok (.aload_n 0, 1) := by decide +kernel
theorem dX6_kindHere_120 : decode cX6_kindHere 120 = .ok (.bipush 110, 2) := by decide +kernel
theorem dX6_kindHere_122 : decode cX6_kindHere 122 = .ok (.bipush 97, 2) := by decide +kernel
theorem dX6_kindHere_124 : decode cX6_kindHere 124 = .ok (.bipush 109, 2) := by decide +kernel
theorem dX6_kindHere_126 : decode cX6_kindHere 126 = .ok (.bipush 101, 2) := by decide +kernel
theorem dX6_kindHere_128 : decode cX6_kindHere 128 = .ok (.invokevirtual 104, 3) := by decide +kernel
theorem dX6_kindHere_131 : decode cX6_kindHere 131 = .ok (.ifCond .eq 7, 3) := by decide +kernel
theorem dX6_kindHere_134 : decode cX6_kindHere 134 = .ok (.iconst 5, 1) := by decide +kernel
theorem dX6_kindHere_135 : decode cX6_kindHere 135 = .ok (.goto 4, 3) := by decide +kernel
theorem dX6_kindHere_138 : decode cX6_kindHere 138 = .ok (.iconst (-1), 1) := by decide +kernel
theorem dX6_kindHere_139 : decode cX6_kindHere 139 = .ok (.ireturn, 1) := by decide +kernel
theorem dX6_isNumber_0 : decode cX6_isNumber 0 = .ok (.aload_n 0, 1) := by decide +kernel
theorem dX6_isNumber_1 : decode cX6_isNumber 1 = .ok (.getfield 87, 3) := by decide +kernel
theorem dX6_isNumber_4 : decode cX6_isNumber 4 = .ok (.iconst 2, 1) := by decide +kernel
theorem dX6_isNumber_5 : decode cX6_isNumber 5 = .ok (.if_icmp .ne 36, 3) := by decide +kernel
theorem dX6_isNumber_8 : decode cX6_isNumber 8 = .ok (.aload_n 0, 1) := by decide +kernel
theorem dX6_isNumber_9 : decode cX6_isNumber 9 = .ok (.getfield 70, 3) := by decide +kernel
theorem dX6_isNumber_12 : decode cX6_isNumber 12 = .ok (.aload_n 0, 1) := by decide +kernel
theorem dX6_isNumber_13 : decode cX6_isNumber 13 = .ok (.getfield 73, 3) := by decide +kernel
theorem dX6_isNumber_16 : decode cX6_isNumber 16 = .ok (.isub, 1) := by decide +kernel
theorem dX6_isNumber_17 : decode cX6_isNumber 17 = .ok (.iconst 3, 1) := by decide +kernel
theorem dX6_isNumber_18 : decode cX6_isNumber 18 = .ok (.if_icmp .gt 23, 3) := by decide +kernel
theorem dX6_isNumber_21 : decode cX6_isNumber 21 = .ok (.aload_n 0, 1) := by decide +kernel
theorem dX6_isNumber_22 : decode cX6_isNumber 22 = .ok (.getfield 90, 3) := by decide +kernel
theorem dX6_isNumber_25 : decode cX6_isNumber 25 = .ok (.iload_n 1, 1) := by decide +kernel
theorem dX6_isNumber_26 : decode cX6_isNumber 26 = .ok (.if_icmp .lt 15, 3) := by decide +kernel
theorem dX6_isNumber_29 : decode cX6_isNumber 29 = .ok (.aload_n 0, 1) := by decide +kernel
theorem dX6_isNumber_30 : decode cX6_isNumber 30 = .ok (.getfield 90, 3) := by decide +kernel
theorem dX6_isNumber_33 : decode cX6_isNumber 33 = .ok (.iload_n 2, 1) := by decide +kernel
theorem dX6_isNumber_34 : decode cX6_isNumber 34 = .ok (.if_icmp .gt 7, 3) := by decide +kernel
theorem dX6_isNumber_37 : decode cX6_isNumber 37 = .ok (.iconst 1, 1) := by decide +kernel
theorem dX6_isNumber_38 : decode cX6_isNumber 38 = .ok (.goto 4, 3) := by decide +kernel
theorem dX6_isNumber_41 : decode cX6_isNumber 41 = .ok (.iconst 0, 1) := by decide +kernel
theorem dX6_isNumber_42 : decode cX6_isNumber 42 = .ok (.ireturn, 1) := by decide +kernel
set_option maxRecDepth 20000 in
theorem ggX6_numberTo_X6_isNumber : GoodIn wsX6_numberTo wsX6_isNumber := goodIn_r _ [8, 9, 10, 11, 3, 32, 33, 34, 35, 36, 37, 38, 39, 40, 41, 42, 43, 44, 45, 46, 47, 48, 49, 50, 51, 52, 53, 54, 55, 56, 57, 58, 59] (by decide +kernel) (by decide +kernel)
set_option maxRecDepth 20000 in
theorem gX6_numberTo_X6_isNumber : GoodIn wsX6_numberTo (wsV RX6 114 RX6 yX6_isNumber wsX6_isNumber) := goodIn_app (goodIn_of _ (by decide +kernel)) ggX6_numberTo_X6_isNumber
set_option maxRecDepth 20000 in
theorem ggX6_numberTo_X6_needs : GoodIn wsX6_numberTo wsX6_needs := goodIn_r _ [15, 1, 16, 17, 18, 7, 19, 10, 11, 9, 3, 20, 21, 22, 23, 24, 25, 26, 27, 28, 29, 30, 31, 32, 33, 34, 35, 36, 37, 38, 39, 40, 41, 42, 43, 44, 45, 46, 47, 48, 49, 50, 51, 52, 53, 54, 55, 56, 57, 58, 59] (by decide +kernel) (by decide +kernel)
set_option maxRecDepth 20000 in
theorem gX6_numberTo_X6_needs : GoodIn wsX6_numberTo (wsV RX6 118 RX6 yX6_needs wsX6_needs) := goodIn_app (goodIn_of _ (by decide +kernel)) ggX6_numberTo_X6_needs
theorem dX6_numberTo_0 : decode cX6_numberTo 0 = .ok (.aload_n 0, 1) := by decide +kernel
theorem dX6_numberTo_1 : decode cX6_numberTo 1 = .ok (.iload_n 2, 1) := by decide +kernel
theorem dX6_numberTo_2 : decode cX6_numberTo 2 = .ok (.iload_n 3, 1) := by decide +kernel
theorem dX6_numberTo_3 : decode cX6_numberTo 3 = .ok (.invokevirtual 114, 3) := by decide +kernel
theorem dX6_numberTo_6 : decode cX6_numberTo 6 = .ok (.istore 4, 2) := by decide +kernel
theorem dX6_numberTo_8 : decode cX6_numberTo 8 = .ok (.iload 4, 2) := by decide +kernel
theorem dX6_numberTo_10 : decode cX6_numberTo 10 = .ok (.ifCond .eq 20, 3) := by decide +kernel
theorem dX6_numberTo_13 : decode cX6_numberTo 13 = .ok (.aload_n 0, 1) := by decide +kernel
theorem dX6_numberTo_14 : decode cX6_numberTo 14 = .ok (.getfield 93, 3) := by decide +kernel
theorem dX6_numberTo_17 : decode cX6_numberTo 17 = .ok (.ifCond .ne 13, 3) := by decide +kernel
theorem dX6_numberTo_20 : decode cX6_numberTo 20 = .ok (.aload_n 0, 1) := by decide +kernel
theorem dX6_numberTo_21 : decode cX6_numberTo 21 = .ok (.getfield 7, 3) := by decide +kernel
theorem dX6_numberTo_24 : decode cX6_numberTo 24 = .ok (.iload_n 1, 1) := by decide +kernel
theorem dX6_numberTo_25 : decode cX6_numberTo 25 = .ok (.aload_n 0, 1) := by decide +kernel
theorem dX6_numberTo_26 : decode cX6_numberTo 26 = .ok (.getfield 90, 3) := by decide +kernel
theorem dX6_numberTo_29 : decode cX6_numberTo 29 = .ok (.iastore, 1) := by decide +kernel
theorem dX6_numberTo_30 : decode cX6_numberTo 30 = .ok (.aload_n 0, 1) := by decide +kernel
theorem dX6_numberTo_31 : decode cX6_numberTo 31 = .ok (.iload 4, 2) := by decide +kernel
theorem dX6_numberTo_33 : decode cX6_numberTo 33 = .ok (.invokevirtual 118, 3) := by decide +kernel
theorem dX6_numberTo_36 : decode cX6_numberTo 36 = .ok (.return_, 1) := by decide +kernel
set_option maxRecDepth 20000 in
theorem ggX6_markHere_X6_needs : GoodIn wsX6_markHere wsX6_needs := goodIn_r _ [10, 5, 11, 12, 13, 9, 14, 3, 4, 2, 15, 16, 17, 18, 19, 20, 21, 22, 23, 24, 25, 26, 27, 44, 45, 46, 47, 48, 49, 50, 51, 52, 53, 54, 55, 56, 57, 58, 59, 60, 61, 62, 63, 64, 65, 66, 67, 68, 69, 70, 71] (by decide +kernel) (by decide +kernel)
set_option maxRecDepth 20000 in
theorem gX6_markHere_X6_needs : GoodIn wsX6_markHere (wsV RX6 118 RX6 yX6_needs wsX6_needs) := goodIn_app (goodIn_of _ (by decide +kernel)) ggX6_markHere_X6_needs
set_option maxRecDepth 20000 in
theorem ggX6_markHere_X6_byteAt : GoodIn wsX6_markHere wsX6_byteAt := goodIn_r _ [19, 20, 21, 44, 45, 46, 47, 48, 49, 50, 51, 52, 53, 54, 55, 56, 57, 58, 59, 60, 61, 62, 63, 64, 65, 66, 67, 68, 69, 70, 71] (by decide +kernel) (by decide +kernel)
set_option maxRecDepth 20000 in
theorem gX6_markHere_X6_byteAt : GoodIn wsX6_markHere (wsV RX6 76 RX6 yX6_byteAt wsX6_byteAt) := goodIn_app (goodIn_of _ (by decide +kernel)) ggX6_markHere_X6_byteAt
set_option maxRecDepth 20000 in
theorem ggX6_markHere_X6_comes0 : GoodIn wsX6_markHere wsX6_comes0 := goodIn_r _ [31, 1, 44, 45, 46, 47, 48, 49, 50, 51, 52, 53, 54, 55, 56, 57, 58, 59, 60, 61, 62, 63, 64, 65, 66, 67, 68, 69, 70, 71] (by decide +kernel) (by decide +kernel)
set_option maxRecDepth 20000 in
theorem gX6_markHere_X6_comes0 : GoodIn wsX6_markHere (wsV RX6 122 RX6 yX6_comes0 wsX6_comes0) := goodIn_app (goodIn_of _ (by decide +kernel)) ggX6_markHere_X6_comes0
set_option maxRecDepth 20000 in
theorem ggX6_markHere_X6_numberTo : GoodIn wsX6_markHere wsX6_numberTo := goodIn_r _ [35, 5, 1, 15, 36, 37, 38, 9, 39, 2, 3, 4, 6, 7, 8, 10, 11, 12, 13, 14, 16, 17, 18, 19, 20, 21, 22, 23, 24, 25, 26, 27, 44, 45, 46, 47, 48, 49, 50, 51, 52, 53, 54, 55, 56, 57, 58, 59, 60, 61, 62, 63, 64, 65, 66, 67, 68, 69, 70, 71] (by decide +kernel) (by decide +kernel)
set_option maxRecDepth 20000 in
theorem gX6_markHere_X6_numberTo : GoodIn wsX6_markHere (wsV RX6 126 RX6 yX6_numberTo wsX6_numberTo) := goodIn_app (goodIn_of _ (by decide +kernel)) ggX6_markHere_X6_numberTo
set_option maxRecDepth 20000 in
theorem ggX6_markHere_X6_isName : GoodIn wsX6_markHere wsX6_isName := goodIn_r _ [43, 2, 3, 4, 16, 17, 18, 9, 19, 20, 21, 44, 45, 46, 47, 48, 49, 50, 51, 52, 53, 54, 55, 56, 57, 58, 59, 60, 61, 62, 63, 64, 65, 66, 67, 68, 69, 70, 71] (by decide +kernel) (by decide +kernel)
set_option maxRecDepth 20000 in
theorem gX6_markHere_X6_isName : GoodIn wsX6_markHere (wsV RX6 100 RX6 yX6_isName wsX6_isName) := goodIn_app (goodIn_of _ (by decide +kernel)) ggX6_markHere_X6_isName
set_option maxRecDepth 20000 in
theorem ggX6_markHere_X6_nextToken : GoodIn wsX6_markHere wsX6_nextToken := goodIn_r _ [14, 3, 4, 2, 15, 16, 17, 18, 9, 19, 20, 21, 22, 23, 24, 25, 26, 27, 44, 45, 46, 47, 48, 49, 50, 51, 52, 53, 54, 55, 56, 57, 58, 59, 60, 61, 62, 63, 64, 65, 66, 67, 68, 69, 70, 71] (by decide +kernel) (by decide +kernel)
set_option maxRecDepth 20000 in
theorem gX6_markHere_X6_nextToken : GoodIn wsX6_markHere (wsV RX6 97 RX6 yX6_nextToken wsX6_nextToken) := goodIn_app (goodIn_of _ (by decide +kernel)) ggX6_markHere_X6_nextToken
theorem dX6_markHere_0 : decode cX6_markHere 0 = .ok (.bipush 19, 2) := by decide +kernel
theorem dX6_markHere_2 : decode cX6_markHere 2 = .ok (.iconst 3, 1) := by decide +kernel
theorem dX6_markHere_3 : decode cX6_markHere 3 = .ok (.aload_n 0, 1) := by decide +kernel
theorem dX6_markHere_4 : decode cX6_markHere 4 = .ok (.getfield 7, 3) := by decide +kernel
theorem dX6_markHere_7 : decode cX6_markHere 7 = .ok (.iconst 0, 1) := by decide +kernel
theorem dX6_markHere_8 : decode cX6_markHere 8 = .ok (.iaload, 1) := by decide +kernel
theorem dX6_markHere_9 : decode cX6_markHere 9 = .ok (.imul, 1) := by decide +kernel
theorem dX6_markHere_10 : decode cX6_markHere 10 = .ok (.iadd, 1) := by decide +kernel
theorem dX6_markHere_11 : decode cX6_markHere 11 = .ok (.istore_n 2, 1) := by decide +kernel
theorem dX6_markHere_12 : decode cX6_markHere 12 = .ok (.aload_n 0, 1) := by decide +kernel
theorem dX6_markHere_13 : decode cX6_markHere 13 = .ok (.aload_n 0, 1) := by decide +kernel
theorem dX6_markHere_14 : decode cX6_markHere 14 = .ok (.getfield 7, 3) := by decide +kernel
theorem dX6_markHere_17 : decode cX6_markHere 17 = .ok (.iconst 0, 1) := by decide +kernel
theorem dX6_markHere_18 : decode cX6_markHere 18 = .ok (.iaload, 1) := by decide +kernel
theorem dX6_markHere_19 : decode cX6_markHere 19 = .ok (.bipush 8, 2) := by decide +kernel
theorem dX6_markHere_21 : decode cX6_markHere 21 = .ok (.if_icmp .ge 7, 3) := by decide +kernel
theorem dX6_markHere_24 : decode cX6_markHere 24 = .ok (.iconst 1, 1) := by decide +kernel
theorem dX6_markHere_25 : decode cX6_markHere 25 = .ok (.goto 4, 3) := by decide +kernel
theorem dX6_markHere_28 : decode cX6_markHere 28 = .ok (.iconst 0, 1) := by decide +kernel
theorem dX6_markHere_29 : decode cX6_markHere 29 = .ok (.invokevirtual 118, 3) := by decide +kernel
theorem dX6_markHere_32 : decode cX6_markHere 32 = .ok (.aload_n 0, 1) := by decide +kernel
theorem dX6_markHere_33 : decode cX6_markHere 33 = .ok (.aload_n 0, 1) := by decide +kernel
theorem dX6_markHere_34 : decode cX6_markHere 34 = .ok (.getfield 87, 3) := by decide +kernel
theorem dX6_markHere_37 : decode cX6_markHere 37 = .ok (.iconst 1, 1) := by decide +kernel
theorem dX6_markHere_38 : decode cX6_markHere 38 = .ok (.if_icmp .ne 48, 3) := by decide +kernel
theorem dX6_markHere_41 : decode cX6_markHere 41 = .ok (.aload_n 0, 1) := by decide +kernel
theorem dX6_markHere_42 : decode cX6_markHere 42 = .ok (.getfield 70, 3) := by decide +kernel
theorem dX6_markHere_45 : decode cX6_markHere 45 = .ok (.aload_n 0, 1) := by decide +kernel
theorem dX6_markHere_46 : decode cX6_markHere 46 = .ok (.getfield 73, 3) := by decide +kernel
theorem dX6_markHere_49 : decode cX6_markHere 49 = .ok (.isub, 1) := by decide +kernel
theorem dX6_markHere_50 : decode cX6_markHere 50 = .ok (.iconst 2, 1) := by decide +kernel
theorem dX6_markHere_51 : decode cX6_markHere 51 = .ok (.if_icmp .ne 35, 3) := by decide +kernel
theorem dX6_markHere_54 : decode cX6_markHere 54 = .ok (.aload_n 0, 1) := by decide +kernel
theorem dX6_markHere_55 : decode cX6_markHere 55 = .ok (.aload_n 0, 1) := by decide +kernel
theorem dX6_markHere_56 : decode cX6_markHere 56 = .ok (.getfield 73, 3) := by decide +kernel
theorem dX6_markHere_59 : decode cX6_markHere 59 = .ok (.invokevirtual 76, 3) := by decide +kernel
theorem dX6_markHere_62 : decode cX6_markHere 62 = .ok (.bipush 111, 2) := by decide +kernel
theorem dX6_markHere_64 : decode cX6_markHere 64 = .ok (.if_icmp .ne 22, 3) := by decide +kernel
theorem dX6_markHere_67 : decode cX6_markHere 67 = .ok (.aload_n 0, 1) := by decide +kernel
theorem dX6_markHere_68 : decode cX6_markHere 68 = .ok (.aload_n 0, 1) := by decide +kernel
theorem dX6_markHere_69 : decode cX6_markHere 69 = .ok (.getfield 73, 3) := by decide +kernel
theorem dX6_markHere_72 : decode cX6_markHere 72 = .ok (.iconst 1, 1) := by decide +kernel
theorem dX6_markHere_73 : decode cX6_markHere 73 = .ok (.iadd, 1) := by decide +kernel
theorem dX6_markHere_74 : decode cX6_markHere 74 = .ok (.invokevirtual 76, 3) := by decide +kernel
theorem dX6_markHere_77 : decode cX6_markHere 77 = .ok (.bipush 110, 2) := by decide +kernel
theorem dX6_markHere_79 : decode cX6_markHere 79 = .ok (.if_icmp .ne 7, 3) := by decide +kernel
theorem dX6_markHere_82 : decode cX6_markHere 82 = .ok (.iconst 1, 1) := by decide +kernel
theorem dX6_markHere_83 : decode cX6_markHere 83 = .ok (.goto 4, 3) := by decide +kernel
theorem dX6_markHere_86 : decode cX6_markHere 86 = .ok (.iconst 0, 1) := by decide +kernel
theorem dX6_markHere_87 : decode cX6_markHere 87 = .ok (.invokevirtual 118, 3) := by decide +kernel
theorem dX6_markHere_90 : decode cX6_markHere 90 = .ok (.aload_n 0, 1) := by decide +kernel
theorem dX6_markHere_91 : decode cX6_markHere 91 = .ok (.getfield 93, 3) := by decide +kernel
theorem dX6_markHere_94 : decode cX6_markHere 94 = .ok (.ifCond .ne 11, 3) := by decide +kernel
theorem dX6_markHere_97 : decode cX6_markHere 97 = .ok (.aload_n 0, 1) := by decide +kernel
theorem dX6_markHere_98 : decode cX6_markHere 98 = .ok (.iload_n 1, 1) := by decide +kernel
theorem dX6_markHere_99 : decode cX6_markHere 99 = .ok (.bipush 9, 2) := by decide +kernel
theorem dX6_markHere_101 : decode cX6_markHere 101 = .ok (.iconst 0, 1) := by decide +kernel
theorem dX6_markHere_102 : decode cX6_markHere 102 = .ok (.invokevirtual 122, 3) := by decide +kernel
theorem dX6_markHere_105 : decode cX6_markHere 105 = .ok (.aload_n 0, 1) := by decide +kernel
theorem dX6_markHere_106 : decode cX6_markHere 106 = .ok (.aload_n 0, 1) := by decide +kernel
theorem dX6_markHere_107 : decode cX6_markHere 107 = .ok (.getfield 93, 3) := by decide +kernel
theorem dX6_markHere_110 : decode cX6_markHere 110 = .ok (.ifCond .eq 7, 3) := by decide +kernel
theorem dX6_markHere_113 : decode cX6_markHere 113 = .ok (.iconst 0, 1) := by decide +kernel
theorem dX6_markHere_114 : decode cX6_markHere 114 = .ok (.goto 6, 3) := by decide +kernel
theorem dX6_markHere_117 : decode cX6_markHere 117 = .ok (.iload_n 2, 1) := by decide +kernel
theorem dX6_markHere_118 : decode cX6_markHere 118 = .ok (.iconst 2, 1) := by decide +kernel
theorem dX6_markHere_119 : decode cX6_markHere 119 = .ok (.iadd, 1) := by decide +kernel
theorem dX6_markHere_120 : decode cX6_markHere 120 = .ok (.iconst 0, 1) := by decide +kernel
theorem dX6_markHere_121 : decode cX6_markHere 121 = .ok (.bipush 7, 2) := by decide +kernel
theorem dX6_markHere_123 : decode cX6_markHere 123 = .ok (.invokevirtual 126, 3) := by decide +kernel
theorem dX6_markHere_126 : decode cX6_markHere 126 = .ok (.aload_n 0, 1) := by decide +kernel
theorem dX6_markHere_127 : decode cX6_markHere 127 = .ok (.getfield 93, 3) := by decide +kernel
theorem dX6_markHere_130 : decode cX6_markHere 130 = .ok (.ifCond .ne 33, 3) := by decide +kernel
theorem dX6_markHere_133 : decode cX6_markHere 133 = .ok (.aload_n 0, 1) := by decide +kernel
theorem dX6_markHere_134 : decode cX6_markHere 134 = .ok (.iconst 3, 1) := by decide +kernel
theorem dX6_markHere_135 : decode cX6_markHere 135 = .ok (.bipush 105, 2) := by decide +kernel
theorem dX6_markHere_137 : decode cX6_markHere 137 = .ok (.bipush 110, 2) := by decide +kernel
theorem dX6_markHere_139 : decode cX6_markHere 139 = .ok (.bipush 107, 2) := by decide +kernel
theorem dX6_markHere_141 : decode cX6_markHere 141 = .ok (.bipush 107, 2) := by decide +kernel
theorem dX6_markHere_143 : decode cX6_markHere 143 = .ok (.invokevirtual 100, 3) := by decide +kernel
theorem dX6_markHere_146 : decode cX6_markHere 146 = .ok (.ifCond .eq 17, 3) := by decide +kernel
theorem dX6_markHere_149 : decode cX6_markHere 149 = .ok (.aload_n 0, 1) := by decide +kernel
theorem dX6_markHere_150 : decode cX6_markHere 150 = .ok (.invokevirtual 97, 3) := by decide +kernel
theorem dX6_markHere_153 : decode cX6_markHere 153 = .ok (.aload_n 0, 1) := by decide +kernel
theorem dX6_markHere_154 : decode cX6_markHere 154 = .ok (.iload_n 2, 1) := by decide +kernel
theorem dX6_markHere_155 : decode cX6_markHere 155 = .ok (.iconst 1, 1) := by decide +kernel
theorem dX6_markHere_156 : decode cX6_markHere 156 = .ok (.iadd, 1) := by decide +kernel
theorem dX6_markHere_157 : decode cX6_markHere 157 = .ok (.iconst 0, 1) := by decide +kernel
theorem dX6_markHere_158 : decode cX6_markHere 158 = .ok (.bipush 99, 2) := by decide +kernel
theorem dX6_markHere_160 : decode cX6_markHere 160 = .ok (.invokevirtual 126, 3) := by decide +kernel
theorem dX6_markHere_163 : decode cX6_markHere 163 = .ok (.return_, 1) := by decide +kernel
set_option maxRecDepth 20000 in
theorem ggX6_touchHere_X6_nextToken : GoodIn wsX6_touchHere wsX6_nextToken := goodIn_r _ [10, 11, 3, 2, 1, 12, 13, 14, 9, 15, 16, 17, 18, 19, 20, 21, 22, 23, 40, 41, 42, 43, 44, 45, 46, 47, 48, 49, 50, 51, 52, 53, 54, 55, 56, 57, 58, 59, 60, 61, 62, 63, 64, 65, 66, 67] (by decide +kernel) (by decide +kernel)
set_option maxRecDepth 20000 in
theorem gX6_touchHere_X6_nextToken : GoodIn wsX6_touchHere (wsV RX6 97 RX6 yX6_nextToken wsX6_nextToken) := goodIn_app (goodIn_of _ (by decide +kernel)) ggX6_touchHere_X6_nextToken
set_option maxRecDepth 20000 in
theorem ggX6_touchHere_X6_isNumber : GoodIn wsX6_touchHere wsX6_isNumber := goodIn_r _ [27, 2, 11, 3, 1, 40, 41, 42, 43, 44, 45, 46, 47, 48, 49, 50, 51, 52, 53, 54, 55, 56, 57, 58, 59, 60, 61, 62, 63, 64, 65, 66, 67] (by decide +kernel) (by decide +kernel)
set_option maxRecDepth 20000 in
theorem gX6_touchHere_X6_isNumber : GoodIn wsX6_touchHere (wsV RX6 114 RX6 yX6_isNumber wsX6_isNumber) := goodIn_app (goodIn_of _ (by decide +kernel)) ggX6_touchHere_X6_isNumber
set_option maxRecDepth 20000 in
theorem ggX6_touchHere_X6_needs : GoodIn wsX6_touchHere wsX6_needs := goodIn_r _ [31, 4, 6, 7, 8, 9, 10, 11, 3, 2, 1, 12, 13, 14, 15, 16, 17, 18, 19, 20, 21, 22, 23, 40, 41, 42, 43, 44, 45, 46, 47, 48, 49, 50, 51, 52, 53, 54, 55, 56, 57, 58, 59, 60, 61, 62, 63, 64, 65, 66, 67] (by decide +kernel) (by decide +kernel)
set_option maxRecDepth 20000 in
theorem gX6_touchHere_X6_needs : GoodIn wsX6_touchHere (wsV RX6 118 RX6 yX6_needs wsX6_needs) := goodIn_app (goodIn_of _ (by decide +kernel)) ggX6_touchHere_X6_needs
set_option maxRecDepth 20000 in
theorem ggX6_touchHere_X6_byteAt : GoodIn wsX6_touchHere wsX6_byteAt := goodIn_r _ [15, 16, 17, 40, 41, 42, 43, 44, 45, 46, 47, 48, 49, 50, 51, 52, 53, 54, 55, 56, 57, 58, 59, 60, 61, 62, 63, 64, 65, 66, 67] (by decide +kernel) (by decide +kernel)
set_option maxRecDepth 20000 in
theorem gX6_touchHere_X6_byteAt : GoodIn wsX6_touchHere (wsV RX6 76 RX6 yX6_byteAt wsX6_byteAt) := goodIn_app (goodIn_of _ (by decide +kernel)) ggX6_touchHere_X6_byteAt
set_option maxRecDepth 20000 in
theorem ggX6_touchHere_X6_isFour : GoodIn wsX6_touchHere wsX6_isFour := goodIn_r _ [35, 36, 37, 38, 9, 39, 2, 11, 3, 12, 13, 14, 15, 16, 17, 40, 41, 42, 43, 44, 45, 46, 47, 48, 49, 50, 51, 52, 53, 54, 55, 56, 57, 58, 59, 60, 61, 62, 63, 64, 65, 66, 67] (by decide +kernel) (by decide +kernel)
set_option maxRecDepth 20000 in
theorem gX6_touchHere_X6_isFour : GoodIn wsX6_touchHere (wsV RX6 104 RX6 yX6_isFour wsX6_isFour) := goodIn_app (goodIn_of _ (by decide +kernel)) ggX6_touchHere_X6_isFour
theorem dX6_touchHere_0 : decode cX6_touchHere 0 = .ok (.aload_n 0, 1) := by decide +kernel
theorem dX6_touchHere_1 : decode cX6_touchHere 1 = .ok (.invokevirtual 97, 3) := by decide +kernel
theorem dX6_touchHere_4 : decode cX6_touchHere 4 = .ok (.aload_n 0, 1) := by decide +kernel
theorem dX6_touchHere_5 : decode cX6_touchHere 5 = .ok (.getfield 90, 3) := by decide +kernel
theorem dX6_touchHere_8 : decode cX6_touchHere 8 = .ok (.istore_n 1, 1) := by decide +kernel
theorem dX6_touchHere_9 : decode cX6_touchHere 9 = .ok (.aload_n 0, 1) := by decide +kernel
theorem dX6_touchHere_10 : decode cX6_touchHere 10 = .ok (.aload_n 0, 1) := by decide +kernel
theorem dX6_touchHere_11 : decode cX6_touchHere 11 = .ok (.iconst 0, 1) := by decide +kernel
theorem dX6_touchHere_12 : decode cX6_touchHere 12 = .ok (.iconst 5, 1) := by decide +kernel
theorem dX6_touchHere_13 : decode cX6_touchHere 13 = .ok (.invokevirtual 114, 3) := by decide +kernel
theorem dX6_touchHere_16 : decode cX6_touchHere 16 = .ok (.invokevirtual 118, 3) := by decide +kernel
theorem dX6_touchHere_19 : decode cX6_touchHere 19 = .ok (.aload_n 0, 1) := by decide +kernel
theorem dX6_touchHere_20 : decode cX6_touchHere 20 = .ok (.aload_n 0, 1) := by decide +kernel
theorem dX6_touchHere_21 : decode cX6_touchHere 21 = .ok (.getfield 87, 3) := by decide +kernel
theorem dX6_touchHere_24 : decode cX6_touchHere 24 = .ok (.iconst 3, 1) := by decide +kernel
theorem dX6_touchHere_25 : decode cX6_touchHere 25 = .ok (.if_icmp .ne 20, 3) := by decide +kernel
theorem dX6_touchHere_28 : decode cX6_touchHere 28 = .ok (.aload_n 0, 1) := by decide +kernel
theorem dX6_touchHere_29 : decode cX6_touchHere 29 = .ok (.aload_n 0, 1) := by decide +kernel
theorem dX6_touchHere_30 : decode cX6_touchHere 30 = .ok (.getfield 73, 3) := by decide +kernel
theorem dX6_touchHere_33 : decode cX6_touchHere 33 = .ok (.invokevirtual 76, 3) := by decide +kernel
theorem dX6_touchHere_36 : decode cX6_touchHere 36 = .ok (.bipush 58, 2) := by decide +kernel
theorem dX6_touchHere_38 : decode cX6_touchHere 38 = .ok (.if_icmp .ne 7, 3) := by decide +kernel
theorem dX6_touchHere_41 : decode cX6_touchHere 41 = .ok (.iconst 1, 1) := by decide +kernel
theorem dX6_touchHere_42 : decode cX6_touchHere 42 = .ok (.goto 4, 3) := by decide +kernel
theorem dX6_touchHere_45 : decode cX6_touchHere 45 = .ok (.iconst 0, 1) := by decide +kernel
theorem dX6_touchHere_46 : decode cX6_touchHere 46 = .ok (.invokevirtual 118, 3) := by decide +kernel
theorem dX6_touchHere_49 : decode cX6_touchHere 49 = .ok (.aload_n 0, 1) := by decide +kernel
theorem dX6_touchHere_50 : decode cX6_touchHere 50 = .ok (.getfield 90, 3) := by decide +kernel
theorem dX6_touchHere_53 : decode cX6_touchHere 53 = .ok (.istore_n 2, 1) := by decide +kernel
theorem dX6_touchHere_54 : decode cX6_touchHere 54 = .ok (.aload_n 0, 1) := by decide +kernel
theorem dX6_touchHere_55 : decode cX6_touchHere 55 = .ok (.aload_n 0, 1) := by decide +kernel
theorem dX6_touchHere_56 : decode cX6_touchHere 56 = .ok (.iconst 0, 1) := by decide +kernel
theorem dX6_touchHere_57 : decode cX6_touchHere 57 = .ok (.bipush 7, 2) := by decide +kernel
theorem dX6_touchHere_59 : decode cX6_touchHere 59 = .ok (.invokevirtual 114, 3) := by decide +kernel
theorem dX6_touchHere_62 : decode cX6_touchHere 62 = .ok (.invokevirtual 118, 3) := by decide +kernel
theorem dX6_touchHere_65 : decode cX6_touchHere 65 = .ok (.aload_n 0, 1) := by decide +kernel
theorem dX6_touchHere_66 : decode cX6_touchHere 66 = .ok (.aload_n 0, 1) := by decide +kernel
theorem dX6_touchHere_67 : decode cX6_touchHere 67 = .ok (.bipush 119, 2) := by decide +kernel
theorem dX6_touchHere_69 : decode cX6_touchHere 69 = .ok (.bipush 105, 2) := by decide +kernel
theorem dX6_touchHere_71 : decode cX6_touchHere 71 = .ok (.bipush 116, 2) := by decide +kernel
theorem dX6_touchHere_73 : decode cX6_touchHere 73 = .ok (.bipush 104, 2) := by decide +kernel
theorem dX6_touchHere_75 : decode cX6_touchHere 75 = .ok (.invokevirtual 104, 3) := by decide +kernel
theorem dX6_touchHere_78 : decode cX6_touchHere 78 = .ok (.invokevirtual 118, 3) := by decide +kernel
theorem dX6_touchHere_81 : decode cX6_touchHere 81 = .ok (.aload_n 0, 1) := by decide +kernel
theorem dX6_touchHere_82 : decode cX6_touchHere 82 = .ok (.getfield 90, 3) := by decide +kernel
theorem dX6_touchHere_85 : decode cX6_touchHere 85 = .ok (.istore_n 3, 1) := by decide +kernel
theorem dX6_touchHere_86 : decode cX6_touchHere 86 = .ok (.aload_n 0, 1) := by decide +kernel
theorem dX6_touchHere_87 : decode cX6_touchHere 87 = .ok (.aload_n 0, 1) := by decide +kernel
theorem dX6_touchHere_88 : decode cX6_touchHere 88 = .ok (.iconst 0, 1) := by decide +kernel
theorem dX6_touchHere_89 : decode cX6_touchHere 89 = .ok (.bipush 7, 2) := by decide +kernel
theorem dX6_touchHere_91 : decode cX6_touchHere 91 = .ok (.invokevirtual 114, 3) := by decide +kernel
theorem dX6_touchHere_94 : decode cX6_touchHere 94 = .ok (.ifCond .eq 15, 3) := by decide +kernel
theorem dX6_touchHere_97 : decode cX6_touchHere 97 = .ok (.aload_n 0, 1) := by decide +kernel
theorem dX6_touchHere_98 : decode cX6_touchHere 98 = .ok (.getfield 90, 3) := by decide +kernel
theorem dX6_touchHere_101 : decode cX6_touchHere 101 = .ok (.iload_n 2, 1) := by decide +kernel
theorem dX6_touchHere_102 : decode cX6_touchHere 102 = .ok (.if_icmp .eq 7, 3) := by decide +kernel
theorem dX6_touchHere_105 : decode cX6_touchHere 105 = .ok (.iconst 1, 1) := by decide +kernel
theorem dX6_touchHere_106 : decode cX6_touchHere 106 = .ok (.goto 4, 3) := by decide +kernel
theorem dX6_touchHere_109 : decode cX6_touchHere 109 = .ok (.iconst 0, 1) := by decide +kernel
theorem dX6_touchHere_110 : decode cX6_touchHere 110 = .ok (.invokevirtual 118, 3) := by decide +kernel
theorem dX6_touchHere_113 : decode cX6_touchHere 113 = .ok (.aload_n 0, 1) := by decide +kernel
theorem dX6_touchHere_114 : decode cX6_touchHere 114 = .ok (.getfield 93, 3) := by decide +kernel
theorem dX6_touchHere_117 : decode cX6_touchHere 117 = .ok (.ifCond .ne 27, 3) := by decide +kernel
theorem dX6_touchHere_120 : decode cX6_touchHere 120 = .ok (.aload_n 0, 1) := by decide +kernel
theorem dX6_touchHere_121 : decode cX6_touchHere 121 = .ok (.getfield 7, 3) := by decide +kernel
theorem dX6_touchHere_124 : decode cX6_touchHere 124 = .ok (.bipush 7, 2) := by decide +kernel
theorem dX6_touchHere_126 : decode cX6_touchHere 126 = .ok (.iload_n 1, 1) := by decide +kernel
theorem dX6_touchHere_127 : decode cX6_touchHere 127 = .ok (.iadd, 1) := by decide +kernel
theorem dX6_touchHere_128 : decode cX6_touchHere 128 = .ok (.iconst 1, 1) := by decide +kernel
theorem dX6_touchHere_129 : decode cX6_touchHere 129 = .ok (.iload_n 2, 1) := by decide +kernel
theorem dX6_touchHere_130 : decode cX6_touchHere 130 = .ok (.iadd, 1) := by decide +kernel
theorem dX6_touchHere_131 : decode cX6_touchHere 131 = .ok (.iastore, 1) := by decide +kernel
theorem dX6_touchHere_132 : decode cX6_touchHere 132 = .ok (.aload_n 0, 1) := by decide +kernel
theorem dX6_touchHere_133 : decode cX6_touchHere 133 = .ok (.getfield 7, 3) := by decide +kernel
theorem dX6_touchHere_136 : decode cX6_touchHere 136 = .ok (.bipush 13, 2) := by decide +kernel
theorem dX6_touchHere_138 : decode cX6_touchHere 138 = .ok (.iload_n 1, 1) := by decide +kernel
theorem dX6_touchHere_139 : decode cX6_touchHere 139 = .ok (.iadd, 1) := by decide +kernel
theorem dX6_touchHere_140 : decode cX6_touchHere 140 = .ok (.iconst 1, 1) := by decide +kernel
theorem dX6_touchHere_141 : decode cX6_touchHere 141 = .ok (.iload_n 3, 1) := by decide +kernel
theorem dX6_touchHere_142 : decode cX6_touchHere 142 = .ok (.iadd, 1) := by decide +kernel
theorem dX6_touchHere_143 : decode cX6_touchHere 143 = .ok (.iastore, 1) := by decide +kernel
theorem dX6_touchHere_144 : decode cX6_touchHere 144 = .ok (.return_, 1) := by decide +kernel
set_option maxRecDepth 20000 in
theorem ggX6_lawHere_X6_isFour : GoodIn wsX6_lawHere wsX6_isFour := goodIn_r _ [5, 6, 7, 8, 4, 9, 10, 11, 12, 13, 14, 15, 16, 17, 18, 23, 24, 25, 26, 27, 28, 29, 30, 31, 32, 33, 34, 35, 36, 37, 38, 39, 40, 41, 42, 43, 44, 45, 46, 47, 48, 49, 50] (by decide +kernel) (by decide +kernel)
set_option maxRecDepth 20000 in
theorem gX6_lawHere_X6_isFour : GoodIn wsX6_lawHere (wsV RX6 104 RX6 yX6_isFour wsX6_isFour) := goodIn_app (goodIn_of _ (by decide +kernel)) ggX6_lawHere_X6_isFour
set_option maxRecDepth 20000 in
theorem ggX6_lawHere_X6_isName : GoodIn wsX6_lawHere wsX6_isName := goodIn_r _ [9, 10, 11, 12, 13, 14, 15, 4, 16, 17, 18, 23, 24, 25, 26, 27, 28, 29, 30, 31, 32, 33, 34, 35, 36, 37, 38, 39, 40, 41, 42, 43, 44, 45, 46, 47, 48, 49, 50] (by decide +kernel) (by decide +kernel)
set_option maxRecDepth 20000 in
theorem gX6_lawHere_X6_isName : GoodIn wsX6_lawHere (wsV RX6 100 RX6 yX6_isName wsX6_isName) := goodIn_app (goodIn_of _ (by decide +kernel)) ggX6_lawHere_X6_isName
set_option maxRecDepth 20000 in
theorem ggX6_lawHere_X6_isSame : GoodIn wsX6_lawHere wsX6_isSame := goodIn_r _ [22, 12, 13, 14, 15, 4, 16, 17, 18, 23, 24, 25, 26, 27, 28, 29, 30, 31, 32, 33, 34, 35, 36, 37, 38, 39, 40, 41, 42, 43, 44, 45, 46, 47, 48, 49, 50] (by decide +kernel) (by decide +kernel)
set_option maxRecDepth 20000 in
theorem gX6_lawHere_X6_isSame : GoodIn wsX6_lawHere (wsV RX6 111 RX6 yX6_isSame wsX6_isSame) := goodIn_app (goodIn_of _ (by decide +kernel)) ggX6_lawHere_X6_isSame
theorem dX6_lawHere_0 : decode cX6_lawHere 0 = .ok (.aload_n 0, 1) := by decide +kernel
theorem dX6_lawHere_1 : decode cX6_lawHere 1 = .ok (.bipush 108, 2) := by decide +kernel
theorem dX6_lawHere_3 : decode cX6_lawHere 3 = .ok (.bipush 111, 2) := by decide +kernel
theorem dX6_lawHere_5 : decode cX6_lawHere 5 = .ok (.bipush 97, 2) := by decide +kernel
theorem dX6_lawHere_7 : decode cX6_lawHere 7 = .ok (.bipush 100, 2) := by decide +kernel
theorem dX6_lawHere_9 : decode cX6_lawHere 9 = .ok (.invokevirtual 104, 3) := by decide +kernel
theorem dX6_lawHere_12 : decode cX6_lawHere 12 = .ok (.ifCond .eq 5, 3) := by decide +kernel
theorem dX6_lawHere_15 : decode cX6_lawHere 15 = .ok (.iconst 3, 1) := by decide +kernel
theorem dX6_lawHere_16 : decode cX6_lawHere 16 = .ok (.ireturn, 1) := by decide +kernel
theorem dX6_lawHere_17 : decode cX6_lawHere 17 = .ok (.aload_n 0, 1) := by decide +kernel
theorem dX6_lawHere_18 : decode cX6_lawHere 18 = .ok (.bipush 102, 2) := by decide +kernel
theorem dX6_lawHere_20 : decode cX6_lawHere 20 = .ok (.bipush 97, 2) := by decide +kernel
theorem dX6_lawHere_22 : decode cX6_lawHere 22 = .ok (.bipush 100, 2) := by decide +kernel
theorem dX6_lawHere_24 : decode cX6_lawHere 24 = .ok (.bipush 101, 2) := by decide +kernel
theorem dX6_lawHere_26 : decode cX6_lawHere 26 = .ok (.invokevirtual 104, 3) := by decide +kernel
theorem dX6_lawHere_29 : decode cX6_lawHere 29 = .ok (.ifCond .eq 5, 3) := by decide +kernel
theorem dX6_lawHere_32 : decode cX6_lawHere 32 = .ok (.iconst 4, 1) := by decide +kernel
theorem dX6_lawHere_33 : decode cX6_lawHere 33 = .ok (.ireturn, 1) := by decide +kernel
theorem dX6_lawHere_34 : decode cX6_lawHere 34 = .ok (.aload_n 0, 1) := by decide +kernel
theorem dX6_lawHere_35 : decode cX6_lawHere 35 = .ok (.bipush 116, 2) := by decide +kernel
theorem dX6_lawHere_37 : decode cX6_lawHere 37 = .ok (.bipush 105, 2) := by decide +kernel
theorem dX6_lawHere_39 : decode cX6_lawHere 39 = .ok (.bipush 100, 2) := by decide +kernel
theorem dX6_lawHere_41 : decode cX6_lawHere 41 = .ok (.bipush 101, 2) := by decide +kernel
theorem dX6_lawHere_43 : decode cX6_lawHere 43 = .ok (.invokevirtual 104, 3) := by decide +kernel
theorem dX6_lawHere_46 : decode cX6_lawHere 46 = .ok (.ifCond .eq 5, 3) := by decide +kernel
theorem dX6_lawHere_49 : decode cX6_lawHere 49 = .ok (.iconst 5, 1) := by decide +kernel
theorem dX6_lawHere_50 : decode cX6_lawHere 50 = .ok (.ireturn, 1) := by decide +kernel
theorem dX6_lawHere_51 : decode cX6_lawHere 51 = .ok (.aload_n 0, 1) := by decide +kernel
theorem dX6_lawHere_52 : decode cX6_lawHere 52 = .ok (.bipush 6, 2) := by decide +kernel
theorem dX6_lawHere_54 : decode cX6_lawHere 54 = .ok (.bipush 99, 2) := by decide +kernel
theorem dX6_lawHere_56 : decode cX6_lawHere 56 = .ok (.bipush 104, 2) := by decide +kernel
theorem dX6_lawHere_58 : decode cX6_lawHere 58 = .ok (.bipush 97, 2) := by decide +kernel
theorem dX6_lawHere_60 : decode cX6_lawHere 60 = .ok (.bipush 101, 2) := by decide +kernel
theorem dX6_lawHere_62 : decode cX6_lawHere 62 = .ok (.invokevirtual 100, 3) := by decide +kernel
theorem dX6_lawHere_65 : decode cX6_lawHere 65 = .ok (.ifCond .eq 22, 3) := by decide +kernel
theorem dX6_lawHere_68 : decode cX6_lawHere 68 = .ok (.aload_n 0, 1) := by decide +kernel
theorem dX6_lawHere_69 : decode cX6_lawHere 69 = .ok (.iconst 2, 1) := by decide +kernel
theorem dX6_lawHere_70 : decode cX6_lawHere 70 = .ok (.bipush 97, 2) := by decide +kernel
theorem dX6_lawHere_72 : decode cX6_lawHere 72 = .ok (.bipush 110, 2) := by decide +kernel
theorem dX6_lawHere_74 : decode cX6_lawHere 74 = .ok (.bipush 99, 2) := by decide +kernel
theorem dX6_lawHere_76 : decode cX6_lawHere 76 = .ok (.invokevirtual 111, 3) := by decide +kernel
theorem dX6_lawHere_79 : decode cX6_lawHere 79 = .ok (.ifCond .eq 8, 3) := by decide +kernel
theorem dX6_lawHere_82 : decode cX6_lawHere 82 = .ok (.bipush 6, 2) := by decide +kernel
theorem dX6_lawHere_84 : decode cX6_lawHere 84 = .ok (.goto 4, 3) := by decide +kernel
theorem dX6_lawHere_87 : decode cX6_lawHere 87 = .ok (.iconst (-1), 1) := by decide +kernel
theorem dX6_lawHere_88 : decode cX6_lawHere 88 = .ok (.ireturn, 1) := by decide +kernel
theorem dX6_mostOf_0 : decode cX6_mostOf 0 = .ok (.iload_n 0, 1) := by decide +kernel
theorem dX6_mostOf_1 : decode cX6_mostOf 1 = .ok (.ifCond .ne 8, 3) := by decide +kernel
theorem dX6_mostOf_4 : decode cX6_mostOf 4 = .ok (.bipush 8, 2) := by decide +kernel
theorem dX6_mostOf_6 : decode cX6_mostOf 6 = .ok (.goto 15, 3) := by decide +kernel
theorem dX6_mostOf_9 : decode cX6_mostOf 9 = .ok (.iload_n 0, 1) := by decide +kernel
theorem dX6_mostOf_10 : decode cX6_mostOf 10 = .ok (.iconst 3, 1) := by decide +kernel
theorem dX6_mostOf_11 : decode cX6_mostOf 11 = .ok (.if_icmp .ne 8, 3) := by decide +kernel
theorem dX6_mostOf_14 : decode cX6_mostOf 14 = .ok (.bipush 99, 2) := by decide +kernel
theorem dX6_mostOf_16 : decode cX6_mostOf 16 = .ok (.goto 5, 3) := by decide +kernel
theorem dX6_mostOf_19 : decode cX6_mostOf 19 = .ok (.bipush 9, 2) := by decide +kernel
theorem dX6_mostOf_21 : decode cX6_mostOf 21 = .ok (.ireturn, 1) := by decide +kernel
set_option maxRecDepth 20000 in
theorem ggX6_itemHere_X6_kindHere : GoodIn wsX6_itemHere wsX6_kindHere := goodIn_r _ [7, 8, 9, 10, 6, 11, 12, 13, 14, 15, 1, 16, 2, 17, 18, 19, 20, 21, 22, 23, 24, 25, 26, 27, 28, 29, 30, 75, 76, 77, 78, 79, 80, 81, 82, 83, 84, 85, 86, 87, 88, 89, 90, 91, 92, 93, 94, 95, 96, 97, 98, 99, 100, 101, 102] (by decide +kernel) (by decide +kernel)
set_option maxRecDepth 20000 in
theorem gX6_itemHere_X6_kindHere : GoodIn wsX6_itemHere (wsV RX6 129 RX6 yX6_kindHere wsX6_kindHere) := goodIn_app (goodIn_of _ (by decide +kernel)) ggX6_itemHere_X6_kindHere
set_option maxRecDepth 20000 in
theorem ggX6_itemHere_X6_lawHere : GoodIn wsX6_itemHere wsX6_lawHere := goodIn_r _ [34, 8, 9, 10, 6, 11, 12, 13, 14, 15, 1, 16, 2, 17, 18, 19, 20, 21, 22, 27, 28, 29, 30, 75, 76, 77, 78, 79, 80, 81, 82, 83, 84, 85, 86, 87, 88, 89, 90, 91, 92, 93, 94, 95, 96, 97, 98, 99, 100, 101, 102] (by decide +kernel) (by decide +kernel)
set_option maxRecDepth 20000 in
theorem gX6_itemHere_X6_lawHere : GoodIn wsX6_itemHere (wsV RX6 133 RX6 yX6_lawHere wsX6_lawHere) := goodIn_app (goodIn_of _ (by decide +kernel)) ggX6_itemHere_X6_lawHere
set_option maxRecDepth 20000 in
theorem ggX6_itemHere_X6_markHere : GoodIn wsX6_itemHere wsX6_markHere := goodIn_r _ [38, 39, 1, 16, 2, 40, 41, 42, 43, 6, 44, 45, 46, 47, 48, 49, 17, 18, 19, 20, 21, 22, 50, 51, 52, 53, 54, 55, 56, 57, 58, 59, 60, 61, 62, 63, 64, 65, 66, 67, 12, 13, 14, 15, 75, 76, 77, 78, 79, 80, 81, 82, 83, 84, 85, 86, 87, 88, 89, 90, 91, 92, 93, 94, 95, 96, 97, 98, 99, 100, 101, 102] (by decide +kernel) (by decide +kernel)
set_option maxRecDepth 20000 in
theorem gX6_itemHere_X6_markHere : GoodIn wsX6_itemHere (wsV RX6 136 RX6 yX6_markHere wsX6_markHere) := goodIn_app (goodIn_of _ (by decide +kernel)) ggX6_itemHere_X6_markHere
set_option maxRecDepth 20000 in
theorem ggX6_itemHere_X6_nextToken : GoodIn wsX6_itemHere wsX6_nextToken := goodIn_r _ [48, 16, 2, 1, 49, 17, 18, 19, 6, 20, 21, 22, 50, 51, 52, 53, 54, 55, 75, 76, 77, 78, 79, 80, 81, 82, 83, 84, 85, 86, 87, 88, 89, 90, 91, 92, 93, 94, 95, 96, 97, 98, 99, 100, 101, 102] (by decide +kernel) (by decide +kernel)
set_option maxRecDepth 20000 in
theorem gX6_itemHere_X6_nextToken : GoodIn wsX6_itemHere (wsV RX6 97 RX6 yX6_nextToken wsX6_nextToken) := goodIn_app (goodIn_of _ (by decide +kernel)) ggX6_itemHere_X6_nextToken
set_option maxRecDepth 20000 in
theorem ggX6_itemHere_X6_mostOf : GoodIn wsX6_itemHere wsX6_mostOf := goodIn_r _ [70] (by decide +kernel) (by decide +kernel)
set_option maxRecDepth 20000 in
theorem gX6_itemHere_X6_mostOf : GoodIn wsX6_itemHere (va_wsS RX6 140 yX6_mostOf wsX6_mostOf) := goodIn_app (goodIn_of _ (by decide +kernel)) ggX6_itemHere_X6_mostOf
set_option maxRecDepth 20000 in
theorem ggX6_itemHere_X6_numberTo : GoodIn wsX6_itemHere wsX6_numberTo := goodIn_r _ [63, 40, 39, 49, 64, 65, 66, 6, 67, 1, 16, 2, 41, 42, 43, 44, 45, 46, 47, 48, 17, 18, 19, 20, 21, 22, 50, 51, 52, 53, 54, 55, 75, 76, 77, 78, 79, 80, 81, 82, 83, 84, 85, 86, 87, 88, 89, 90, 91, 92, 93, 94, 95, 96, 97, 98, 99, 100, 101, 102] (by decide +kernel) (by decide +kernel)
set_option maxRecDepth 20000 in
theorem gX6_itemHere_X6_numberTo : GoodIn wsX6_itemHere (wsV RX6 126 RX6 yX6_numberTo wsX6_numberTo) := goodIn_app (goodIn_of _ (by decide +kernel)) ggX6_itemHere_X6_numberTo
set_option maxRecDepth 20000 in
theorem ggX6_itemHere_X6_isFive : GoodIn wsX6_itemHere wsX6_isFive := goodIn_r _ [26, 2, 12, 13, 14, 6, 15, 1, 16, 17, 18, 19, 20, 21, 22, 75, 76, 77, 78, 79, 80, 81, 82, 83, 84, 85, 86, 87, 88, 89, 90, 91, 92, 93, 94, 95, 96, 97, 98, 99, 100, 101, 102] (by decide +kernel) (by decide +kernel)
set_option maxRecDepth 20000 in
theorem gX6_itemHere_X6_isFive : GoodIn wsX6_itemHere (wsV RX6 108 RX6 yX6_isFive wsX6_isFive) := goodIn_app (goodIn_of _ (by decide +kernel)) ggX6_itemHere_X6_isFive
set_option maxRecDepth 20000 in
theorem ggX6_itemHere_X6_touchHere : GoodIn wsX6_itemHere wsX6_touchHere := goodIn_r _ [74, 49, 1, 2, 40, 39, 45, 46, 47, 6, 48, 16, 17, 18, 19, 20, 21, 22, 50, 51, 52, 53, 54, 55, 64, 65, 66, 67, 41, 42, 43, 44, 8, 9, 10, 11, 12, 13, 14, 15, 75, 76, 77, 78, 79, 80, 81, 82, 83, 84, 85, 86, 87, 88, 89, 90, 91, 92, 93, 94, 95, 96, 97, 98, 99, 100, 101, 102] (by decide +kernel) (by decide +kernel)
set_option maxRecDepth 20000 in
theorem gX6_itemHere_X6_touchHere : GoodIn wsX6_itemHere (wsV RX6 143 RX6 yX6_touchHere wsX6_touchHere) := goodIn_app (goodIn_of _ (by decide +kernel)) ggX6_itemHere_X6_touchHere
set_option maxRecDepth 20000 in
theorem ggX6_itemHere_X6_needs : GoodIn wsX6_itemHere wsX6_needs := goodIn_r _ [44, 40, 45, 46, 47, 6, 48, 16, 2, 1, 49, 17, 18, 19, 20, 21, 22, 50, 51, 52, 53, 54, 55, 75, 76, 77, 78, 79, 80, 81, 82, 83, 84, 85, 86, 87, 88, 89, 90, 91, 92, 93, 94, 95, 96, 97, 98, 99, 100, 101, 102] (by decide +kernel) (by decide +kernel)
set_option maxRecDepth 20000 in
theorem gX6_itemHere_X6_needs : GoodIn wsX6_itemHere (wsV RX6 118 RX6 yX6_needs wsX6_needs) := goodIn_app (goodIn_of _ (by decide +kernel)) ggX6_itemHere_X6_needs
set_option maxRecDepth 20000 in
theorem ggX6_itemHere_X6_byteAt : GoodIn wsX6_itemHere wsX6_byteAt := goodIn_r _ [20, 21, 22, 75, 76, 77, 78, 79, 80, 81, 82, 83, 84, 85, 86, 87, 88, 89, 90, 91, 92, 93, 94, 95, 96, 97, 98, 99, 100, 101, 102] (by decide +kernel) (by decide +kernel)
set_option maxRecDepth 20000 in
theorem gX6_itemHere_X6_byteAt : GoodIn wsX6_itemHere (wsV RX6 76 RX6 yX6_byteAt wsX6_byteAt) := goodIn_app (goodIn_of _ (by decide +kernel)) ggX6_itemHere_X6_byteAt
theorem dX6_itemHere_0 : decode cX6_itemHere 0 = .ok (.aload_n 0, 1) := by decide +kernel
theorem dX6_itemHere_1 : decode cX6_itemHere 1 = .ok (.invokevirtual 129, 3) := by decide +kernel
theorem dX6_itemHere_4 : decode cX6_itemHere 4 = .ok (.istore_n 1, 1) := by decide +kernel
theorem dX6_itemHere_5 : decode cX6_itemHere 5 = .ok (.aload_n 0, 1) := by decide +kernel
theorem dX6_itemHere_6 : decode cX6_itemHere 6 = .ok (.invokevirtual 133, 3) := by decide +kernel
theorem dX6_itemHere_9 : decode cX6_itemHere 9 = .ok (.istore_n 2, 1) := by decide +kernel
theorem dX6_itemHere_10 : decode cX6_itemHere 10 = .ok (.iload_n 1, 1) := by decide +kernel
theorem dX6_itemHere_11 : decode cX6_itemHere 11 = .ok (.ifCond .lt 11, 3) := by decide +kernel
theorem dX6_itemHere_14 : decode cX6_itemHere 14 = .ok (.aload_n 0, 1) := by decide +kernel
theorem dX6_itemHere_15 : decode cX6_itemHere 15 = .ok (.iload_n 1, 1) := by decide +kernel
theorem dX6_itemHere_16 : decode cX6_itemHere 16 = .ok (.invokevirtual 136, 3) := by decide +kernel
theorem dX6_itemHere_19 : decode cX6_itemHere 19 = .ok (.goto 64, 3) := by decide +kernel
theorem dX6_itemHere_22 : decode cX6_itemHere 22 = .ok (.iload_n 2, 1) := by decide +kernel
theorem dX6_itemHere_23 : decode cX6_itemHere 23 = .ok (.ifCond .lt 31, 3) := by decide +kernel
theorem dX6_itemHere_26 : decode cX6_itemHere 26 = .ok (.aload_n 0, 1) := by decide +kernel
theorem dX6_itemHere_27 : decode cX6_itemHere 27 = .ok (.invokevirtual 97, 3) := by decide +kernel
theorem dX6_itemHere_30 : decode cX6_itemHere 30 = .ok (.aload_n 0, 1) := by decide +kernel
theorem dX6_itemHere_31 : decode cX6_itemHere 31 = .ok (.iload_n 2, 1) := by decide +kernel
theorem dX6_itemHere_32 : decode cX6_itemHere 32 = .ok (.iload_n 2, 1) := by decide +kernel
theorem dX6_itemHere_33 : decode cX6_itemHere 33 = .ok (.iconst 3, 1) := by decide +kernel
theorem dX6_itemHere_34 : decode cX6_itemHere 34 = .ok (.if_icmp .ne 7, 3) := by decide +kernel
theorem dX6_itemHere_37 : decode cX6_itemHere 37 = .ok (.iconst 1, 1) := by decide +kernel
theorem dX6_itemHere_38 : decode cX6_itemHere 38 = .ok (.goto 4, 3) := by decide +kernel
theorem dX6_itemHere_41 : decode cX6_itemHere 41 = .ok (.iconst 0, 1) := by decide +kernel
theorem dX6_itemHere_42 : decode cX6_itemHere 42 = .ok (.iload_n 2, 1) := by decide +kernel
theorem dX6_itemHere_43 : decode cX6_itemHere 43 = .ok (.iconst 3, 1) := by decide +kernel
theorem dX6_itemHere_44 : decode cX6_itemHere 44 = .ok (.isub, 1) := by decide +kernel
theorem dX6_itemHere_45 : decode cX6_itemHere 45 = .ok (.invokestatic 140, 3) := by decide +kernel
theorem dX6_itemHere_48 : decode cX6_itemHere 48 = .ok (.invokevirtual 126, 3) := by decide +kernel
theorem dX6_itemHere_51 : decode cX6_itemHere 51 = .ok (.goto 32, 3) := by decide +kernel
theorem dX6_itemHere_54 : decode cX6_itemHere 54 = .ok (.aload_n 0, 1) := by decide +kernel
theorem dX6_itemHere_55 : decode cX6_itemHere 55 = .ok (.bipush 116, 2) := by decide +kernel
theorem dX6_itemHere_57 : decode cX6_itemHere 57 = .ok (.bipush 111, 2) := by decide +kernel
theorem dX6_itemHere_59 : decode cX6_itemHere 59 = .ok (.bipush 117, 2) := by decide +kernel
theorem dX6_itemHere_61 : decode cX6_itemHere 61 = .ok (.bipush 99, 2) := by decide +kernel
theorem dX6_itemHere_63 : decode cX6_itemHere 63 = .ok (.bipush 104, 2) := by decide +kernel
theorem dX6_itemHere_65 : decode cX6_itemHere 65 = .ok (.invokevirtual 108, 3) := by decide +kernel
theorem dX6_itemHere_68 : decode cX6_itemHere 68 = .ok (.ifCond .eq 10, 3) := by decide +kernel
theorem dX6_itemHere_71 : decode cX6_itemHere 71 = .ok (.aload_n 0, 1) := by decide +kernel
theorem dX6_itemHere_72 : decode cX6_itemHere 72 = .ok (.invokevirtual 143, 3) := by decide +kernel
theorem dX6_itemHere_75 : decode cX6_itemHere 75 = .ok (.goto 8, 3) := by decide +kernel
theorem dX6_itemHere_78 : decode cX6_itemHere 78 = .ok (.aload_n 0, 1) := by decide +kernel
theorem dX6_itemHere_79 : decode cX6_itemHere 79 = .ok (.iconst 0, 1) := by decide +kernel
theorem dX6_itemHere_80 : decode cX6_itemHere 80 = .ok (.invokevirtual 118, 3) := by decide +kernel
theorem dX6_itemHere_83 : decode cX6_itemHere 83 = .ok (.aload_n 0, 1) := by decide +kernel
theorem dX6_itemHere_84 : decode cX6_itemHere 84 = .ok (.aload_n 0, 1) := by decide +kernel
theorem dX6_itemHere_85 : decode cX6_itemHere 85 = .ok (.getfield 87, 3) := by decide +kernel
theorem dX6_itemHere_88 : decode cX6_itemHere 88 = .ok (.iconst 3, 1) := by decide +kernel
theorem dX6_itemHere_89 : decode cX6_itemHere 89 = .ok (.if_icmp .ne 20, 3) := by decide +kernel
theorem dX6_itemHere_92 : decode cX6_itemHere 92 = .ok (.aload_n 0, 1) := by decide +kernel
theorem dX6_itemHere_93 : decode cX6_itemHere 93 = .ok (.aload_n 0, 1) := by decide +kernel
theorem dX6_itemHere_94 : decode cX6_itemHere 94 = .ok (.getfield 73, 3) := by decide +kernel
theorem dX6_itemHere_97 : decode cX6_itemHere 97 = .ok (.invokevirtual 76, 3) := by decide +kernel
theorem dX6_itemHere_100 : decode cX6_itemHere 100 = .ok (.bipush 59, 2) := by decide +kernel
theorem dX6_itemHere_102 : decode cX6_itemHere 102 = .ok (.if_icmp .ne 7, 3) := by decide +kernel
theorem dX6_itemHere_105 : decode cX6_itemHere 105 = .ok (.iconst 1, 1) := by decide +kernel
theorem dX6_itemHere_106 : decode cX6_itemHere 106 = .ok (.goto 4, 3) := by decide +kernel
theorem dX6_itemHere_109 : decode cX6_itemHere 109 = .ok (.iconst 0, 1) := by decide +kernel
theorem dX6_itemHere_110 : decode cX6_itemHere 110 = .ok (.invokevirtual 118, 3) := by decide +kernel
theorem dX6_itemHere_113 : decode cX6_itemHere 113 = .ok (.return_, 1) := by decide +kernel
set_option maxRecDepth 20000 in
theorem ggX6_port_X6_copyRow : GoodIn wsX6_port wsX6_copyRow := goodIn_r _ [12] (by decide +kernel) (by decide +kernel)
set_option maxRecDepth 20000 in
theorem gX6_port_X6_copyRow : GoodIn wsX6_port (va_wsS RX6 146 yX6_copyRow wsX6_copyRow) := goodIn_app (goodIn_of _ (by decide +kernel)) ggX6_port_X6_copyRow
set_option maxRecDepth 20000 in
theorem ggX6_port_X6_begins : GoodIn wsX6_port wsX6_begins := goodIn_r _ [16, 1, 88, 89, 90, 91, 92, 93, 94, 95, 96, 97, 98, 99, 100, 101, 102, 103, 104, 105, 106, 107, 108, 109, 110, 111, 112, 113, 114, 115] (by decide +kernel) (by decide +kernel)
set_option maxRecDepth 20000 in
theorem gX6_port_X6_begins : GoodIn wsX6_port (wsV RX6 55 RX6 yX6_begins wsX6_begins) := goodIn_app (goodIn_of _ (by decide +kernel)) ggX6_port_X6_begins
set_option maxRecDepth 20000 in
theorem ggX6_port_X6_nextToken : GoodIn wsX6_port wsX6_nextToken := goodIn_r _ [20, 3, 7, 5, 21, 22, 23, 24, 11, 25, 6, 26, 27, 28, 29, 30, 31, 32, 88, 89, 90, 91, 92, 93, 94, 95, 96, 97, 98, 99, 100, 101, 102, 103, 104, 105, 106, 107, 108, 109, 110, 111, 112, 113, 114, 115] (by decide +kernel) (by decide +kernel)
set_option maxRecDepth 20000 in
theorem gX6_port_X6_nextToken : GoodIn wsX6_port (wsV RX6 97 RX6 yX6_nextToken wsX6_nextToken) := goodIn_app (goodIn_of _ (by decide +kernel)) ggX6_port_X6_nextToken
set_option maxRecDepth 20000 in
theorem ggX6_port_X6_itemHere : GoodIn wsX6_port wsX6_itemHere := goodIn_r _ [36, 5, 7, 37, 38, 39, 11, 40, 41, 42, 43, 44, 45, 46, 47, 48, 3, 22, 23, 24, 25, 6, 26, 49, 50, 51, 52, 53, 54, 55, 56, 57, 58, 59, 60, 61, 62, 63, 64, 1, 4, 65, 66, 67, 68, 17, 18, 19, 20, 21, 27, 28, 29, 30, 31, 32, 69, 70, 71, 72, 73, 74, 75, 76, 77, 78, 79, 80, 81, 82, 83, 84, 85, 86, 87, 88, 89, 90, 91, 92, 93, 94, 95, 96, 97, 98, 99, 100, 101, 102, 103, 104, 105, 106, 107, 108, 109, 110, 111, 112, 113, 114, 115] (by decide +kernel) (by decide +kernel)
set_option maxRecDepth 20000 in
theorem gX6_port_X6_itemHere : GoodIn wsX6_port (wsV RX6 150 RX6 yX6_itemHere wsX6_itemHere) := goodIn_app (goodIn_of _ (by decide +kernel)) ggX6_port_X6_itemHere
theorem dX6_port_0 : decode cX6_port 0 = .ok (.aload_n 0, 1) := by decide +kernel
theorem dX6_port_1 : decode cX6_port 1 = .ok (.getfield 7, 3) := by decide +kernel
theorem dX6_port_4 : decode cX6_port 4 = .ok (.aload_n 0, 1) := by decide +kernel
theorem dX6_port_5 : decode cX6_port 5 = .ok (.getfield 19, 3) := by decide +kernel
theorem dX6_port_8 : decode cX6_port 8 = .ok (.invokestatic 146, 3) := by decide +kernel
theorem dX6_port_11 : decode cX6_port 11 = .ok (.aload_n 0, 1) := by decide +kernel
theorem dX6_port_12 : decode cX6_port 12 = .ok (.invokevirtual 55, 3) := by decide +kernel
theorem dX6_port_15 : decode cX6_port 15 = .ok (.aload_n 0, 1) := by decide +kernel
theorem dX6_port_16 : decode cX6_port 16 = .ok (.iconst 0, 1) := by decide +kernel
theorem dX6_port_17 : decode cX6_port 17 = .ok (.putfield 70, 3) := by decide +kernel
theorem dX6_port_20 : decode cX6_port 20 = .ok (.aload_n 0, 1) := by decide +kernel
theorem dX6_port_21 : decode cX6_port 21 = .ok (.iconst 0, 1) := by decide +kernel
theorem dX6_port_22 : decode cX6_port 22 = .ok (.putfield 93, 3) := by decide +kernel
theorem dX6_port_25 : decode cX6_port 25 = .ok (.aload_n 0, 1) := by decide +kernel
theorem dX6_port_26 : decode cX6_port 26 = .ok (.invokevirtual 97, 3) := by decide +kernel
theorem dX6_port_29 : decode cX6_port 29 = .ok (.aload_n 0, 1) := by decide +kernel
theorem dX6_port_30 : decode cX6_port 30 = .ok (.getfield 93, 3) := by decide +kernel
theorem dX6_port_33 : decode cX6_port 33 = .ok (.ifCond .ne 17, 3) := by decide +kernel
theorem dX6_port_36 : decode cX6_port 36 = .ok (.aload_n 0, 1) := by decide +kernel
theorem dX6_port_37 : decode cX6_port 37 = .ok (.getfield 87, 3) := by decide +kernel
theorem dX6_port_40 : decode cX6_port 40 = .ok (.ifCond .eq 10, 3) := by decide +kernel
theorem dX6_port_43 : decode cX6_port 43 = .ok (.aload_n 0, 1) := by decide +kernel
theorem dX6_port_44 : decode cX6_port 44 = .ok (.invokevirtual 150, 3) := by decide +kernel
theorem dX6_port_47 : decode cX6_port 47 = .ok (.goto (-18), 3) := by decide +kernel
theorem dX6_port_50 : decode cX6_port 50 = .ok (.aload_n 0, 1) := by decide +kernel
theorem dX6_port_51 : decode cX6_port 51 = .ok (.iconst 0, 1) := by decide +kernel
theorem dX6_port_52 : decode cX6_port 52 = .ok (.putfield 64, 3) := by decide +kernel
theorem dX6_port_55 : decode cX6_port 55 = .ok (.aload_n 0, 1) := by decide +kernel
theorem dX6_port_56 : decode cX6_port 56 = .ok (.getfield 93, 3) := by decide +kernel
theorem dX6_port_59 : decode cX6_port 59 = .ok (.ifCond .eq 22, 3) := by decide +kernel
theorem dX6_port_62 : decode cX6_port 62 = .ok (.aload_n 0, 1) := by decide +kernel
theorem dX6_port_63 : decode cX6_port 63 = .ok (.getfield 19, 3) := by decide +kernel
theorem dX6_port_66 : decode cX6_port 66 = .ok (.aload_n 0, 1) := by decide +kernel
theorem dX6_port_67 : decode cX6_port 67 = .ok (.getfield 7, 3) := by decide +kernel
theorem dX6_port_70 : decode cX6_port 70 = .ok (.invokestatic 146, 3) := by decide +kernel
theorem dX6_port_73 : decode cX6_port 73 = .ok (.bipush (-100), 2) := by decide +kernel
theorem dX6_port_75 : decode cX6_port 75 = .ok (.aload_n 0, 1) := by decide +kernel
theorem dX6_port_76 : decode cX6_port 76 = .ok (.getfield 73, 3) := by decide +kernel
theorem dX6_port_79 : decode cX6_port 79 = .ok (.isub, 1) := by decide +kernel
theorem dX6_port_80 : decode cX6_port 80 = .ok (.ireturn, 1) := by decide +kernel
theorem dX6_port_81 : decode cX6_port 81 = .ok (.aload_n 0, 1) := by decide +kernel
theorem dX6_port_82 : decode cX6_port 82 = .ok (.iconst 0, 1) := by decide +kernel
theorem dX6_port_83 : decode cX6_port 83 = .ok (.putfield 153, 3) := by decide +kernel
theorem dX6_port_86 : decode cX6_port 86 = .ok (.aload_n 0, 1) := by decide +kernel
theorem dX6_port_87 : decode cX6_port 87 = .ok (.getfield 7, 3) := by decide +kernel
theorem dX6_port_90 : decode cX6_port 90 = .ok (.iconst 0, 1) := by decide +kernel
theorem dX6_port_91 : decode cX6_port 91 = .ok (.iaload, 1) := by decide +kernel
theorem dX6_port_92 : decode cX6_port 92 = .ok (.ireturn, 1) := by decide +kernel
set_option maxRecDepth 20000 in
theorem ggX6_set_X6_isIn : GoodIn wsX6_set wsX6_isIn := goodIn_r _ [5] (by decide +kernel) (by decide +kernel)
set_option maxRecDepth 20000 in
theorem gX6_set_X6_isIn : GoodIn wsX6_set (va_wsS RX6 60 yX6_isIn wsX6_isIn) := goodIn_app (goodIn_of _ (by decide +kernel)) ggX6_set_X6_isIn
set_option maxRecDepth 20000 in
theorem ggX6_set_X6_mostOf : GoodIn wsX6_set wsX6_mostOf := goodIn_r _ [8] (by decide +kernel) (by decide +kernel)
set_option maxRecDepth 20000 in
theorem gX6_set_X6_mostOf : GoodIn wsX6_set (va_wsS RX6 140 yX6_mostOf wsX6_mostOf) := goodIn_app (goodIn_of _ (by decide +kernel)) ggX6_set_X6_mostOf
set_option maxRecDepth 20000 in
theorem ggX6_set_X6_becomes : GoodIn wsX6_set wsX6_becomes := goodIn_r _ [12, 13, 14, 15, 16, 17, 18, 19, 20, 21, 22, 23, 24, 25, 26, 27, 28, 29, 30, 31, 32, 33, 34, 35, 36, 37, 38, 39, 40, 41] (by decide +kernel) (by decide +kernel)
set_option maxRecDepth 20000 in
theorem gX6_set_X6_becomes : GoodIn wsX6_set (wsV RX6 158 RX6 yX6_becomes wsX6_becomes) := goodIn_app (goodIn_of _ (by decide +kernel)) ggX6_set_X6_becomes
theorem dX6_set_0 : decode cX6_set 0 = .ok (.iload_n 1, 1) := by decide +kernel
theorem dX6_set_1 : decode cX6_set 1 = .ok (.i2l, 1) := by decide +kernel
theorem dX6_set_2 : decode cX6_set 2 = .ok (.lconst 0, 1) := by decide +kernel
theorem dX6_set_3 : decode cX6_set 3 = .ok (.ldc2_w 156, 3) := by decide +kernel
theorem dX6_set_6 : decode cX6_set 6 = .ok (.invokestatic 60, 3) := by decide +kernel
theorem dX6_set_9 : decode cX6_set 9 = .ok (.ifCond .eq 36, 3) := by decide +kernel
theorem dX6_set_12 : decode cX6_set 12 = .ok (.iload_n 2, 1) := by decide +kernel
theorem dX6_set_13 : decode cX6_set 13 = .ok (.i2l, 1) := by decide +kernel
theorem dX6_set_14 : decode cX6_set 14 = .ok (.iload_n 1, 1) := by decide +kernel
theorem dX6_set_15 : decode cX6_set 15 = .ok (.ifCond .ne 7, 3) := by decide +kernel
theorem dX6_set_18 : decode cX6_set 18 = .ok (.lconst 1, 1) := by decide +kernel
theorem dX6_set_19 : decode cX6_set 19 = .ok (.goto 4, 3) := by decide +kernel
theorem dX6_set_22 : decode cX6_set 22 = .ok (.lconst 0, 1) := by decide +kernel
theorem dX6_set_23 : decode cX6_set 23 = .ok (.iload_n 1, 1) := by decide +kernel
theorem dX6_set_24 : decode cX6_set 24 = .ok (.invokestatic 140, 3) := by decide +kernel
theorem dX6_set_27 : decode cX6_set 27 = .ok (.i2l, 1) := by decide +kernel
theorem dX6_set_28 : decode cX6_set 28 = .ok (.invokestatic 60, 3) := by decide +kernel
theorem dX6_set_31 : decode cX6_set 31 = .ok (.ifCond .eq 14, 3) := by decide +kernel
theorem dX6_set_34 : decode cX6_set 34 = .ok (.aload_n 0, 1) := by decide +kernel
theorem dX6_set_35 : decode cX6_set 35 = .ok (.iconst 3, 1) := by decide +kernel
theorem dX6_set_36 : decode cX6_set 36 = .ok (.iload_n 1, 1) := by decide +kernel
theorem dX6_set_37 : decode cX6_set 37 = .ok (.iadd, 1) := by decide +kernel
theorem dX6_set_38 : decode cX6_set 38 = .ok (.iload_n 2, 1) := by decide +kernel
theorem dX6_set_39 : decode cX6_set 39 = .ok (.invokevirtual 158, 3) := by decide +kernel
theorem dX6_set_42 : decode cX6_set 42 = .ok (.goto 4, 3) := by decide +kernel
theorem dX6_set_45 : decode cX6_set 45 = .ok (.iconst (-1), 1) := by decide +kernel
theorem dX6_set_46 : decode cX6_set 46 = .ok (.ireturn, 1) := by decide +kernel
set_option maxRecDepth 20000 in
theorem ggX6_lawOf_X6_isIn : GoodIn wsX6_lawOf wsX6_isIn := goodIn_r _ [6] (by decide +kernel) (by decide +kernel)
set_option maxRecDepth 20000 in
theorem gX6_lawOf_X6_isIn : GoodIn wsX6_lawOf (va_wsS RX6 60 yX6_isIn wsX6_isIn) := goodIn_app (goodIn_of _ (by decide +kernel)) ggX6_lawOf_X6_isIn
theorem dX6_lawOf_0 : decode cX6_lawOf 0 = .ok (.iload_n 1, 1) := by decide +kernel
theorem dX6_lawOf_1 : decode cX6_lawOf 1 = .ok (.i2l, 1) := by decide +kernel
theorem dX6_lawOf_2 : decode cX6_lawOf 2 = .ok (.lconst 0, 1) := by decide +kernel
theorem dX6_lawOf_3 : decode cX6_lawOf 3 = .ok (.ldc2_w 156, 3) := by decide +kernel
theorem dX6_lawOf_6 : decode cX6_lawOf 6 = .ok (.invokestatic 60, 3) := by decide +kernel
theorem dX6_lawOf_9 : decode cX6_lawOf 9 = .ok (.ifCond .eq 14, 3) := by decide +kernel
theorem dX6_lawOf_12 : decode cX6_lawOf 12 = .ok (.aload_n 0, 1) := by decide +kernel
theorem dX6_lawOf_13 : decode cX6_lawOf 13 = .ok (.getfield 7, 3) := by decide +kernel
theorem dX6_lawOf_16 : decode cX6_lawOf 16 = .ok (.iconst 3, 1) := by decide +kernel
theorem dX6_lawOf_17 : decode cX6_lawOf 17 = .ok (.iload_n 1, 1) := by decide +kernel
theorem dX6_lawOf_18 : decode cX6_lawOf 18 = .ok (.iadd, 1) := by decide +kernel
theorem dX6_lawOf_19 : decode cX6_lawOf 19 = .ok (.iaload, 1) := by decide +kernel
theorem dX6_lawOf_20 : decode cX6_lawOf 20 = .ok (.goto 4, 3) := by decide +kernel
theorem dX6_lawOf_23 : decode cX6_lawOf 23 = .ok (.iconst (-1), 1) := by decide +kernel
theorem dX6_lawOf_24 : decode cX6_lawOf 24 = .ok (.ireturn, 1) := by decide +kernel
theorem dX6_comes0_0 : decode cX6_comes0 0 = .ok (.bipush 19, 2) := by decide +kernel
theorem dX6_comes0_2 : decode cX6_comes0 2 = .ok (.iconst 3, 1) := by decide +kernel
theorem dX6_comes0_3 : decode cX6_comes0 3 = .ok (.aload_n 0, 1) := by decide +kernel
theorem dX6_comes0_4 : decode cX6_comes0 4 = .ok (.getfield 7, 3) := by decide +kernel
theorem dX6_comes0_7 : decode cX6_comes0 7 = .ok (.iconst 0, 1) := by decide +kernel
theorem dX6_comes0_8 : decode cX6_comes0 8 = .ok (.iaload, 1) := by decide +kernel
theorem dX6_comes0_9 : decode cX6_comes0 9 = .ok (.imul, 1) := by decide +kernel
theorem dX6_comes0_10 : decode cX6_comes0 10 = .ok (.iadd, 1) := by decide +kernel
theorem dX6_comes0_11 : decode cX6_comes0 11 = .ok (.istore 4, 2) := by decide +kernel
theorem dX6_comes0_13 : decode cX6_comes0 13 = .ok (.aload_n 0, 1) := by decide +kernel
theorem dX6_comes0_14 : decode cX6_comes0 14 = .ok (.getfield 7, 3) := by decide +kernel
theorem dX6_comes0_17 : decode cX6_comes0 17 = .ok (.iload 4, 2) := by decide +kernel
theorem dX6_comes0_19 : decode cX6_comes0 19 = .ok (.iload_n 1, 1) := by decide +kernel
theorem dX6_comes0_20 : decode cX6_comes0 20 = .ok (.iastore, 1) := by decide +kernel
theorem dX6_comes0_21 : decode cX6_comes0 21 = .ok (.aload_n 0, 1) := by decide +kernel
theorem dX6_comes0_22 : decode cX6_comes0 22 = .ok (.getfield 7, 3) := by decide +kernel
theorem dX6_comes0_25 : decode cX6_comes0 25 = .ok (.iload 4, 2) := by decide +kernel
theorem dX6_comes0_27 : decode cX6_comes0 27 = .ok (.iconst 1, 1) := by decide +kernel
theorem dX6_comes0_28 : decode cX6_comes0 28 = .ok (.iadd, 1) := by decide +kernel
theorem dX6_comes0_29 : decode cX6_comes0 29 = .ok (.iload_n 2, 1) := by decide +kernel
theorem dX6_comes0_30 : decode cX6_comes0 30 = .ok (.iastore, 1) := by decide +kernel
theorem dX6_comes0_31 : decode cX6_comes0 31 = .ok (.aload_n 0, 1) := by decide +kernel
theorem dX6_comes0_32 : decode cX6_comes0 32 = .ok (.getfield 7, 3) := by decide +kernel
theorem dX6_comes0_35 : decode cX6_comes0 35 = .ok (.iload 4, 2) := by decide +kernel
theorem dX6_comes0_37 : decode cX6_comes0 37 = .ok (.iconst 2, 1) := by decide +kernel
theorem dX6_comes0_38 : decode cX6_comes0 38 = .ok (.iadd, 1) := by decide +kernel
theorem dX6_comes0_39 : decode cX6_comes0 39 = .ok (.iload_n 3, 1) := by decide +kernel
theorem dX6_comes0_40 : decode cX6_comes0 40 = .ok (.iastore, 1) := by decide +kernel
theorem dX6_comes0_41 : decode cX6_comes0 41 = .ok (.aload_n 0, 1) := by decide +kernel
theorem dX6_comes0_42 : decode cX6_comes0 42 = .ok (.getfield 7, 3) := by decide +kernel
theorem dX6_comes0_45 : decode cX6_comes0 45 = .ok (.iconst 0, 1) := by decide +kernel
theorem dX6_comes0_46 : decode cX6_comes0 46 = .ok (.dup2, 1) := by decide +kernel
theorem dX6_comes0_47 : decode cX6_comes0 47 = .ok (.iaload, 1) := by decide +kernel
theorem dX6_comes0_48 : decode cX6_comes0 48 = .ok (.iconst 1, 1) := by decide +kernel
theorem dX6_comes0_49 : decode cX6_comes0 49 = .ok (.iadd, 1) := by decide +kernel
theorem dX6_comes0_50 : decode cX6_comes0 50 = .ok (.iastore, 1) := by decide +kernel
theorem dX6_comes0_51 : decode cX6_comes0 51 = .ok (.return_, 1) := by decide +kernel
set_option maxRecDepth 20000 in
theorem ggX6_mark_X6_isIn : GoodIn wsX6_mark wsX6_isIn := goodIn_r _ [7] (by decide +kernel) (by decide +kernel)
set_option maxRecDepth 20000 in
theorem gX6_mark_X6_isIn : GoodIn wsX6_mark (va_wsS RX6 60 yX6_isIn wsX6_isIn) := goodIn_app (goodIn_of _ (by decide +kernel)) ggX6_mark_X6_isIn
set_option maxRecDepth 20000 in
theorem ggX6_mark_X6_isPerson : GoodIn wsX6_mark wsX6_isPerson := goodIn_r _ [10] (by decide +kernel) (by decide +kernel)
set_option maxRecDepth 20000 in
theorem gX6_mark_X6_isPerson : GoodIn wsX6_mark (va_wsS RX6 166 yX6_isPerson wsX6_isPerson) := goodIn_app (goodIn_of _ (by decide +kernel)) ggX6_mark_X6_isPerson
set_option maxRecDepth 20000 in
theorem ggX6_mark_X6_comes0 : GoodIn wsX6_mark wsX6_comes0 := goodIn_r _ [14, 3, 15, 16, 17, 18, 19, 20, 21, 22, 23, 24, 25, 26, 27, 28, 29, 30, 31, 32, 33, 34, 35, 36, 37, 38, 39, 40, 41, 42] (by decide +kernel) (by decide +kernel)
set_option maxRecDepth 20000 in
theorem gX6_mark_X6_comes0 : GoodIn wsX6_mark (wsV RX6 122 RX6 yX6_comes0 wsX6_comes0) := goodIn_app (goodIn_of _ (by decide +kernel)) ggX6_mark_X6_comes0
theorem dX6_mark_0 : decode cX6_mark 0 = .ok (.iload_n 1, 1) := by decide +kernel
theorem dX6_mark_1 : decode cX6_mark 1 = .ok (.i2l, 1) := by decide +kernel
theorem dX6_mark_2 : decode cX6_mark 2 = .ok (.lconst 0, 1) := by decide +kernel
theorem dX6_mark_3 : decode cX6_mark 3 = .ok (.ldc2_w 162, 3) := by decide +kernel
theorem dX6_mark_6 : decode cX6_mark 6 = .ok (.invokestatic 60, 3) := by decide +kernel
theorem dX6_mark_9 : decode cX6_mark 9 = .ok (.ifCond .eq 22, 3) := by decide +kernel
theorem dX6_mark_12 : decode cX6_mark 12 = .ok (.iload_n 2, 1) := by decide +kernel
theorem dX6_mark_13 : decode cX6_mark 13 = .ok (.i2l, 1) := by decide +kernel
theorem dX6_mark_14 : decode cX6_mark 14 = .ok (.lconst 0, 1) := by decide +kernel
theorem dX6_mark_15 : decode cX6_mark 15 = .ok (.ldc2_w 164, 3) := by decide +kernel
theorem dX6_mark_18 : decode cX6_mark 18 = .ok (.invokestatic 60, 3) := by decide +kernel
theorem dX6_mark_21 : decode cX6_mark 21 = .ok (.ifCond .eq 10, 3) := by decide +kernel
theorem dX6_mark_24 : decode cX6_mark 24 = .ok (.iload_n 3, 1) := by decide +kernel
theorem dX6_mark_25 : decode cX6_mark 25 = .ok (.invokestatic 166, 3) := by decide +kernel
theorem dX6_mark_28 : decode cX6_mark 28 = .ok (.ifCond .ne 5, 3) := by decide +kernel
theorem dX6_mark_31 : decode cX6_mark 31 = .ok (.iconst (-1), 1) := by decide +kernel
theorem dX6_mark_32 : decode cX6_mark 32 = .ok (.ireturn, 1) := by decide +kernel
theorem dX6_mark_33 : decode cX6_mark 33 = .ok (.aload_n 0, 1) := by decide +kernel
theorem dX6_mark_34 : decode cX6_mark 34 = .ok (.getfield 7, 3) := by decide +kernel
theorem dX6_mark_37 : decode cX6_mark 37 = .ok (.iconst 0, 1) := by decide +kernel
theorem dX6_mark_38 : decode cX6_mark 38 = .ok (.iaload, 1) := by decide +kernel
theorem dX6_mark_39 : decode cX6_mark 39 = .ok (.bipush 8, 2) := by decide +kernel
theorem dX6_mark_41 : decode cX6_mark 41 = .ok (.if_icmp .ne 6, 3) := by decide +kernel
theorem dX6_mark_44 : decode cX6_mark 44 = .ok (.bipush (-2), 2) := by decide +kernel
theorem dX6_mark_46 : decode cX6_mark 46 = .ok (.ireturn, 1) := by decide +kernel
theorem dX6_mark_47 : decode cX6_mark 47 = .ok (.aload_n 0, 1) := by decide +kernel
theorem dX6_mark_48 : decode cX6_mark 48 = .ok (.iload_n 1, 1) := by decide +kernel
theorem dX6_mark_49 : decode cX6_mark 49 = .ok (.iload_n 2, 1) := by decide +kernel
theorem dX6_mark_50 : decode cX6_mark 50 = .ok (.iload_n 3, 1) := by decide +kernel
theorem dX6_mark_51 : decode cX6_mark 51 = .ok (.invokevirtual 122, 3) := by decide +kernel
theorem dX6_mark_54 : decode cX6_mark 54 = .ok (.aload_n 0, 1) := by decide +kernel
theorem dX6_mark_55 : decode cX6_mark 55 = .ok (.getfield 7, 3) := by decide +kernel
theorem dX6_mark_58 : decode cX6_mark 58 = .ok (.iconst 0, 1) := by decide +kernel
theorem dX6_mark_59 : decode cX6_mark 59 = .ok (.iaload, 1) := by decide +kernel
theorem dX6_mark_60 : decode cX6_mark 60 = .ok (.iconst 1, 1) := by decide +kernel
theorem dX6_mark_61 : decode cX6_mark 61 = .ok (.isub, 1) := by decide +kernel
theorem dX6_mark_62 : decode cX6_mark 62 = .ok (.ireturn, 1) := by decide +kernel
set_option maxRecDepth 20000 in
theorem ggX6_marksOn_X6_its : GoodIn wsX6_marksOn wsX6_its := goodIn_r _ [6, 1, 7, 8, 9, 10, 11, 12, 13, 14, 15, 16, 17, 18, 19, 20, 21, 22, 23, 24, 25, 26, 27, 28, 29, 30, 31, 32, 33, 34] (by decide +kernel) (by decide +kernel)
set_option maxRecDepth 20000 in
theorem gX6_marksOn_X6_its : GoodIn wsX6_marksOn (wsV RX6 169 RX6 yX6_its wsX6_its) := goodIn_app (goodIn_of _ (by decide +kernel)) ggX6_marksOn_X6_its
theorem dX6_marksOn_0 : decode cX6_marksOn 0 = .ok (.iconst 0, 1) := by decide +kernel
theorem dX6_marksOn_1 : decode cX6_marksOn 1 = .ok (.istore_n 2, 1) := by decide +kernel
theorem dX6_marksOn_2 : decode cX6_marksOn 2 = .ok (.iconst 0, 1) := by decide +kernel
theorem dX6_marksOn_3 : decode cX6_marksOn 3 = .ok (.istore_n 3, 1) := by decide +kernel
theorem dX6_marksOn_4 : decode cX6_marksOn 4 = .ok (.iload_n 3, 1) := by decide +kernel
theorem dX6_marksOn_5 : decode cX6_marksOn 5 = .ok (.aload_n 0, 1) := by decide +kernel
theorem dX6_marksOn_6 : decode cX6_marksOn 6 = .ok (.getfield 7, 3) := by decide +kernel
theorem dX6_marksOn_9 : decode cX6_marksOn 9 = .ok (.iconst 0, 1) := by decide +kernel
theorem dX6_marksOn_10 : decode cX6_marksOn 10 = .ok (.iaload, 1) := by decide +kernel
theorem dX6_marksOn_11 : decode cX6_marksOn 11 = .ok (.if_icmp .ge 29, 3) := by decide +kernel
theorem dX6_marksOn_14 : decode cX6_marksOn 14 = .ok (.iload_n 2, 1) := by decide +kernel
theorem dX6_marksOn_15 : decode cX6_marksOn 15 = .ok (.aload_n 0, 1) := by decide +kernel
theorem dX6_marksOn_16 : decode cX6_marksOn 16 = .ok (.iload_n 3, 1) := by decide +kernel
theorem dX6_marksOn_17 : decode cX6_marksOn 17 = .ok (.iconst 2, 1) := by decide +kernel
theorem dX6_marksOn_18 : decode cX6_marksOn 18 = .ok (.invokevirtual 169, 3) := by decide +kernel
theorem dX6_marksOn_21 : decode cX6_marksOn 21 = .ok (.iload_n 1, 1) := by decide +kernel
theorem dX6_marksOn_22 : decode cX6_marksOn 22 = .ok (.if_icmp .ne 9, 3) := by decide +kernel
theorem dX6_marksOn_25 : decode cX6_marksOn 25 = .ok (.iconst 1, 1) := by decide +kernel
theorem dX6_marksOn_26 : decode cX6_marksOn 26 = .ok (.iload_n 3, 1) := by decide +kernel
theorem dX6_marksOn_27 : decode cX6_marksOn 27 = .ok (.ishl, 1) := by decide +kernel
theorem dX6_marksOn_28 : decode cX6_marksOn 28 = .ok (.goto 4, 3) := by decide +kernel
theorem dX6_marksOn_31 : decode cX6_marksOn 31 = .ok (.iconst 0, 1) := by decide +kernel
theorem dX6_marksOn_32 : decode cX6_marksOn 32 = .ok (.ior, 1) := by decide +kernel
theorem dX6_marksOn_33 : decode cX6_marksOn 33 = .ok (.istore_n 2, 1) := by decide +kernel
theorem dX6_marksOn_34 : decode cX6_marksOn 34 = .ok (.iinc 3 1, 3) := by decide +kernel
theorem dX6_marksOn_37 : decode cX6_marksOn 37 = .ok (.goto (-33), 3) := by decide +kernel
theorem dX6_marksOn_40 : decode cX6_marksOn 40 = .ok (.iload_n 2, 1) := by decide +kernel
theorem dX6_marksOn_41 : decode cX6_marksOn 41 = .ok (.ireturn, 1) := by decide +kernel
set_option maxRecDepth 20000 in
theorem ggX6_hasName_X6_its : GoodIn wsX6_hasName wsX6_its := goodIn_r _ [6, 1, 7, 8, 9, 10, 11, 12, 13, 14, 15, 16, 17, 18, 19, 20, 21, 22, 23, 24, 25, 26, 27, 28, 29, 30, 31, 32, 33, 34] (by decide +kernel) (by decide +kernel)
set_option maxRecDepth 20000 in
theorem gX6_hasName_X6_its : GoodIn wsX6_hasName (wsV RX6 169 RX6 yX6_its wsX6_its) := goodIn_app (goodIn_of _ (by decide +kernel)) ggX6_hasName_X6_its
theorem dX6_hasName_0 : decode cX6_hasName 0 = .ok (.iconst 0, 1) := by decide +kernel
theorem dX6_hasName_1 : decode cX6_hasName 1 = .ok (.istore_n 2, 1) := by decide +kernel
theorem dX6_hasName_2 : decode cX6_hasName 2 = .ok (.iconst 0, 1) := by decide +kernel
theorem dX6_hasName_3 : decode cX6_hasName 3 = .ok (.istore_n 3, 1) := by decide +kernel
theorem dX6_hasName_4 : decode cX6_hasName 4 = .ok (.iload_n 3, 1) := by decide +kernel
theorem dX6_hasName_5 : decode cX6_hasName 5 = .ok (.aload_n 0, 1) := by decide +kernel
theorem dX6_hasName_6 : decode cX6_hasName 6 = .ok (.getfield 7, 3) := by decide +kernel
theorem dX6_hasName_9 : decode cX6_hasName 9 = .ok (.iconst 0, 1) := by decide +kernel
theorem dX6_hasName_10 : decode cX6_hasName 10 = .ok (.iaload, 1) := by decide +kernel
theorem dX6_hasName_11 : decode cX6_hasName 11 = .ok (.if_icmp .ge 37, 3) := by decide +kernel
theorem dX6_hasName_14 : decode cX6_hasName 14 = .ok (.iload_n 2, 1) := by decide +kernel
theorem dX6_hasName_15 : decode cX6_hasName 15 = .ok (.aload_n 0, 1) := by decide +kernel
theorem dX6_hasName_16 : decode cX6_hasName 16 = .ok (.iload_n 3, 1) := by decide +kernel
theorem dX6_hasName_17 : decode cX6_hasName 17 = .ok (.iconst 2, 1) := by decide +kernel
theorem dX6_hasName_18 : decode cX6_hasName 18 = .ok (.invokevirtual 169, 3) := by decide +kernel
theorem dX6_hasName_21 : decode cX6_hasName 21 = .ok (.iload_n 1, 1) := by decide +kernel
theorem dX6_hasName_22 : decode cX6_hasName 22 = .ok (.if_icmp .ne 17, 3) := by decide +kernel
theorem dX6_hasName_25 : decode cX6_hasName 25 = .ok (.aload_n 0, 1) := by decide +kernel
theorem dX6_hasName_26 : decode cX6_hasName 26 = .ok (.iload_n 3, 1) := by decide +kernel
theorem dX6_hasName_27 : decode cX6_hasName 27 = .ok (.iconst 0, 1) := by decide +kernel
theorem dX6_hasName_28 : decode cX6_hasName 28 = .ok (.invokevirtual 169, 3) := by decide +kernel
theorem dX6_hasName_31 : decode cX6_hasName 31 = .ok (.iconst 5, 1) := by decide +kernel
theorem dX6_hasName_32 : decode cX6_hasName 32 = .ok (.if_icmp .ne 7, 3) := by decide +kernel
theorem dX6_hasName_35 : decode cX6_hasName 35 = .ok (.iconst 1, 1) := by decide +kernel
theorem dX6_hasName_36 : decode cX6_hasName 36 = .ok (.goto 4, 3) := by decide +kernel
theorem dX6_hasName_39 : decode cX6_hasName 39 = .ok (.iconst 0, 1) := by decide +kernel
theorem dX6_hasName_40 : decode cX6_hasName 40 = .ok (.ior, 1) := by decide +kernel
theorem dX6_hasName_41 : decode cX6_hasName 41 = .ok (.istore_n 2, 1) := by decide +kernel
theorem dX6_hasName_42 : decode cX6_hasName 42 = .ok (.iinc 3 1, 3) := by decide +kernel
theorem dX6_hasName_45 : decode cX6_hasName 45 = .ok (.goto (-41), 3) := by decide +kernel
theorem dX6_hasName_48 : decode cX6_hasName 48 = .ok (.iload_n 2, 1) := by decide +kernel
theorem dX6_hasName_49 : decode cX6_hasName 49 = .ok (.ireturn, 1) := by decide +kernel
set_option maxRecDepth 20000 in
theorem ggX6_goesTo_X6_its : GoodIn wsX6_goesTo wsX6_its := goodIn_r _ [6, 1, 18, 19, 20, 21, 22, 23, 24, 25, 26, 27, 28, 29, 30, 31, 32, 33, 34, 35, 36, 37, 38, 39, 40, 41, 42, 43, 44, 45] (by decide +kernel) (by decide +kernel)
set_option maxRecDepth 20000 in
theorem gX6_goesTo_X6_its : GoodIn wsX6_goesTo (wsV RX6 169 RX6 yX6_its wsX6_its) := goodIn_app (goodIn_of _ (by decide +kernel)) ggX6_goesTo_X6_its
set_option maxRecDepth 20000 in
theorem ggX6_goesTo_X6_marksOn : GoodIn wsX6_goesTo wsX6_marksOn := goodIn_r _ [10, 1, 2, 3, 4, 5, 6, 18, 19, 20, 21, 22, 23, 24, 25, 26, 27, 28, 29, 30, 31, 32, 33, 34, 35, 36, 37, 38, 39, 40, 41, 42, 43, 44, 45] (by decide +kernel) (by decide +kernel)
set_option maxRecDepth 20000 in
theorem gX6_goesTo_X6_marksOn : GoodIn wsX6_goesTo (wsV RX6 172 RX6 yX6_marksOn wsX6_marksOn) := goodIn_app (goodIn_of _ (by decide +kernel)) ggX6_goesTo_X6_marksOn
set_option maxRecDepth 20000 in
theorem ggX6_goesTo_X6_size : GoodIn wsX6_goesTo wsX6_size := goodIn_r _ [13] (by decide +kernel) (by decide +kernel)
set_option maxRecDepth 20000 in
theorem gX6_goesTo_X6_size : GoodIn wsX6_goesTo (va_wsS RX6 175 yX6_size wsX6_size) := goodIn_app (goodIn_of _ (by decide +kernel)) ggX6_goesTo_X6_size
set_option maxRecDepth 20000 in
theorem ggX6_goesTo_X6_hasName : GoodIn wsX6_goesTo wsX6_hasName := goodIn_r _ [17, 1, 2, 3, 4, 5, 6, 18, 19, 20, 21, 22, 23, 24, 25, 26, 27, 28, 29, 30, 31, 32, 33, 34, 35, 36, 37, 38, 39, 40, 41, 42, 43, 44, 45] (by decide +kernel) (by decide +kernel)
set_option maxRecDepth 20000 in
theorem gX6_goesTo_X6_hasName : GoodIn wsX6_goesTo (wsV RX6 178 RX6 yX6_hasName wsX6_hasName) := goodIn_app (goodIn_of _ (by decide +kernel)) ggX6_goesTo_X6_hasName
theorem dX6_goesTo_0 : decode cX6_goesTo 0 = .ok (.aload_n 0, 1) := by decide +kernel
theorem dX6_goesTo_1 : decode cX6_goesTo 1 = .ok (.iload_n 1, 1) := by decide +kernel
theorem dX6_goesTo_2 : decode cX6_goesTo 2 = .ok (.iconst 1, 1) := by decide +kernel
theorem dX6_goesTo_3 : decode cX6_goesTo 3 = .ok (.invokevirtual 169, 3) := by decide +kernel
theorem dX6_goesTo_6 : decode cX6_goesTo 6 = .ok (.ifCond .le 7, 3) := by decide +kernel
theorem dX6_goesTo_9 : decode cX6_goesTo 9 = .ok (.iconst 1, 1) := by decide +kernel
theorem dX6_goesTo_10 : decode cX6_goesTo 10 = .ok (.goto 4, 3) := by decide +kernel
theorem dX6_goesTo_13 : decode cX6_goesTo 13 = .ok (.iconst 0, 1) := by decide +kernel
theorem dX6_goesTo_14 : decode cX6_goesTo 14 = .ok (.istore_n 3, 1) := by decide +kernel
theorem dX6_goesTo_15 : decode cX6_goesTo 15 = .ok (.iload_n 3, 1) := by decide +kernel
theorem dX6_goesTo_16 : decode cX6_goesTo 16 = .ok (.ifCond .eq 24, 3) := by decide +kernel
theorem dX6_goesTo_19 : decode cX6_goesTo 19 = .ok (.aload_n 0, 1) := by decide +kernel
theorem dX6_goesTo_20 : decode cX6_goesTo 20 = .ok (.iload_n 2, 1) := by decide +kernel
theorem dX6_goesTo_21 : decode cX6_goesTo 21 = .ok (.invokevirtual 172, 3) := by decide +kernel
theorem dX6_goesTo_24 : decode cX6_goesTo 24 = .ok (.invokestatic 175, 3) := by decide +kernel
theorem dX6_goesTo_27 : decode cX6_goesTo 27 = .ok (.aload_n 0, 1) := by decide +kernel
theorem dX6_goesTo_28 : decode cX6_goesTo 28 = .ok (.getfield 7, 3) := by decide +kernel
theorem dX6_goesTo_31 : decode cX6_goesTo 31 = .ok (.iconst 3, 1) := by decide +kernel
theorem dX6_goesTo_32 : decode cX6_goesTo 32 = .ok (.iaload, 1) := by decide +kernel
theorem dX6_goesTo_33 : decode cX6_goesTo 33 = .ok (.if_icmp .ge 7, 3) := by decide +kernel
theorem dX6_goesTo_36 : decode cX6_goesTo 36 = .ok (.iconst 1, 1) := by decide +kernel
theorem dX6_goesTo_37 : decode cX6_goesTo 37 = .ok (.goto 4, 3) := by decide +kernel
theorem dX6_goesTo_40 : decode cX6_goesTo 40 = .ok (.iconst 0, 1) := by decide +kernel
theorem dX6_goesTo_41 : decode cX6_goesTo 41 = .ok (.istore 4, 2) := by decide +kernel
theorem dX6_goesTo_43 : decode cX6_goesTo 43 = .ok (.iload_n 3, 1) := by decide +kernel
theorem dX6_goesTo_44 : decode cX6_goesTo 44 = .ok (.ifCond .eq 17, 3) := by decide +kernel
theorem dX6_goesTo_47 : decode cX6_goesTo 47 = .ok (.iload_n 2, 1) := by decide +kernel
theorem dX6_goesTo_48 : decode cX6_goesTo 48 = .ok (.aload_n 0, 1) := by decide +kernel
theorem dX6_goesTo_49 : decode cX6_goesTo 49 = .ok (.iload_n 1, 1) := by decide +kernel
theorem dX6_goesTo_50 : decode cX6_goesTo 50 = .ok (.iconst 2, 1) := by decide +kernel
theorem dX6_goesTo_51 : decode cX6_goesTo 51 = .ok (.invokevirtual 169, 3) := by decide +kernel
theorem dX6_goesTo_54 : decode cX6_goesTo 54 = .ok (.if_icmp .le 7, 3) := by decide +kernel
theorem dX6_goesTo_57 : decode cX6_goesTo 57 = .ok (.iconst 1, 1) := by decide +kernel
theorem dX6_goesTo_58 : decode cX6_goesTo 58 = .ok (.goto 4, 3) := by decide +kernel
theorem dX6_goesTo_61 : decode cX6_goesTo 61 = .ok (.iconst 0, 1) := by decide +kernel
theorem dX6_goesTo_62 : decode cX6_goesTo 62 = .ok (.istore 5, 2) := by decide +kernel
theorem dX6_goesTo_64 : decode cX6_goesTo 64 = .ok (.aload_n 0, 1) := by decide +kernel
theorem dX6_goesTo_65 : decode cX6_goesTo 65 = .ok (.iload_n 1, 1) := by decide +kernel
theorem dX6_goesTo_66 : decode cX6_goesTo 66 = .ok (.iconst 0, 1) := by decide +kernel
theorem dX6_goesTo_67 : decode cX6_goesTo 67 = .ok (.invokevirtual 169, 3) := by decide +kernel
theorem dX6_goesTo_70 : decode cX6_goesTo 70 = .ok (.tableswitch 106 1 5 #[34, 37, 40, 62, 88], 34) := by decide +kernel
theorem dX6_goesTo_104 : decode cX6_goesTo 104 = .ok (.iload 4, 2) := by decide +kernel
theorem dX6_goesTo_106 : decode cX6_goesTo 106 = .ok (.ireturn, 1) := by decide +kernel
theorem dX6_goesTo_107 : decode cX6_goesTo 107 = .ok (.iload 5, 2) := by decide +kernel
theorem dX6_goesTo_109 : decode cX6_goesTo 109 = .ok (.ireturn, 1) := by decide +kernel
theorem dX6_goesTo_110 : decode cX6_goesTo 110 = .ok (.iload 4, 2) := by decide +kernel
theorem dX6_goesTo_112 : decode cX6_goesTo 112 = .ok (.ifCond .eq 18, 3) := by decide +kernel
theorem dX6_goesTo_115 : decode cX6_goesTo 115 = .ok (.aload_n 0, 1) := by decide +kernel
theorem dX6_goesTo_116 : decode cX6_goesTo 116 = .ok (.getfield 7, 3) := by decide +kernel
theorem dX6_goesTo_119 : decode cX6_goesTo 119 = .ok (.iconst 1, 1) := by decide +kernel
theorem dX6_goesTo_120 : decode cX6_goesTo 120 = .ok (.iaload, 1) := by decide +kernel
theorem dX6_goesTo_121 : decode cX6_goesTo 121 = .ok (.iconst 2, 1) := by decide +kernel
theorem dX6_goesTo_122 : decode cX6_goesTo 122 = .ok (.irem, 1) := by decide +kernel
theorem dX6_goesTo_123 : decode cX6_goesTo 123 = .ok (.ifCond .ne 7, 3) := by decide +kernel
theorem dX6_goesTo_126 : decode cX6_goesTo 126 = .ok (.iconst 1, 1) := by decide +kernel
theorem dX6_goesTo_127 : decode cX6_goesTo 127 = .ok (.goto 4, 3) := by decide +kernel
theorem dX6_goesTo_130 : decode cX6_goesTo 130 = .ok (.iconst 0, 1) := by decide +kernel
theorem dX6_goesTo_131 : decode cX6_goesTo 131 = .ok (.ireturn, 1) := by decide +kernel
theorem dX6_goesTo_132 : decode cX6_goesTo 132 = .ok (.iload 5, 2) := by decide +kernel
theorem dX6_goesTo_134 : decode cX6_goesTo 134 = .ok (.ifCond .ne 18, 3) := by decide +kernel
theorem dX6_goesTo_137 : decode cX6_goesTo 137 = .ok (.aload_n 0, 1) := by decide +kernel
theorem dX6_goesTo_138 : decode cX6_goesTo 138 = .ok (.iload_n 1, 1) := by decide +kernel
theorem dX6_goesTo_139 : decode cX6_goesTo 139 = .ok (.iconst 1, 1) := by decide +kernel
theorem dX6_goesTo_140 : decode cX6_goesTo 140 = .ok (.invokevirtual 169, 3) := by decide +kernel
theorem dX6_goesTo_143 : decode cX6_goesTo 143 = .ok (.aload_n 0, 1) := by decide +kernel
theorem dX6_goesTo_144 : decode cX6_goesTo 144 = .ok (.getfield 7, 3) := by decide +kernel
theorem dX6_goesTo_147 : decode cX6_goesTo 147 = .ok (.iconst 5, 1) := by decide +kernel
theorem dX6_goesTo_148 : decode cX6_goesTo 148 = .ok (.iaload, 1) := by decide +kernel
theorem dX6_goesTo_149 : decode cX6_goesTo 149 = .ok (.if_icmp .lt 7, 3) := by decide +kernel
theorem dX6_goesTo_152 : decode cX6_goesTo 152 = .ok (.iconst 1, 1) := by decide +kernel
theorem dX6_goesTo_153 : decode cX6_goesTo 153 = .ok (.goto 4, 3) := by decide +kernel
theorem dX6_goesTo_156 : decode cX6_goesTo 156 = .ok (.iconst 0, 1) := by decide +kernel
theorem dX6_goesTo_157 : decode cX6_goesTo 157 = .ok (.ireturn, 1) := by decide +kernel
theorem dX6_goesTo_158 : decode cX6_goesTo 158 = .ok (.iload_n 3, 1) := by decide +kernel
theorem dX6_goesTo_159 : decode cX6_goesTo 159 = .ok (.ifCond .eq 15, 3) := by decide +kernel
theorem dX6_goesTo_162 : decode cX6_goesTo 162 = .ok (.aload_n 0, 1) := by decide +kernel
theorem dX6_goesTo_163 : decode cX6_goesTo 163 = .ok (.iload_n 2, 1) := by decide +kernel
theorem dX6_goesTo_164 : decode cX6_goesTo 164 = .ok (.invokevirtual 178, 3) := by decide +kernel
theorem dX6_goesTo_167 : decode cX6_goesTo 167 = .ok (.ifCond .ne 7, 3) := by decide +kernel
theorem dX6_goesTo_170 : decode cX6_goesTo 170 = .ok (.iconst 1, 1) := by decide +kernel
theorem dX6_goesTo_171 : decode cX6_goesTo 171 = .ok (.goto 4, 3) := by decide +kernel
theorem dX6_goesTo_174 : decode cX6_goesTo 174 = .ok (.iconst 0, 1) := by decide +kernel
theorem dX6_goesTo_175 : decode cX6_goesTo 175 = .ok (.ireturn, 1) := by decide +kernel
theorem dX6_goesTo_176 : decode cX6_goesTo 176 = .ok (.iload_n 3, 1) := by decide +kernel
theorem dX6_goesTo_177 : decode cX6_goesTo 177 = .ok (.ireturn, 1) := by decide +kernel
set_option maxRecDepth 20000 in
theorem ggX6_fades_X6_its : GoodIn wsX6_fades wsX6_its := goodIn_r _ [6, 1, 7, 8, 9, 10, 11, 12, 13, 14, 15, 16, 17, 18, 19, 20, 21, 22, 23, 24, 25, 26, 27, 28, 29, 30, 31, 32, 33, 34] (by decide +kernel) (by decide +kernel)
set_option maxRecDepth 20000 in
theorem gX6_fades_X6_its : GoodIn wsX6_fades (wsV RX6 169 RX6 yX6_its wsX6_its) := goodIn_app (goodIn_of _ (by decide +kernel)) ggX6_fades_X6_its
theorem dX6_fades_0 : decode cX6_fades 0 = .ok (.aload_n 0, 1) := by decide +kernel
theorem dX6_fades_1 : decode cX6_fades 1 = .ok (.getfield 7, 3) := by decide +kernel
theorem dX6_fades_4 : decode cX6_fades 4 = .ok (.iconst 4, 1) := by decide +kernel
theorem dX6_fades_5 : decode cX6_fades 5 = .ok (.iaload, 1) := by decide +kernel
theorem dX6_fades_6 : decode cX6_fades 6 = .ok (.istore_n 2, 1) := by decide +kernel
theorem dX6_fades_7 : decode cX6_fades 7 = .ok (.aload_n 0, 1) := by decide +kernel
theorem dX6_fades_8 : decode cX6_fades 8 = .ok (.iload_n 1, 1) := by decide +kernel
theorem dX6_fades_9 : decode cX6_fades 9 = .ok (.iconst 0, 1) := by decide +kernel
theorem dX6_fades_10 : decode cX6_fades 10 = .ok (.invokevirtual 169, 3) := by decide +kernel
theorem dX6_fades_13 : decode cX6_fades 13 = .ok (.tableswitch 62 1 5 #[35, 39, 43, 49, 60], 35) := by decide +kernel
theorem dX6_fades_48 : decode cX6_fades 48 = .ok (.iload_n 2, 1) := by decide +kernel
theorem dX6_fades_49 : decode cX6_fades 49 = .ok (.iconst 1, 1) := by decide +kernel
theorem dX6_fades_50 : decode cX6_fades 50 = .ok (.iadd, 1) := by decide +kernel
theorem dX6_fades_51 : decode cX6_fades 51 = .ok (.ireturn, 1) := by decide +kernel
theorem dX6_fades_52 : decode cX6_fades 52 = .ok (.iload_n 2, 1) := by decide +kernel
theorem dX6_fades_53 : decode cX6_fades 53 = .ok (.iconst 2, 1) := by decide +kernel
theorem dX6_fades_54 : decode cX6_fades 54 = .ok (.isub, 1) := by decide +kernel
theorem dX6_fades_55 : decode cX6_fades 55 = .ok (.ireturn, 1) := by decide +kernel
theorem dX6_fades_56 : decode cX6_fades 56 = .ok (.iconst 2, 1) := by decide +kernel
theorem dX6_fades_57 : decode cX6_fades 57 = .ok (.iload_n 2, 1) := by decide +kernel
theorem dX6_fades_58 : decode cX6_fades 58 = .ok (.iconst 1, 1) := by decide +kernel
theorem dX6_fades_59 : decode cX6_fades 59 = .ok (.iadd, 1) := by decide +kernel
theorem dX6_fades_60 : decode cX6_fades 60 = .ok (.imul, 1) := by decide +kernel
theorem dX6_fades_61 : decode cX6_fades 61 = .ok (.ireturn, 1) := by decide +kernel
theorem dX6_fades_62 : decode cX6_fades 62 = .ok (.iload_n 2, 1) := by decide +kernel
theorem dX6_fades_63 : decode cX6_fades 63 = .ok (.iconst 2, 1) := by decide +kernel
theorem dX6_fades_64 : decode cX6_fades 64 = .ok (.isub, 1) := by decide +kernel
theorem dX6_fades_65 : decode cX6_fades 65 = .ok (.aload_n 0, 1) := by decide +kernel
theorem dX6_fades_66 : decode cX6_fades 66 = .ok (.getfield 7, 3) := by decide +kernel
theorem dX6_fades_69 : decode cX6_fades 69 = .ok (.iconst 5, 1) := by decide +kernel
theorem dX6_fades_70 : decode cX6_fades 70 = .ok (.iaload, 1) := by decide +kernel
theorem dX6_fades_71 : decode cX6_fades 71 = .ok (.isub, 1) := by decide +kernel
theorem dX6_fades_72 : decode cX6_fades 72 = .ok (.ireturn, 1) := by decide +kernel
theorem dX6_fades_73 : decode cX6_fades 73 = .ok (.iconst 0, 1) := by decide +kernel
theorem dX6_fades_74 : decode cX6_fades 74 = .ok (.ireturn, 1) := by decide +kernel
theorem dX6_fades_75 : decode cX6_fades 75 = .ok (.iload_n 2, 1) := by decide +kernel
theorem dX6_fades_76 : decode cX6_fades 76 = .ok (.ireturn, 1) := by decide +kernel
set_option maxRecDepth 20000 in
theorem ggX6_goingOver_X6_its : GoodIn wsX6_goingOver wsX6_its := goodIn_r _ [6, 1, 22, 23, 24, 25, 26, 27, 28, 29, 30, 31, 32, 33, 34, 35, 36, 37, 38, 39, 40, 41, 42, 43, 44, 45, 46, 47, 48, 49] (by decide +kernel) (by decide +kernel)
set_option maxRecDepth 20000 in
theorem gX6_goingOver_X6_its : GoodIn wsX6_goingOver (wsV RX6 169 RX6 yX6_its wsX6_its) := goodIn_app (goodIn_of _ (by decide +kernel)) ggX6_goingOver_X6_its
set_option maxRecDepth 20000 in
theorem ggX6_goingOver_X6_goesTo : GoodIn wsX6_goingOver wsX6_goesTo := goodIn_r _ [10, 1, 2, 3, 4, 5, 6, 11, 12, 13, 14, 15, 16, 17, 18, 19, 20, 21, 22, 23, 24, 25, 26, 27, 28, 29, 30, 31, 32, 33, 34, 35, 36, 37, 38, 39, 40, 41, 42, 43, 44, 45, 46, 47, 48, 49] (by decide +kernel) (by decide +kernel)
set_option maxRecDepth 20000 in
theorem gX6_goingOver_X6_goesTo : GoodIn wsX6_goingOver (wsV RX6 181 RX6 yX6_goesTo wsX6_goesTo) := goodIn_app (goodIn_of _ (by decide +kernel)) ggX6_goingOver_X6_goesTo
theorem dX6_goingOver_0 : decode cX6_goingOver 0 = .ok (.iconst 0, 1) := by decide +kernel
theorem dX6_goingOver_1 : decode cX6_goingOver 1 = .ok (.istore_n 3, 1) := by decide +kernel
theorem dX6_goingOver_2 : decode cX6_goingOver 2 = .ok (.iconst 0, 1) := by decide +kernel
theorem dX6_goingOver_3 : decode cX6_goingOver 3 = .ok (.istore 4, 2) := by decide +kernel
theorem dX6_goingOver_5 : decode cX6_goingOver 5 = .ok (.iload 4, 2) := by decide +kernel
theorem dX6_goingOver_7 : decode cX6_goingOver 7 = .ok (.aload_n 0, 1) := by decide +kernel
theorem dX6_goingOver_8 : decode cX6_goingOver 8 = .ok (.getfield 7, 3) := by decide +kernel
theorem dX6_goingOver_11 : decode cX6_goingOver 11 = .ok (.iconst 0, 1) := by decide +kernel
theorem dX6_goingOver_12 : decode cX6_goingOver 12 = .ok (.iaload, 1) := by decide +kernel
theorem dX6_goingOver_13 : decode cX6_goingOver 13 = .ok (.if_icmp .ge 73, 3) := by decide +kernel
theorem dX6_goingOver_16 : decode cX6_goingOver 16 = .ok (.aload_n 0, 1) := by decide +kernel
theorem dX6_goingOver_17 : decode cX6_goingOver 17 = .ok (.iload 4, 2) := by decide +kernel
theorem dX6_goingOver_19 : decode cX6_goingOver 19 = .ok (.iconst 2, 1) := by decide +kernel
theorem dX6_goingOver_20 : decode cX6_goingOver 20 = .ok (.invokevirtual 169, 3) := by decide +kernel
theorem dX6_goingOver_23 : decode cX6_goingOver 23 = .ok (.istore 5, 2) := by decide +kernel
theorem dX6_goingOver_25 : decode cX6_goingOver 25 = .ok (.iload 5, 2) := by decide +kernel
theorem dX6_goingOver_27 : decode cX6_goingOver 27 = .ok (.iload_n 1, 1) := by decide +kernel
theorem dX6_goingOver_28 : decode cX6_goingOver 28 = .ok (.if_icmp .ne 13, 3) := by decide +kernel
theorem dX6_goingOver_31 : decode cX6_goingOver 31 = .ok (.aload_n 0, 1) := by decide +kernel
theorem dX6_goingOver_32 : decode cX6_goingOver 32 = .ok (.iload 4, 2) := by decide +kernel
theorem dX6_goingOver_34 : decode cX6_goingOver 34 = .ok (.iload_n 2, 1) := by decide +kernel
theorem dX6_goingOver_35 : decode cX6_goingOver 35 = .ok (.invokevirtual 181, 3) := by decide +kernel
theorem dX6_goingOver_38 : decode cX6_goingOver 38 = .ok (.ifCond .ne 19, 3) := by decide +kernel
theorem dX6_goingOver_41 : decode cX6_goingOver 41 = .ok (.iload 5, 2) := by decide +kernel
theorem dX6_goingOver_43 : decode cX6_goingOver 43 = .ok (.iload_n 2, 1) := by decide +kernel
theorem dX6_goingOver_44 : decode cX6_goingOver 44 = .ok (.if_icmp .ne 17, 3) := by decide +kernel
theorem dX6_goingOver_47 : decode cX6_goingOver 47 = .ok (.aload_n 0, 1) := by decide +kernel
theorem dX6_goingOver_48 : decode cX6_goingOver 48 = .ok (.iload 4, 2) := by decide +kernel
theorem dX6_goingOver_50 : decode cX6_goingOver 50 = .ok (.iload_n 1, 1) := by decide +kernel
theorem dX6_goingOver_51 : decode cX6_goingOver 51 = .ok (.invokevirtual 181, 3) := by decide +kernel
theorem dX6_goingOver_54 : decode cX6_goingOver 54 = .ok (.ifCond .eq 7, 3) := by decide +kernel
theorem dX6_goingOver_57 : decode cX6_goingOver 57 = .ok (.iconst 1, 1) := by decide +kernel
theorem dX6_goingOver_58 : decode cX6_goingOver 58 = .ok (.goto 4, 3) := by decide +kernel
theorem dX6_goingOver_61 : decode cX6_goingOver 61 = .ok (.iconst 0, 1) := by decide +kernel
theorem dX6_goingOver_62 : decode cX6_goingOver 62 = .ok (.istore 6, 2) := by decide +kernel
theorem dX6_goingOver_64 : decode cX6_goingOver 64 = .ok (.iload_n 3, 1) := by decide +kernel
theorem dX6_goingOver_65 : decode cX6_goingOver 65 = .ok (.iload 6, 2) := by decide +kernel
theorem dX6_goingOver_67 : decode cX6_goingOver 67 = .ok (.ifCond .eq 10, 3) := by decide +kernel
theorem dX6_goingOver_70 : decode cX6_goingOver 70 = .ok (.iconst 1, 1) := by decide +kernel
theorem dX6_goingOver_71 : decode cX6_goingOver 71 = .ok (.iload 4, 2) := by decide +kernel
theorem dX6_goingOver_73 : decode cX6_goingOver 73 = .ok (.ishl, 1) := by decide +kernel
theorem dX6_goingOver_74 : decode cX6_goingOver 74 = .ok (.goto 4, 3) := by decide +kernel
theorem dX6_goingOver_77 : decode cX6_goingOver 77 = .ok (.iconst 0, 1) := by decide +kernel
theorem dX6_goingOver_78 : decode cX6_goingOver 78 = .ok (.ior, 1) := by decide +kernel
theorem dX6_goingOver_79 : decode cX6_goingOver 79 = .ok (.istore_n 3, 1) := by decide +kernel
theorem dX6_goingOver_80 : decode cX6_goingOver 80 = .ok (.iinc 4 1, 3) := by decide +kernel
theorem dX6_goingOver_83 : decode cX6_goingOver 83 = .ok (.goto (-78), 3) := by decide +kernel
theorem dX6_goingOver_86 : decode cX6_goingOver 86 = .ok (.iload_n 3, 1) := by decide +kernel
theorem dX6_goingOver_87 : decode cX6_goingOver 87 = .ok (.ireturn, 1) := by decide +kernel
set_option maxRecDepth 20000 in
theorem ggX6_goingNow_X6_goingOver : GoodIn wsX6_goingNow wsX6_goingOver := goodIn_r _ [6, 1, 7, 8, 9, 5, 10, 11, 12, 13, 14, 15, 16, 17, 18, 19, 20, 21, 22, 23, 24, 25, 26, 27, 28, 29, 30, 31, 32, 33, 34, 35, 36, 37, 38, 39, 40, 41, 42, 43, 44, 45, 46, 47, 48, 49, 50, 51, 52, 53] (by decide +kernel) (by decide +kernel)
set_option maxRecDepth 20000 in
theorem gX6_goingNow_X6_goingOver : GoodIn wsX6_goingNow (wsV RX6 184 RX6 yX6_goingOver wsX6_goingOver) := goodIn_app (goodIn_of _ (by decide +kernel)) ggX6_goingNow_X6_goingOver
theorem dX6_goingNow_0 : decode cX6_goingNow 0 = .ok (.aload_n 0, 1) := by decide +kernel
theorem dX6_goingNow_1 : decode cX6_goingNow 1 = .ok (.getfield 7, 3) := by decide +kernel
theorem dX6_goingNow_4 : decode cX6_goingNow 4 = .ok (.iconst 1, 1) := by decide +kernel
theorem dX6_goingNow_5 : decode cX6_goingNow 5 = .ok (.iaload, 1) := by decide +kernel
theorem dX6_goingNow_6 : decode cX6_goingNow 6 = .ok (.bipush 6, 2) := by decide +kernel
theorem dX6_goingNow_8 : decode cX6_goingNow 8 = .ok (.irem, 1) := by decide +kernel
theorem dX6_goingNow_9 : decode cX6_goingNow 9 = .ok (.istore_n 1, 1) := by decide +kernel
theorem dX6_goingNow_10 : decode cX6_goingNow 10 = .ok (.aload_n 0, 1) := by decide +kernel
theorem dX6_goingNow_11 : decode cX6_goingNow 11 = .ok (.getfield 7, 3) := by decide +kernel
theorem dX6_goingNow_14 : decode cX6_goingNow 14 = .ok (.bipush 7, 2) := by decide +kernel
theorem dX6_goingNow_16 : decode cX6_goingNow 16 = .ok (.iload_n 1, 1) := by decide +kernel
theorem dX6_goingNow_17 : decode cX6_goingNow 17 = .ok (.iadd, 1) := by decide +kernel
theorem dX6_goingNow_18 : decode cX6_goingNow 18 = .ok (.iaload, 1) := by decide +kernel
theorem dX6_goingNow_19 : decode cX6_goingNow 19 = .ok (.ifCond .ne 7, 3) := by decide +kernel
theorem dX6_goingNow_22 : decode cX6_goingNow 22 = .ok (.iconst 0, 1) := by decide +kernel
theorem dX6_goingNow_23 : decode cX6_goingNow 23 = .ok (.goto 29, 3) := by decide +kernel
theorem dX6_goingNow_26 : decode cX6_goingNow 26 = .ok (.aload_n 0, 1) := by decide +kernel
theorem dX6_goingNow_27 : decode cX6_goingNow 27 = .ok (.aload_n 0, 1) := by decide +kernel
theorem dX6_goingNow_28 : decode cX6_goingNow 28 = .ok (.getfield 7, 3) := by decide +kernel
theorem dX6_goingNow_31 : decode cX6_goingNow 31 = .ok (.bipush 7, 2) := by decide +kernel
theorem dX6_goingNow_33 : decode cX6_goingNow 33 = .ok (.iload_n 1, 1) := by decide +kernel
theorem dX6_goingNow_34 : decode cX6_goingNow 34 = .ok (.iadd, 1) := by decide +kernel
theorem dX6_goingNow_35 : decode cX6_goingNow 35 = .ok (.iaload, 1) := by decide +kernel
theorem dX6_goingNow_36 : decode cX6_goingNow 36 = .ok (.iconst 1, 1) := by decide +kernel
theorem dX6_goingNow_37 : decode cX6_goingNow 37 = .ok (.isub, 1) := by decide +kernel
theorem dX6_goingNow_38 : decode cX6_goingNow 38 = .ok (.aload_n 0, 1) := by decide +kernel
theorem dX6_goingNow_39 : decode cX6_goingNow 39 = .ok (.getfield 7, 3) := by decide +kernel
theorem dX6_goingNow_42 : decode cX6_goingNow 42 = .ok (.bipush 13, 2) := by decide +kernel
theorem dX6_goingNow_44 : decode cX6_goingNow 44 = .ok (.iload_n 1, 1) := by decide +kernel
theorem dX6_goingNow_45 : decode cX6_goingNow 45 = .ok (.iadd, 1) := by decide +kernel
theorem dX6_goingNow_46 : decode cX6_goingNow 46 = .ok (.iaload, 1) := by decide +kernel
theorem dX6_goingNow_47 : decode cX6_goingNow 47 = .ok (.iconst 1, 1) := by decide +kernel
theorem dX6_goingNow_48 : decode cX6_goingNow 48 = .ok (.isub, 1) := by decide +kernel
theorem dX6_goingNow_49 : decode cX6_goingNow 49 = .ok (.invokevirtual 184, 3) := by decide +kernel
theorem dX6_goingNow_52 : decode cX6_goingNow 52 = .ok (.ireturn, 1) := by decide +kernel
set_option maxRecDepth 20000 in
theorem ggX6_of_X6_isOne : GoodIn wsX6_of wsX6_isOne := goodIn_r _ [6, 7, 42, 43, 44, 45, 46, 47, 48, 49, 50, 51, 52, 53, 54, 55, 56, 57, 58, 59, 60, 61, 62, 63, 64, 65, 66, 67, 68, 69] (by decide +kernel) (by decide +kernel)
set_option maxRecDepth 20000 in
theorem gX6_of_X6_isOne : GoodIn wsX6_of (wsV RX6 187 RX6 yX6_isOne wsX6_isOne) := goodIn_app (goodIn_of _ (by decide +kernel)) ggX6_of_X6_isOne
set_option maxRecDepth 20000 in
theorem ggX6_of_X6_isIn : GoodIn wsX6_of wsX6_isIn := goodIn_r _ [10] (by decide +kernel) (by decide +kernel)
set_option maxRecDepth 20000 in
theorem gX6_of_X6_isIn : GoodIn wsX6_of (va_wsS RX6 60 yX6_isIn wsX6_isIn) := goodIn_app (goodIn_of _ (by decide +kernel)) ggX6_of_X6_isIn
set_option maxRecDepth 20000 in
theorem ggX6_of_X6_its : GoodIn wsX6_of wsX6_its := goodIn_r _ [14, 7, 42, 43, 44, 45, 46, 47, 48, 49, 50, 51, 52, 53, 54, 55, 56, 57, 58, 59, 60, 61, 62, 63, 64, 65, 66, 67, 68, 69] (by decide +kernel) (by decide +kernel)
set_option maxRecDepth 20000 in
theorem gX6_of_X6_its : GoodIn wsX6_of (wsV RX6 169 RX6 yX6_its wsX6_its) := goodIn_app (goodIn_of _ (by decide +kernel)) ggX6_of_X6_its
set_option maxRecDepth 20000 in
theorem ggX6_of_X6_fades : GoodIn wsX6_of wsX6_fades := goodIn_r _ [18, 7, 11, 12, 13, 5, 14, 42, 43, 44, 45, 46, 47, 48, 49, 50, 51, 52, 53, 54, 55, 56, 57, 58, 59, 60, 61, 62, 63, 64, 65, 66, 67, 68, 69] (by decide +kernel) (by decide +kernel)
set_option maxRecDepth 20000 in
theorem gX6_of_X6_fades : GoodIn wsX6_of (wsV RX6 192 RX6 yX6_fades wsX6_fades) := goodIn_app (goodIn_of _ (by decide +kernel)) ggX6_of_X6_fades
set_option maxRecDepth 20000 in
theorem ggX6_of_X6_goingNow : GoodIn wsX6_of wsX6_goingNow := goodIn_r _ [22, 7, 23, 24, 25, 5, 26, 11, 12, 13, 14, 27, 28, 29, 30, 31, 32, 33, 34, 35, 36, 37, 38, 39, 40, 41, 42, 43, 44, 45, 46, 47, 48, 49, 50, 51, 52, 53, 54, 55, 56, 57, 58, 59, 60, 61, 62, 63, 64, 65, 66, 67, 68, 69] (by decide +kernel) (by decide +kernel)
set_option maxRecDepth 20000 in
theorem gX6_of_X6_goingNow : GoodIn wsX6_of (wsV RX6 195 RX6 yX6_goingNow wsX6_goingNow) := goodIn_app (goodIn_of _ (by decide +kernel)) ggX6_of_X6_goingNow
theorem dX6_of_0 : decode cX6_of 0 = .ok (.aload_n 0, 1) := by decide +kernel
theorem dX6_of_1 : decode cX6_of 1 = .ok (.iload_n 1, 1) := by decide +kernel
theorem dX6_of_2 : decode cX6_of 2 = .ok (.invokevirtual 187, 3) := by decide +kernel
theorem dX6_of_5 : decode cX6_of 5 = .ok (.ifCond .eq 15, 3) := by decide +kernel
theorem dX6_of_8 : decode cX6_of 8 = .ok (.iload_n 2, 1) := by decide +kernel
theorem dX6_of_9 : decode cX6_of 9 = .ok (.i2l, 1) := by decide +kernel
theorem dX6_of_10 : decode cX6_of 10 = .ok (.lconst 0, 1) := by decide +kernel
theorem dX6_of_11 : decode cX6_of 11 = .ok (.ldc2_w 190, 3) := by decide +kernel
theorem dX6_of_14 : decode cX6_of 14 = .ok (.invokestatic 60, 3) := by decide +kernel
theorem dX6_of_17 : decode cX6_of 17 = .ok (.ifCond .ne 5, 3) := by decide +kernel
theorem dX6_of_20 : decode cX6_of 20 = .ok (.iconst (-1), 1) := by decide +kernel
theorem dX6_of_21 : decode cX6_of 21 = .ok (.ireturn, 1) := by decide +kernel
theorem dX6_of_22 : decode cX6_of 22 = .ok (.iload_n 2, 1) := by decide +kernel
theorem dX6_of_23 : decode cX6_of 23 = .ok (.iconst 3, 1) := by decide +kernel
theorem dX6_of_24 : decode cX6_of 24 = .ok (.if_icmp .ge 12, 3) := by decide +kernel
theorem dX6_of_27 : decode cX6_of 27 = .ok (.aload_n 0, 1) := by decide +kernel
theorem dX6_of_28 : decode cX6_of 28 = .ok (.iload_n 1, 1) := by decide +kernel
theorem dX6_of_29 : decode cX6_of 29 = .ok (.iload_n 2, 1) := by decide +kernel
theorem dX6_of_30 : decode cX6_of 30 = .ok (.invokevirtual 169, 3) := by decide +kernel
theorem dX6_of_33 : decode cX6_of 33 = .ok (.goto 28, 3) := by decide +kernel
theorem dX6_of_36 : decode cX6_of 36 = .ok (.iload_n 2, 1) := by decide +kernel
theorem dX6_of_37 : decode cX6_of 37 = .ok (.iconst 3, 1) := by decide +kernel
theorem dX6_of_38 : decode cX6_of 38 = .ok (.if_icmp .ne 15, 3) := by decide +kernel
theorem dX6_of_41 : decode cX6_of 41 = .ok (.sipush 1000, 3) := by decide +kernel
theorem dX6_of_44 : decode cX6_of 44 = .ok (.aload_n 0, 1) := by decide +kernel
theorem dX6_of_45 : decode cX6_of 45 = .ok (.iload_n 1, 1) := by decide +kernel
theorem dX6_of_46 : decode cX6_of 46 = .ok (.invokevirtual 192, 3) := by decide +kernel
theorem dX6_of_49 : decode cX6_of 49 = .ok (.iadd, 1) := by decide +kernel
theorem dX6_of_50 : decode cX6_of 50 = .ok (.goto 11, 3) := by decide +kernel
theorem dX6_of_53 : decode cX6_of 53 = .ok (.aload_n 0, 1) := by decide +kernel
theorem dX6_of_54 : decode cX6_of 54 = .ok (.invokevirtual 195, 3) := by decide +kernel
theorem dX6_of_57 : decode cX6_of 57 = .ok (.iload_n 1, 1) := by decide +kernel
theorem dX6_of_58 : decode cX6_of 58 = .ok (.ishr, 1) := by decide +kernel
theorem dX6_of_59 : decode cX6_of 59 = .ok (.iconst 1, 1) := by decide +kernel
theorem dX6_of_60 : decode cX6_of 60 = .ok (.iand, 1) := by decide +kernel
theorem dX6_of_61 : decode cX6_of 61 = .ok (.ireturn, 1) := by decide +kernel
set_option maxRecDepth 20000 in
theorem ggX6_mind_X6_isOne : GoodIn wsX6_mind wsX6_isOne := goodIn_r _ [8, 3, 16, 17, 18, 19, 20, 21, 22, 23, 24, 25, 26, 27, 28, 29, 30, 31, 32, 33, 34, 35, 36, 37, 38, 39, 40, 41, 42, 43] (by decide +kernel) (by decide +kernel)
set_option maxRecDepth 20000 in
theorem gX6_mind_X6_isOne : GoodIn wsX6_mind (wsV RX6 187 RX6 yX6_isOne wsX6_isOne) := goodIn_app (goodIn_of _ (by decide +kernel)) ggX6_mind_X6_isOne
set_option maxRecDepth 20000 in
theorem ggX6_mind_X6_isIn : GoodIn wsX6_mind wsX6_isIn := goodIn_r _ [11] (by decide +kernel) (by decide +kernel)
set_option maxRecDepth 20000 in
theorem gX6_mind_X6_isIn : GoodIn wsX6_mind (va_wsS RX6 60 yX6_isIn wsX6_isIn) := goodIn_app (goodIn_of _ (by decide +kernel)) ggX6_mind_X6_isIn
set_option maxRecDepth 20000 in
theorem ggX6_mind_X6_becomes : GoodIn wsX6_mind wsX6_becomes := goodIn_r _ [15, 3, 16, 17, 18, 19, 20, 21, 22, 23, 24, 25, 26, 27, 28, 29, 30, 31, 32, 33, 34, 35, 36, 37, 38, 39, 40, 41, 42, 43] (by decide +kernel) (by decide +kernel)
set_option maxRecDepth 20000 in
theorem gX6_mind_X6_becomes : GoodIn wsX6_mind (wsV RX6 158 RX6 yX6_becomes wsX6_becomes) := goodIn_app (goodIn_of _ (by decide +kernel)) ggX6_mind_X6_becomes
theorem dX6_mind_0 : decode cX6_mind 0 = .ok (.aload_n 0, 1) := by decide +kernel
theorem dX6_mind_1 : decode cX6_mind 1 = .ok (.iload_n 1, 1) := by decide +kernel
theorem dX6_mind_2 : decode cX6_mind 2 = .ok (.invokevirtual 187, 3) := by decide +kernel
theorem dX6_mind_5 : decode cX6_mind 5 = .ok (.ifCond .eq 27, 3) := by decide +kernel
theorem dX6_mind_8 : decode cX6_mind 8 = .ok (.iload_n 2, 1) := by decide +kernel
theorem dX6_mind_9 : decode cX6_mind 9 = .ok (.i2l, 1) := by decide +kernel
theorem dX6_mind_10 : decode cX6_mind 10 = .ok (.lconst 0, 1) := by decide +kernel
theorem dX6_mind_11 : decode cX6_mind 11 = .ok (.ldc2_w 162, 3) := by decide +kernel
theorem dX6_mind_14 : decode cX6_mind 14 = .ok (.invokestatic 60, 3) := by decide +kernel
theorem dX6_mind_17 : decode cX6_mind 17 = .ok (.ifCond .eq 15, 3) := by decide +kernel
theorem dX6_mind_20 : decode cX6_mind 20 = .ok (.iload_n 3, 1) := by decide +kernel
theorem dX6_mind_21 : decode cX6_mind 21 = .ok (.i2l, 1) := by decide +kernel
theorem dX6_mind_22 : decode cX6_mind 22 = .ok (.lconst 0, 1) := by decide +kernel
theorem dX6_mind_23 : decode cX6_mind 23 = .ok (.ldc2_w 164, 3) := by decide +kernel
theorem dX6_mind_26 : decode cX6_mind 26 = .ok (.invokestatic 60, 3) := by decide +kernel
theorem dX6_mind_29 : decode cX6_mind 29 = .ok (.ifCond .ne 5, 3) := by decide +kernel
theorem dX6_mind_32 : decode cX6_mind 32 = .ok (.iconst (-1), 1) := by decide +kernel
theorem dX6_mind_33 : decode cX6_mind 33 = .ok (.ireturn, 1) := by decide +kernel
theorem dX6_mind_34 : decode cX6_mind 34 = .ok (.aload_n 0, 1) := by decide +kernel
theorem dX6_mind_35 : decode cX6_mind 35 = .ok (.getfield 7, 3) := by decide +kernel
theorem dX6_mind_38 : decode cX6_mind 38 = .ok (.bipush 19, 2) := by decide +kernel
theorem dX6_mind_40 : decode cX6_mind 40 = .ok (.iconst 3, 1) := by decide +kernel
theorem dX6_mind_41 : decode cX6_mind 41 = .ok (.iload_n 1, 1) := by decide +kernel
theorem dX6_mind_42 : decode cX6_mind 42 = .ok (.imul, 1) := by decide +kernel
theorem dX6_mind_43 : decode cX6_mind 43 = .ok (.iadd, 1) := by decide +kernel
theorem dX6_mind_44 : decode cX6_mind 44 = .ok (.iconst 1, 1) := by decide +kernel
theorem dX6_mind_45 : decode cX6_mind 45 = .ok (.iadd, 1) := by decide +kernel
theorem dX6_mind_46 : decode cX6_mind 46 = .ok (.iload_n 3, 1) := by decide +kernel
theorem dX6_mind_47 : decode cX6_mind 47 = .ok (.iastore, 1) := by decide +kernel
theorem dX6_mind_48 : decode cX6_mind 48 = .ok (.aload_n 0, 1) := by decide +kernel
theorem dX6_mind_49 : decode cX6_mind 49 = .ok (.bipush 19, 2) := by decide +kernel
theorem dX6_mind_51 : decode cX6_mind 51 = .ok (.iconst 3, 1) := by decide +kernel
theorem dX6_mind_52 : decode cX6_mind 52 = .ok (.iload_n 1, 1) := by decide +kernel
theorem dX6_mind_53 : decode cX6_mind 53 = .ok (.imul, 1) := by decide +kernel
theorem dX6_mind_54 : decode cX6_mind 54 = .ok (.iadd, 1) := by decide +kernel
theorem dX6_mind_55 : decode cX6_mind 55 = .ok (.iload_n 2, 1) := by decide +kernel
theorem dX6_mind_56 : decode cX6_mind 56 = .ok (.invokevirtual 158, 3) := by decide +kernel
theorem dX6_mind_59 : decode cX6_mind 59 = .ok (.ireturn, 1) := by decide +kernel
set_option maxRecDepth 20000 in
theorem ggX6_move_X6_isOne : GoodIn wsX6_move wsX6_isOne := goodIn_r _ [5, 6, 14, 15, 16, 17, 18, 19, 20, 21, 22, 23, 24, 25, 26, 27, 28, 29, 30, 31, 32, 33, 34, 35, 36, 37, 38, 39, 40, 41] (by decide +kernel) (by decide +kernel)
set_option maxRecDepth 20000 in
theorem gX6_move_X6_isOne : GoodIn wsX6_move (wsV RX6 187 RX6 yX6_isOne wsX6_isOne) := goodIn_app (goodIn_of _ (by decide +kernel)) ggX6_move_X6_isOne
set_option maxRecDepth 20000 in
theorem ggX6_move_X6_isPerson : GoodIn wsX6_move wsX6_isPerson := goodIn_r _ [9] (by decide +kernel) (by decide +kernel)
set_option maxRecDepth 20000 in
theorem gX6_move_X6_isPerson : GoodIn wsX6_move (va_wsS RX6 166 yX6_isPerson wsX6_isPerson) := goodIn_app (goodIn_of _ (by decide +kernel)) ggX6_move_X6_isPerson
set_option maxRecDepth 20000 in
theorem ggX6_move_X6_becomes : GoodIn wsX6_move wsX6_becomes := goodIn_r _ [13, 6, 14, 15, 16, 17, 18, 19, 20, 21, 22, 23, 24, 25, 26, 27, 28, 29, 30, 31, 32, 33, 34, 35, 36, 37, 38, 39, 40, 41] (by decide +kernel) (by decide +kernel)
set_option maxRecDepth 20000 in
theorem gX6_move_X6_becomes : GoodIn wsX6_move (wsV RX6 158 RX6 yX6_becomes wsX6_becomes) := goodIn_app (goodIn_of _ (by decide +kernel)) ggX6_move_X6_becomes
theorem dX6_move_0 : decode cX6_move 0 = .ok (.aload_n 0, 1) := by decide +kernel
theorem dX6_move_1 : decode cX6_move 1 = .ok (.iload_n 1, 1) := by decide +kernel
theorem dX6_move_2 : decode cX6_move 2 = .ok (.invokevirtual 187, 3) := by decide +kernel
theorem dX6_move_5 : decode cX6_move 5 = .ok (.ifCond .eq 26, 3) := by decide +kernel
theorem dX6_move_8 : decode cX6_move 8 = .ok (.iload_n 2, 1) := by decide +kernel
theorem dX6_move_9 : decode cX6_move 9 = .ok (.invokestatic 166, 3) := by decide +kernel
theorem dX6_move_12 : decode cX6_move 12 = .ok (.ifCond .eq 19, 3) := by decide +kernel
theorem dX6_move_15 : decode cX6_move 15 = .ok (.aload_n 0, 1) := by decide +kernel
theorem dX6_move_16 : decode cX6_move 16 = .ok (.bipush 19, 2) := by decide +kernel
theorem dX6_move_18 : decode cX6_move 18 = .ok (.iconst 3, 1) := by decide +kernel
theorem dX6_move_19 : decode cX6_move 19 = .ok (.iload_n 1, 1) := by decide +kernel
theorem dX6_move_20 : decode cX6_move 20 = .ok (.imul, 1) := by decide +kernel
theorem dX6_move_21 : decode cX6_move 21 = .ok (.iadd, 1) := by decide +kernel
theorem dX6_move_22 : decode cX6_move 22 = .ok (.iconst 2, 1) := by decide +kernel
theorem dX6_move_23 : decode cX6_move 23 = .ok (.iadd, 1) := by decide +kernel
theorem dX6_move_24 : decode cX6_move 24 = .ok (.iload_n 2, 1) := by decide +kernel
theorem dX6_move_25 : decode cX6_move 25 = .ok (.invokevirtual 158, 3) := by decide +kernel
theorem dX6_move_28 : decode cX6_move 28 = .ok (.goto 4, 3) := by decide +kernel
theorem dX6_move_31 : decode cX6_move 31 = .ok (.iconst (-1), 1) := by decide +kernel
theorem dX6_move_32 : decode cX6_move 32 = .ok (.ireturn, 1) := by decide +kernel
set_option maxRecDepth 20000 in
theorem ggX6_touch_X6_isRest : GoodIn wsX6_touch wsX6_isRest := goodIn_r _ [5] (by decide +kernel) (by decide +kernel)
set_option maxRecDepth 20000 in
theorem gX6_touch_X6_isRest : GoodIn wsX6_touch (va_wsS RX6 198 yX6_isRest wsX6_isRest) := goodIn_app (goodIn_of _ (by decide +kernel)) ggX6_touch_X6_isRest
set_option maxRecDepth 20000 in
theorem ggX6_touch_X6_isPerson : GoodIn wsX6_touch wsX6_isPerson := goodIn_r _ [8] (by decide +kernel) (by decide +kernel)
set_option maxRecDepth 20000 in
theorem gX6_touch_X6_isPerson : GoodIn wsX6_touch (va_wsS RX6 166 yX6_isPerson wsX6_isPerson) := goodIn_app (goodIn_of _ (by decide +kernel)) ggX6_touch_X6_isPerson
theorem dX6_touch_0 : decode cX6_touch 0 = .ok (.iload_n 1, 1) := by decide +kernel
theorem dX6_touch_1 : decode cX6_touch 1 = .ok (.invokestatic 198, 3) := by decide +kernel
theorem dX6_touch_4 : decode cX6_touch 4 = .ok (.ifCond .eq 22, 3) := by decide +kernel
theorem dX6_touch_7 : decode cX6_touch 7 = .ok (.iload_n 2, 1) := by decide +kernel
theorem dX6_touch_8 : decode cX6_touch 8 = .ok (.invokestatic 166, 3) := by decide +kernel
theorem dX6_touch_11 : decode cX6_touch 11 = .ok (.ifCond .eq 15, 3) := by decide +kernel
theorem dX6_touch_14 : decode cX6_touch 14 = .ok (.iload_n 3, 1) := by decide +kernel
theorem dX6_touch_15 : decode cX6_touch 15 = .ok (.invokestatic 166, 3) := by decide +kernel
theorem dX6_touch_18 : decode cX6_touch 18 = .ok (.ifCond .eq 8, 3) := by decide +kernel
theorem dX6_touch_21 : decode cX6_touch 21 = .ok (.iload_n 2, 1) := by decide +kernel
theorem dX6_touch_22 : decode cX6_touch 22 = .ok (.iload_n 3, 1) := by decide +kernel
theorem dX6_touch_23 : decode cX6_touch 23 = .ok (.if_icmp .ne 5, 3) := by decide +kernel
theorem dX6_touch_26 : decode cX6_touch 26 = .ok (.iconst (-1), 1) := by decide +kernel
theorem dX6_touch_27 : decode cX6_touch 27 = .ok (.ireturn, 1) := by decide +kernel
theorem dX6_touch_28 : decode cX6_touch 28 = .ok (.aload_n 0, 1) := by decide +kernel
theorem dX6_touch_29 : decode cX6_touch 29 = .ok (.getfield 7, 3) := by decide +kernel
theorem dX6_touch_32 : decode cX6_touch 32 = .ok (.bipush 7, 2) := by decide +kernel
theorem dX6_touch_34 : decode cX6_touch 34 = .ok (.iload_n 1, 1) := by decide +kernel
theorem dX6_touch_35 : decode cX6_touch 35 = .ok (.iadd, 1) := by decide +kernel
theorem dX6_touch_36 : decode cX6_touch 36 = .ok (.iconst 1, 1) := by decide +kernel
theorem dX6_touch_37 : decode cX6_touch 37 = .ok (.iload_n 2, 1) := by decide +kernel
theorem dX6_touch_38 : decode cX6_touch 38 = .ok (.iadd, 1) := by decide +kernel
theorem dX6_touch_39 : decode cX6_touch 39 = .ok (.iastore, 1) := by decide +kernel
theorem dX6_touch_40 : decode cX6_touch 40 = .ok (.aload_n 0, 1) := by decide +kernel
theorem dX6_touch_41 : decode cX6_touch 41 = .ok (.getfield 7, 3) := by decide +kernel
theorem dX6_touch_44 : decode cX6_touch 44 = .ok (.bipush 13, 2) := by decide +kernel
theorem dX6_touch_46 : decode cX6_touch 46 = .ok (.iload_n 1, 1) := by decide +kernel
theorem dX6_touch_47 : decode cX6_touch 47 = .ok (.iadd, 1) := by decide +kernel
theorem dX6_touch_48 : decode cX6_touch 48 = .ok (.iconst 1, 1) := by decide +kernel
theorem dX6_touch_49 : decode cX6_touch 49 = .ok (.iload_n 3, 1) := by decide +kernel
theorem dX6_touch_50 : decode cX6_touch 50 = .ok (.iadd, 1) := by decide +kernel
theorem dX6_touch_51 : decode cX6_touch 51 = .ok (.iastore, 1) := by decide +kernel
theorem dX6_touch_52 : decode cX6_touch 52 = .ok (.iconst 1, 1) := by decide +kernel
theorem dX6_touch_53 : decode cX6_touch 53 = .ok (.ireturn, 1) := by decide +kernel
set_option maxRecDepth 20000 in
theorem ggX6_part_X6_isRest : GoodIn wsX6_part wsX6_isRest := goodIn_r _ [5] (by decide +kernel) (by decide +kernel)
set_option maxRecDepth 20000 in
theorem gX6_part_X6_isRest : GoodIn wsX6_part (va_wsS RX6 198 yX6_isRest wsX6_isRest) := goodIn_app (goodIn_of _ (by decide +kernel)) ggX6_part_X6_isRest
theorem dX6_part_0 : decode cX6_part 0 = .ok (.iload_n 1, 1) := by decide +kernel
theorem dX6_part_1 : decode cX6_part 1 = .ok (.invokestatic 198, 3) := by decide +kernel
theorem dX6_part_4 : decode cX6_part 4 = .ok (.ifCond .ne 5, 3) := by decide +kernel
theorem dX6_part_7 : decode cX6_part 7 = .ok (.iconst (-1), 1) := by decide +kernel
theorem dX6_part_8 : decode cX6_part 8 = .ok (.ireturn, 1) := by decide +kernel
theorem dX6_part_9 : decode cX6_part 9 = .ok (.aload_n 0, 1) := by decide +kernel
theorem dX6_part_10 : decode cX6_part 10 = .ok (.getfield 7, 3) := by decide +kernel
theorem dX6_part_13 : decode cX6_part 13 = .ok (.bipush 7, 2) := by decide +kernel
theorem dX6_part_15 : decode cX6_part 15 = .ok (.iload_n 1, 1) := by decide +kernel
theorem dX6_part_16 : decode cX6_part 16 = .ok (.iadd, 1) := by decide +kernel
theorem dX6_part_17 : decode cX6_part 17 = .ok (.iaload, 1) := by decide +kernel
theorem dX6_part_18 : decode cX6_part 18 = .ok (.istore_n 2, 1) := by decide +kernel
theorem dX6_part_19 : decode cX6_part 19 = .ok (.aload_n 0, 1) := by decide +kernel
theorem dX6_part_20 : decode cX6_part 20 = .ok (.getfield 7, 3) := by decide +kernel
theorem dX6_part_23 : decode cX6_part 23 = .ok (.bipush 7, 2) := by decide +kernel
theorem dX6_part_25 : decode cX6_part 25 = .ok (.iload_n 1, 1) := by decide +kernel
theorem dX6_part_26 : decode cX6_part 26 = .ok (.iadd, 1) := by decide +kernel
theorem dX6_part_27 : decode cX6_part 27 = .ok (.iconst 0, 1) := by decide +kernel
theorem dX6_part_28 : decode cX6_part 28 = .ok (.iastore, 1) := by decide +kernel
theorem dX6_part_29 : decode cX6_part 29 = .ok (.aload_n 0, 1) := by decide +kernel
theorem dX6_part_30 : decode cX6_part 30 = .ok (.getfield 7, 3) := by decide +kernel
theorem dX6_part_33 : decode cX6_part 33 = .ok (.bipush 13, 2) := by decide +kernel
theorem dX6_part_35 : decode cX6_part 35 = .ok (.iload_n 1, 1) := by decide +kernel
theorem dX6_part_36 : decode cX6_part 36 = .ok (.iadd, 1) := by decide +kernel
theorem dX6_part_37 : decode cX6_part 37 = .ok (.iconst 0, 1) := by decide +kernel
theorem dX6_part_38 : decode cX6_part 38 = .ok (.iastore, 1) := by decide +kernel
theorem dX6_part_39 : decode cX6_part 39 = .ok (.iload_n 2, 1) := by decide +kernel
theorem dX6_part_40 : decode cX6_part 40 = .ok (.ifCond .ne 7, 3) := by decide +kernel
theorem dX6_part_43 : decode cX6_part 43 = .ok (.iconst 0, 1) := by decide +kernel
theorem dX6_part_44 : decode cX6_part 44 = .ok (.goto 4, 3) := by decide +kernel
theorem dX6_part_47 : decode cX6_part 47 = .ok (.iconst 1, 1) := by decide +kernel
theorem dX6_part_48 : decode cX6_part 48 = .ok (.ireturn, 1) := by decide +kernel
set_option maxRecDepth 20000 in
theorem ggX6_touchOf_X6_isRest : GoodIn wsX6_touchOf wsX6_isRest := goodIn_r _ [5] (by decide +kernel) (by decide +kernel)
set_option maxRecDepth 20000 in
theorem gX6_touchOf_X6_isRest : GoodIn wsX6_touchOf (va_wsS RX6 198 yX6_isRest wsX6_isRest) := goodIn_app (goodIn_of _ (by decide +kernel)) ggX6_touchOf_X6_isRest
set_option maxRecDepth 20000 in
theorem ggX6_touchOf_X6_isIn : GoodIn wsX6_touchOf wsX6_isIn := goodIn_r _ [8] (by decide +kernel) (by decide +kernel)
set_option maxRecDepth 20000 in
theorem gX6_touchOf_X6_isIn : GoodIn wsX6_touchOf (va_wsS RX6 60 yX6_isIn wsX6_isIn) := goodIn_app (goodIn_of _ (by decide +kernel)) ggX6_touchOf_X6_isIn
theorem dX6_touchOf_0 : decode cX6_touchOf 0 = .ok (.iload_n 1, 1) := by decide +kernel
theorem dX6_touchOf_1 : decode cX6_touchOf 1 = .ok (.invokestatic 198, 3) := by decide +kernel
theorem dX6_touchOf_4 : decode cX6_touchOf 4 = .ok (.ifCond .eq 13, 3) := by decide +kernel
theorem dX6_touchOf_7 : decode cX6_touchOf 7 = .ok (.iload_n 2, 1) := by decide +kernel
theorem dX6_touchOf_8 : decode cX6_touchOf 8 = .ok (.i2l, 1) := by decide +kernel
theorem dX6_touchOf_9 : decode cX6_touchOf 9 = .ok (.lconst 0, 1) := by decide +kernel
theorem dX6_touchOf_10 : decode cX6_touchOf 10 = .ok (.lconst 1, 1) := by decide +kernel
theorem dX6_touchOf_11 : decode cX6_touchOf 11 = .ok (.invokestatic 60, 3) := by decide +kernel
theorem dX6_touchOf_14 : decode cX6_touchOf 14 = .ok (.ifCond .ne 5, 3) := by decide +kernel
theorem dX6_touchOf_17 : decode cX6_touchOf 17 = .ok (.iconst (-1), 1) := by decide +kernel
theorem dX6_touchOf_18 : decode cX6_touchOf 18 = .ok (.ireturn, 1) := by decide +kernel
theorem dX6_touchOf_19 : decode cX6_touchOf 19 = .ok (.aload_n 0, 1) := by decide +kernel
theorem dX6_touchOf_20 : decode cX6_touchOf 20 = .ok (.getfield 7, 3) := by decide +kernel
theorem dX6_touchOf_23 : decode cX6_touchOf 23 = .ok (.bipush 7, 2) := by decide +kernel
theorem dX6_touchOf_25 : decode cX6_touchOf 25 = .ok (.iload_n 1, 1) := by decide +kernel
theorem dX6_touchOf_26 : decode cX6_touchOf 26 = .ok (.iadd, 1) := by decide +kernel
theorem dX6_touchOf_27 : decode cX6_touchOf 27 = .ok (.iaload, 1) := by decide +kernel
theorem dX6_touchOf_28 : decode cX6_touchOf 28 = .ok (.ifCond .ne 8, 3) := by decide +kernel
theorem dX6_touchOf_31 : decode cX6_touchOf 31 = .ok (.bipush (-3), 2) := by decide +kernel
theorem dX6_touchOf_33 : decode cX6_touchOf 33 = .ok (.goto 23, 3) := by decide +kernel
theorem dX6_touchOf_36 : decode cX6_touchOf 36 = .ok (.aload_n 0, 1) := by decide +kernel
theorem dX6_touchOf_37 : decode cX6_touchOf 37 = .ok (.getfield 7, 3) := by decide +kernel
theorem dX6_touchOf_40 : decode cX6_touchOf 40 = .ok (.iload_n 2, 1) := by decide +kernel
theorem dX6_touchOf_41 : decode cX6_touchOf 41 = .ok (.ifCond .ne 8, 3) := by decide +kernel
theorem dX6_touchOf_44 : decode cX6_touchOf 44 = .ok (.bipush 7, 2) := by decide +kernel
theorem dX6_touchOf_46 : decode cX6_touchOf 46 = .ok (.goto 5, 3) := by decide +kernel
theorem dX6_touchOf_49 : decode cX6_touchOf 49 = .ok (.bipush 13, 2) := by decide +kernel
theorem dX6_touchOf_51 : decode cX6_touchOf 51 = .ok (.iload_n 1, 1) := by decide +kernel
theorem dX6_touchOf_52 : decode cX6_touchOf 52 = .ok (.iadd, 1) := by decide +kernel
theorem dX6_touchOf_53 : decode cX6_touchOf 53 = .ok (.iaload, 1) := by decide +kernel
theorem dX6_touchOf_54 : decode cX6_touchOf 54 = .ok (.iconst 1, 1) := by decide +kernel
theorem dX6_touchOf_55 : decode cX6_touchOf 55 = .ok (.isub, 1) := by decide +kernel
theorem dX6_touchOf_56 : decode cX6_touchOf 56 = .ok (.ireturn, 1) := by decide +kernel
theorem dX6_circleOf_0 : decode cX6_circleOf 0 = .ok (.iconst 1, 1) := by decide +kernel
theorem dX6_circleOf_1 : decode cX6_circleOf 1 = .ok (.iload_n 1, 1) := by decide +kernel
theorem dX6_circleOf_2 : decode cX6_circleOf 2 = .ok (.ishl, 1) := by decide +kernel
theorem dX6_circleOf_3 : decode cX6_circleOf 3 = .ok (.istore_n 2, 1) := by decide +kernel
theorem dX6_circleOf_4 : decode cX6_circleOf 4 = .ok (.iconst 0, 1) := by decide +kernel
theorem dX6_circleOf_5 : decode cX6_circleOf 5 = .ok (.istore_n 3, 1) := by decide +kernel
theorem dX6_circleOf_6 : decode cX6_circleOf 6 = .ok (.iload_n 2, 1) := by decide +kernel
theorem dX6_circleOf_7 : decode cX6_circleOf 7 = .ok (.iload_n 3, 1) := by decide +kernel
theorem dX6_circleOf_8 : decode cX6_circleOf 8 = .ok (.if_icmp .eq 88, 3) := by decide +kernel
theorem dX6_circleOf_11 : decode cX6_circleOf 11 = .ok (.iload_n 2, 1) := by decide +kernel
theorem dX6_circleOf_12 : decode cX6_circleOf 12 = .ok (.istore_n 3, 1) := by decide +kernel
theorem dX6_circleOf_13 : decode cX6_circleOf 13 = .ok (.iconst 0, 1) := by decide +kernel
theorem dX6_circleOf_14 : decode cX6_circleOf 14 = .ok (.istore 4, 2) := by decide +kernel
theorem dX6_circleOf_16 : decode cX6_circleOf 16 = .ok (.iload 4, 2) := by decide +kernel
theorem dX6_circleOf_18 : decode cX6_circleOf 18 = .ok (.bipush 6, 2) := by decide +kernel
theorem dX6_circleOf_20 : decode cX6_circleOf 20 = .ok (.if_icmp .ge 73, 3) := by decide +kernel
theorem dX6_circleOf_23 : decode cX6_circleOf 23 = .ok (.aload_n 0, 1) := by decide +kernel
theorem dX6_circleOf_24 : decode cX6_circleOf 24 = .ok (.getfield 7, 3) := by decide +kernel
theorem dX6_circleOf_27 : decode cX6_circleOf 27 = .ok (.bipush 7, 2) := by decide +kernel
theorem dX6_circleOf_29 : decode cX6_circleOf 29 = .ok (.iload 4, 2) := by decide +kernel
theorem dX6_circleOf_31 : decode cX6_circleOf 31 = .ok (.iadd, 1) := by decide +kernel
theorem dX6_circleOf_32 : decode cX6_circleOf 32 = .ok (.iaload, 1) := by decide +kernel
theorem dX6_circleOf_33 : decode cX6_circleOf 33 = .ok (.ifCond .ne 7, 3) := by decide +kernel
theorem dX6_circleOf_36 : decode cX6_circleOf 36 = .ok (.iconst 0, 1) := by decide +kernel
theorem dX6_circleOf_37 : decode cX6_circleOf 37 = .ok (.goto 32, 3) := by decide +kernel
theorem dX6_circleOf_40 : decode cX6_circleOf 40 = .ok (.iconst 1, 1) := by decide +kernel
theorem dX6_circleOf_41 : decode cX6_circleOf 41 = .ok (.aload_n 0, 1) := by decide +kernel
theorem dX6_circleOf_42 : decode cX6_circleOf 42 = .ok (.getfield 7, 3) := by decide +kernel
theorem dX6_circleOf_45 : decode cX6_circleOf 45 = .ok (.bipush 7, 2) := by decide +kernel
theorem dX6_circleOf_47 : decode cX6_circleOf 47 = .ok (.iload 4, 2) := by decide +kernel
theorem dX6_circleOf_49 : decode cX6_circleOf 49 = .ok (.iadd, 1) := by decide +kernel
theorem dX6_circleOf_50 : decode cX6_circleOf 50 = .ok (.iaload, 1) := by decide +kernel
theorem dX6_circleOf_51 : decode cX6_circleOf 51 = .ok (.iconst 1, 1) := by decide +kernel
theorem dX6_circleOf_52 : decode cX6_circleOf 52 = .ok (.isub, 1) := by decide +kernel
theorem dX6_circleOf_53 : decode cX6_circleOf 53 = .ok (.ishl, 1) := by decide +kernel
theorem dX6_circleOf_54 : decode cX6_circleOf 54 = .ok (.iconst 1, 1) := by decide +kernel
theorem dX6_circleOf_55 : decode cX6_circleOf 55 = .ok (.aload_n 0, 1) := by decide +kernel
theorem dX6_circleOf_56 : decode cX6_circleOf 56 = .ok (.getfield 7, 3) := by decide +kernel
theorem dX6_circleOf_59 : decode cX6_circleOf 59 = .ok (.bipush 13, 2) := by decide +kernel
theorem dX6_circleOf_61 : decode cX6_circleOf 61 = .ok (.iload 4, 2) := by decide +kernel
theorem dX6_circleOf_63 : decode cX6_circleOf 63 = .ok (.iadd, 1) := by decide +kernel
theorem dX6_circleOf_64 : decode cX6_circleOf 64 = .ok (.iaload, 1) := by decide +kernel
theorem dX6_circleOf_65 : decode cX6_circleOf 65 = .ok (.iconst 1, 1) := by decide +kernel
theorem dX6_circleOf_66 : decode cX6_circleOf 66 = .ok (.isub, 1) := by decide +kernel
theorem dX6_circleOf_67 : decode cX6_circleOf 67 = .ok (.ishl, 1) := by decide +kernel
theorem dX6_circleOf_68 : decode cX6_circleOf 68 = .ok (.ior, 1) := by decide +kernel
theorem dX6_circleOf_69 : decode cX6_circleOf 69 = .ok (.istore 5, 2) := by decide +kernel
theorem dX6_circleOf_71 : decode cX6_circleOf 71 = .ok (.iload_n 2, 1) := by decide +kernel
theorem dX6_circleOf_72 : decode cX6_circleOf 72 = .ok (.iload_n 2, 1) := by decide +kernel
theorem dX6_circleOf_73 : decode cX6_circleOf 73 = .ok (.iload 5, 2) := by decide +kernel
theorem dX6_circleOf_75 : decode cX6_circleOf 75 = .ok (.iand, 1) := by decide +kernel
theorem dX6_circleOf_76 : decode cX6_circleOf 76 = .ok (.ifCond .ne 7, 3) := by decide +kernel
theorem dX6_circleOf_79 : decode cX6_circleOf 79 = .ok (.iconst 0, 1) := by decide +kernel
theorem dX6_circleOf_80 : decode cX6_circleOf 80 = .ok (.goto 5, 3) := by decide +kernel
theorem dX6_circleOf_83 : decode cX6_circleOf 83 = .ok (.iload 5, 2) := by decide +kernel
theorem dX6_circleOf_85 : decode cX6_circleOf 85 = .ok (.ior, 1) := by decide +kernel
theorem dX6_circleOf_86 : decode cX6_circleOf 86 = .ok (.istore_n 2, 1) := by decide +kernel
theorem dX6_circleOf_87 : decode cX6_circleOf 87 = .ok (.iinc 4 1, 3) := by decide +kernel
theorem dX6_circleOf_90 : decode cX6_circleOf 90 = .ok (.goto (-74), 3) := by decide +kernel
theorem dX6_circleOf_93 : decode cX6_circleOf 93 = .ok (.goto (-87), 3) := by decide +kernel
theorem dX6_circleOf_96 : decode cX6_circleOf 96 = .ok (.iload_n 2, 1) := by decide +kernel
theorem dX6_circleOf_97 : decode cX6_circleOf 97 = .ok (.ireturn, 1) := by decide +kernel
set_option maxRecDepth 20000 in
theorem ggX6_who_X6_isPerson : GoodIn wsX6_who wsX6_isPerson := goodIn_r _ [4] (by decide +kernel) (by decide +kernel)
set_option maxRecDepth 20000 in
theorem gX6_who_X6_isPerson : GoodIn wsX6_who (va_wsS RX6 166 yX6_isPerson wsX6_isPerson) := goodIn_app (goodIn_of _ (by decide +kernel)) ggX6_who_X6_isPerson
set_option maxRecDepth 20000 in
theorem ggX6_who_X6_isIn : GoodIn wsX6_who wsX6_isIn := goodIn_r _ [7] (by decide +kernel) (by decide +kernel)
set_option maxRecDepth 20000 in
theorem gX6_who_X6_isIn : GoodIn wsX6_who (va_wsS RX6 60 yX6_isIn wsX6_isIn) := goodIn_app (goodIn_of _ (by decide +kernel)) ggX6_who_X6_isIn
set_option maxRecDepth 20000 in
theorem ggX6_who_X6_marksOn : GoodIn wsX6_who wsX6_marksOn := goodIn_r _ [11, 12, 13, 14, 15, 3, 16, 21, 22, 23, 24, 25, 26, 27, 28, 29, 30, 31, 32, 33, 34, 35, 36, 37, 38, 39, 40, 41, 42, 43, 44, 45, 46, 47, 48] (by decide +kernel) (by decide +kernel)
set_option maxRecDepth 20000 in
theorem gX6_who_X6_marksOn : GoodIn wsX6_who (wsV RX6 172 RX6 yX6_marksOn wsX6_marksOn) := goodIn_app (goodIn_of _ (by decide +kernel)) ggX6_who_X6_marksOn
set_option maxRecDepth 20000 in
theorem ggX6_who_X6_circleOf : GoodIn wsX6_who wsX6_circleOf := goodIn_r _ [20, 12, 21, 22, 23, 24, 25, 26, 27, 28, 29, 30, 31, 32, 33, 34, 35, 36, 37, 38, 39, 40, 41, 42, 43, 44, 45, 46, 47, 48] (by decide +kernel) (by decide +kernel)
set_option maxRecDepth 20000 in
theorem gX6_who_X6_circleOf : GoodIn wsX6_who (wsV RX6 201 RX6 yX6_circleOf wsX6_circleOf) := goodIn_app (goodIn_of _ (by decide +kernel)) ggX6_who_X6_circleOf
theorem dX6_who_0 : decode cX6_who 0 = .ok (.iload_n 1, 1) := by decide +kernel
theorem dX6_who_1 : decode cX6_who 1 = .ok (.invokestatic 166, 3) := by decide +kernel
theorem dX6_who_4 : decode cX6_who 4 = .ok (.ifCond .eq 13, 3) := by decide +kernel
theorem dX6_who_7 : decode cX6_who 7 = .ok (.iload_n 2, 1) := by decide +kernel
theorem dX6_who_8 : decode cX6_who 8 = .ok (.i2l, 1) := by decide +kernel
theorem dX6_who_9 : decode cX6_who 9 = .ok (.lconst 0, 1) := by decide +kernel
theorem dX6_who_10 : decode cX6_who 10 = .ok (.lconst 1, 1) := by decide +kernel
theorem dX6_who_11 : decode cX6_who 11 = .ok (.invokestatic 60, 3) := by decide +kernel
theorem dX6_who_14 : decode cX6_who 14 = .ok (.ifCond .ne 5, 3) := by decide +kernel
theorem dX6_who_17 : decode cX6_who 17 = .ok (.iconst (-1), 1) := by decide +kernel
theorem dX6_who_18 : decode cX6_who 18 = .ok (.ireturn, 1) := by decide +kernel
theorem dX6_who_19 : decode cX6_who 19 = .ok (.iload_n 2, 1) := by decide +kernel
theorem dX6_who_20 : decode cX6_who 20 = .ok (.ifCond .ne 11, 3) := by decide +kernel
theorem dX6_who_23 : decode cX6_who 23 = .ok (.aload_n 0, 1) := by decide +kernel
theorem dX6_who_24 : decode cX6_who 24 = .ok (.iload_n 1, 1) := by decide +kernel
theorem dX6_who_25 : decode cX6_who 25 = .ok (.invokevirtual 172, 3) := by decide +kernel
theorem dX6_who_28 : decode cX6_who 28 = .ok (.goto 8, 3) := by decide +kernel
theorem dX6_who_31 : decode cX6_who 31 = .ok (.aload_n 0, 1) := by decide +kernel
theorem dX6_who_32 : decode cX6_who 32 = .ok (.iload_n 1, 1) := by decide +kernel
theorem dX6_who_33 : decode cX6_who 33 = .ok (.invokevirtual 201, 3) := by decide +kernel
theorem dX6_who_36 : decode cX6_who 36 = .ok (.ireturn, 1) := by decide +kernel
set_option maxRecDepth 20000 in
theorem ggX6_touches_X6_goingOver : GoodIn wsX6_touches wsX6_goingOver := goodIn_r _ [6, 1, 7, 8, 9, 5, 10, 11, 12, 13, 14, 15, 16, 17, 18, 19, 20, 21, 22, 23, 24, 25, 33, 34, 35, 36, 37, 38, 39, 40, 41, 42, 43, 44, 45, 46, 47, 48, 49, 50, 51, 52, 53, 54, 55, 56, 57, 58, 59, 60] (by decide +kernel) (by decide +kernel)
set_option maxRecDepth 20000 in
theorem gX6_touches_X6_goingOver : GoodIn wsX6_touches (wsV RX6 184 RX6 yX6_goingOver wsX6_goingOver) := goodIn_app (goodIn_of _ (by decide +kernel)) ggX6_touches_X6_goingOver
set_option maxRecDepth 20000 in
theorem ggX6_touches_X6_its : GoodIn wsX6_touches wsX6_its := goodIn_r _ [10, 1, 33, 34, 35, 36, 37, 38, 39, 40, 41, 42, 43, 44, 45, 46, 47, 48, 49, 50, 51, 52, 53, 54, 55, 56, 57, 58, 59, 60] (by decide +kernel) (by decide +kernel)
set_option maxRecDepth 20000 in
theorem gX6_touches_X6_its : GoodIn wsX6_touches (wsV RX6 169 RX6 yX6_its wsX6_its) := goodIn_app (goodIn_of _ (by decide +kernel)) ggX6_touches_X6_its
set_option maxRecDepth 20000 in
theorem ggX6_touches_X6_fades : GoodIn wsX6_touches wsX6_fades := goodIn_r _ [29, 1, 7, 8, 9, 5, 10, 33, 34, 35, 36, 37, 38, 39, 40, 41, 42, 43, 44, 45, 46, 47, 48, 49, 50, 51, 52, 53, 54, 55, 56, 57, 58, 59, 60] (by decide +kernel) (by decide +kernel)
set_option maxRecDepth 20000 in
theorem gX6_touches_X6_fades : GoodIn wsX6_touches (wsV RX6 192 RX6 yX6_fades wsX6_fades) := goodIn_app (goodIn_of _ (by decide +kernel)) ggX6_touches_X6_fades
set_option maxRecDepth 20000 in
theorem ggX6_touches_X6_within : GoodIn wsX6_touches wsX6_within := goodIn_r _ [32] (by decide +kernel) (by decide +kernel)
set_option maxRecDepth 20000 in
theorem gX6_touches_X6_within : GoodIn wsX6_touches (va_wsS RX6 204 yX6_within wsX6_within) := goodIn_app (goodIn_of _ (by decide +kernel)) ggX6_touches_X6_within
theorem dX6_touches_0 : decode cX6_touches 0 = .ok (.aload_n 0, 1) := by decide +kernel
theorem dX6_touches_1 : decode cX6_touches 1 = .ok (.iload_n 1, 1) := by decide +kernel
theorem dX6_touches_2 : decode cX6_touches 2 = .ok (.iload_n 2, 1) := by decide +kernel
theorem dX6_touches_3 : decode cX6_touches 3 = .ok (.invokevirtual 184, 3) := by decide +kernel
theorem dX6_touches_6 : decode cX6_touches 6 = .ok (.istore_n 3, 1) := by decide +kernel
theorem dX6_touches_7 : decode cX6_touches 7 = .ok (.iconst 0, 1) := by decide +kernel
theorem dX6_touches_8 : decode cX6_touches 8 = .ok (.istore 4, 2) := by decide +kernel
theorem dX6_touches_10 : decode cX6_touches 10 = .ok (.iload 4, 2) := by decide +kernel
theorem dX6_touches_12 : decode cX6_touches 12 = .ok (.aload_n 0, 1) := by decide +kernel
theorem dX6_touches_13 : decode cX6_touches 13 = .ok (.getfield 7, 3) := by decide +kernel
theorem dX6_touches_16 : decode cX6_touches 16 = .ok (.iconst 0, 1) := by decide +kernel
theorem dX6_touches_17 : decode cX6_touches 17 = .ok (.iaload, 1) := by decide +kernel
theorem dX6_touches_18 : decode cX6_touches 18 = .ok (.if_icmp .ge 80, 3) := by decide +kernel
theorem dX6_touches_21 : decode cX6_touches 21 = .ok (.iload_n 3, 1) := by decide +kernel
theorem dX6_touches_22 : decode cX6_touches 22 = .ok (.iload 4, 2) := by decide +kernel
theorem dX6_touches_24 : decode cX6_touches 24 = .ok (.ishr, 1) := by decide +kernel
theorem dX6_touches_25 : decode cX6_touches 25 = .ok (.iconst 1, 1) := by decide +kernel
theorem dX6_touches_26 : decode cX6_touches 26 = .ok (.iand, 1) := by decide +kernel
theorem dX6_touches_27 : decode cX6_touches 27 = .ok (.iconst 1, 1) := by decide +kernel
theorem dX6_touches_28 : decode cX6_touches 28 = .ok (.if_icmp .ne 64, 3) := by decide +kernel
theorem dX6_touches_31 : decode cX6_touches 31 = .ok (.aload_n 0, 1) := by decide +kernel
theorem dX6_touches_32 : decode cX6_touches 32 = .ok (.getfield 7, 3) := by decide +kernel
theorem dX6_touches_35 : decode cX6_touches 35 = .ok (.bipush 19, 2) := by decide +kernel
theorem dX6_touches_37 : decode cX6_touches 37 = .ok (.iconst 3, 1) := by decide +kernel
theorem dX6_touches_38 : decode cX6_touches 38 = .ok (.iload 4, 2) := by decide +kernel
theorem dX6_touches_40 : decode cX6_touches 40 = .ok (.imul, 1) := by decide +kernel
theorem dX6_touches_41 : decode cX6_touches 41 = .ok (.iadd, 1) := by decide +kernel
theorem dX6_touches_42 : decode cX6_touches 42 = .ok (.iconst 1, 1) := by decide +kernel
theorem dX6_touches_43 : decode cX6_touches 43 = .ok (.iadd, 1) := by decide +kernel
theorem dX6_touches_44 : decode cX6_touches 44 = .ok (.aload_n 0, 1) := by decide +kernel
theorem dX6_touches_45 : decode cX6_touches 45 = .ok (.iload 4, 2) := by decide +kernel
theorem dX6_touches_47 : decode cX6_touches 47 = .ok (.iconst 1, 1) := by decide +kernel
theorem dX6_touches_48 : decode cX6_touches 48 = .ok (.invokevirtual 169, 3) := by decide +kernel
theorem dX6_touches_51 : decode cX6_touches 51 = .ok (.aload_n 0, 1) := by decide +kernel
theorem dX6_touches_52 : decode cX6_touches 52 = .ok (.iload 4, 2) := by decide +kernel
theorem dX6_touches_54 : decode cX6_touches 54 = .ok (.invokevirtual 192, 3) := by decide +kernel
theorem dX6_touches_57 : decode cX6_touches 57 = .ok (.isub, 1) := by decide +kernel
theorem dX6_touches_58 : decode cX6_touches 58 = .ok (.invokestatic 204, 3) := by decide +kernel
theorem dX6_touches_61 : decode cX6_touches 61 = .ok (.iastore, 1) := by decide +kernel
theorem dX6_touches_62 : decode cX6_touches 62 = .ok (.aload_n 0, 1) := by decide +kernel
theorem dX6_touches_63 : decode cX6_touches 63 = .ok (.getfield 7, 3) := by decide +kernel
theorem dX6_touches_66 : decode cX6_touches 66 = .ok (.bipush 19, 2) := by decide +kernel
theorem dX6_touches_68 : decode cX6_touches 68 = .ok (.iconst 3, 1) := by decide +kernel
theorem dX6_touches_69 : decode cX6_touches 69 = .ok (.iload 4, 2) := by decide +kernel
theorem dX6_touches_71 : decode cX6_touches 71 = .ok (.imul, 1) := by decide +kernel
theorem dX6_touches_72 : decode cX6_touches 72 = .ok (.iadd, 1) := by decide +kernel
theorem dX6_touches_73 : decode cX6_touches 73 = .ok (.iconst 2, 1) := by decide +kernel
theorem dX6_touches_74 : decode cX6_touches 74 = .ok (.iadd, 1) := by decide +kernel
theorem dX6_touches_75 : decode cX6_touches 75 = .ok (.aload_n 0, 1) := by decide +kernel
theorem dX6_touches_76 : decode cX6_touches 76 = .ok (.iload 4, 2) := by decide +kernel
theorem dX6_touches_78 : decode cX6_touches 78 = .ok (.iconst 2, 1) := by decide +kernel
theorem dX6_touches_79 : decode cX6_touches 79 = .ok (.invokevirtual 169, 3) := by decide +kernel
theorem dX6_touches_82 : decode cX6_touches 82 = .ok (.iload_n 1, 1) := by decide +kernel
theorem dX6_touches_83 : decode cX6_touches 83 = .ok (.if_icmp .ne 7, 3) := by decide +kernel
theorem dX6_touches_86 : decode cX6_touches 86 = .ok (.iload_n 2, 1) := by decide +kernel
theorem dX6_touches_87 : decode cX6_touches 87 = .ok (.goto 4, 3) := by decide +kernel
theorem dX6_touches_90 : decode cX6_touches 90 = .ok (.iload_n 1, 1) := by decide +kernel
theorem dX6_touches_91 : decode cX6_touches 91 = .ok (.iastore, 1) := by decide +kernel
theorem dX6_touches_92 : decode cX6_touches 92 = .ok (.iinc 4 1, 3) := by decide +kernel
theorem dX6_touches_95 : decode cX6_touches 95 = .ok (.goto (-85), 3) := by decide +kernel
theorem dX6_touches_98 : decode cX6_touches 98 = .ok (.iload_n 3, 1) := by decide +kernel
theorem dX6_touches_99 : decode cX6_touches 99 = .ok (.ireturn, 1) := by decide +kernel
set_option maxRecDepth 20000 in
theorem ggX6_goesOn_X6_touches : GoodIn wsX6_goesOn wsX6_touches := goodIn_r _ [6, 1, 7, 8, 9, 5, 10, 11, 12, 13, 14, 15, 16, 17, 18, 19, 20, 21, 22, 23, 24, 25, 26, 27, 28, 29, 30, 31, 32, 33, 34, 35, 36, 37, 38, 39, 40, 41, 42, 43, 44, 45, 46, 47, 48, 49, 50, 51, 52, 53, 54, 55, 56, 57, 58, 59, 60, 61, 62, 63, 64] (by decide +kernel) (by decide +kernel)
set_option maxRecDepth 20000 in
theorem gX6_goesOn_X6_touches : GoodIn wsX6_goesOn (wsV RX6 207 RX6 yX6_touches wsX6_touches) := goodIn_app (goodIn_of _ (by decide +kernel)) ggX6_goesOn_X6_touches
theorem dX6_goesOn_0 : decode cX6_goesOn 0 = .ok (.aload_n 0, 1) := by decide +kernel
theorem dX6_goesOn_1 : decode cX6_goesOn 1 = .ok (.getfield 7, 3) := by decide +kernel
theorem dX6_goesOn_4 : decode cX6_goesOn 4 = .ok (.iconst 1, 1) := by decide +kernel
theorem dX6_goesOn_5 : decode cX6_goesOn 5 = .ok (.iaload, 1) := by decide +kernel
theorem dX6_goesOn_6 : decode cX6_goesOn 6 = .ok (.bipush 6, 2) := by decide +kernel
theorem dX6_goesOn_8 : decode cX6_goesOn 8 = .ok (.irem, 1) := by decide +kernel
theorem dX6_goesOn_9 : decode cX6_goesOn 9 = .ok (.istore_n 1, 1) := by decide +kernel
theorem dX6_goesOn_10 : decode cX6_goesOn 10 = .ok (.aload_n 0, 1) := by decide +kernel
theorem dX6_goesOn_11 : decode cX6_goesOn 11 = .ok (.getfield 7, 3) := by decide +kernel
theorem dX6_goesOn_14 : decode cX6_goesOn 14 = .ok (.bipush 7, 2) := by decide +kernel
theorem dX6_goesOn_16 : decode cX6_goesOn 16 = .ok (.iload_n 1, 1) := by decide +kernel
theorem dX6_goesOn_17 : decode cX6_goesOn 17 = .ok (.iadd, 1) := by decide +kernel
theorem dX6_goesOn_18 : decode cX6_goesOn 18 = .ok (.iaload, 1) := by decide +kernel
theorem dX6_goesOn_19 : decode cX6_goesOn 19 = .ok (.ifCond .ne 7, 3) := by decide +kernel
theorem dX6_goesOn_22 : decode cX6_goesOn 22 = .ok (.iconst 0, 1) := by decide +kernel
theorem dX6_goesOn_23 : decode cX6_goesOn 23 = .ok (.goto 29, 3) := by decide +kernel
theorem dX6_goesOn_26 : decode cX6_goesOn 26 = .ok (.aload_n 0, 1) := by decide +kernel
theorem dX6_goesOn_27 : decode cX6_goesOn 27 = .ok (.aload_n 0, 1) := by decide +kernel
theorem dX6_goesOn_28 : decode cX6_goesOn 28 = .ok (.getfield 7, 3) := by decide +kernel
theorem dX6_goesOn_31 : decode cX6_goesOn 31 = .ok (.bipush 7, 2) := by decide +kernel
theorem dX6_goesOn_33 : decode cX6_goesOn 33 = .ok (.iload_n 1, 1) := by decide +kernel
theorem dX6_goesOn_34 : decode cX6_goesOn 34 = .ok (.iadd, 1) := by decide +kernel
theorem dX6_goesOn_35 : decode cX6_goesOn 35 = .ok (.iaload, 1) := by decide +kernel
theorem dX6_goesOn_36 : decode cX6_goesOn 36 = .ok (.iconst 1, 1) := by decide +kernel
theorem dX6_goesOn_37 : decode cX6_goesOn 37 = .ok (.isub, 1) := by decide +kernel
theorem dX6_goesOn_38 : decode cX6_goesOn 38 = .ok (.aload_n 0, 1) := by decide +kernel
theorem dX6_goesOn_39 : decode cX6_goesOn 39 = .ok (.getfield 7, 3) := by decide +kernel
theorem dX6_goesOn_42 : decode cX6_goesOn 42 = .ok (.bipush 13, 2) := by decide +kernel
theorem dX6_goesOn_44 : decode cX6_goesOn 44 = .ok (.iload_n 1, 1) := by decide +kernel
theorem dX6_goesOn_45 : decode cX6_goesOn 45 = .ok (.iadd, 1) := by decide +kernel
theorem dX6_goesOn_46 : decode cX6_goesOn 46 = .ok (.iaload, 1) := by decide +kernel
theorem dX6_goesOn_47 : decode cX6_goesOn 47 = .ok (.iconst 1, 1) := by decide +kernel
theorem dX6_goesOn_48 : decode cX6_goesOn 48 = .ok (.isub, 1) := by decide +kernel
theorem dX6_goesOn_49 : decode cX6_goesOn 49 = .ok (.invokevirtual 207, 3) := by decide +kernel
theorem dX6_goesOn_52 : decode cX6_goesOn 52 = .ok (.istore_n 2, 1) := by decide +kernel
theorem dX6_goesOn_53 : decode cX6_goesOn 53 = .ok (.aload_n 0, 1) := by decide +kernel
theorem dX6_goesOn_54 : decode cX6_goesOn 54 = .ok (.getfield 7, 3) := by decide +kernel
theorem dX6_goesOn_57 : decode cX6_goesOn 57 = .ok (.iconst 1, 1) := by decide +kernel
theorem dX6_goesOn_58 : decode cX6_goesOn 58 = .ok (.dup2, 1) := by decide +kernel
theorem dX6_goesOn_59 : decode cX6_goesOn 59 = .ok (.iaload, 1) := by decide +kernel
theorem dX6_goesOn_60 : decode cX6_goesOn 60 = .ok (.iconst 1, 1) := by decide +kernel
theorem dX6_goesOn_61 : decode cX6_goesOn 61 = .ok (.iadd, 1) := by decide +kernel
theorem dX6_goesOn_62 : decode cX6_goesOn 62 = .ok (.iastore, 1) := by decide +kernel
theorem dX6_goesOn_63 : decode cX6_goesOn 63 = .ok (.iload_n 2, 1) := by decide +kernel
theorem dX6_goesOn_64 : decode cX6_goesOn 64 = .ok (.ireturn, 1) := by decide +kernel
set_option maxRecDepth 20000 in
theorem ggX6_goes_X6_goesOn : GoodIn wsX6_goes wsX6_goesOn := goodIn_r _ [5, 6, 7, 8, 9, 4, 10, 11, 12, 13, 14, 15, 16, 17, 18, 19, 20, 21, 22, 23, 24, 25, 26, 27, 28, 29, 30, 31, 32, 33, 34, 35, 36, 37, 38, 39, 40, 41, 42, 43, 44, 45, 46, 47, 48, 49, 50, 51, 52, 53, 54, 55, 56, 57, 58, 59, 60, 61, 62, 63, 64, 65, 66, 67, 68] (by decide +kernel) (by decide +kernel)
set_option maxRecDepth 20000 in
theorem gX6_goes_X6_goesOn : GoodIn wsX6_goes (wsV RX6 210 RX6 yX6_goesOn wsX6_goesOn) := goodIn_app (goodIn_of _ (by decide +kernel)) ggX6_goes_X6_goesOn
theorem dX6_goes_0 : decode cX6_goes 0 = .ok (.iconst 0, 1) := by decide +kernel
theorem dX6_goes_1 : decode cX6_goes 1 = .ok (.istore_n 2, 1) := by decide +kernel
theorem dX6_goes_2 : decode cX6_goes 2 = .ok (.iload_n 2, 1) := by decide +kernel
theorem dX6_goes_3 : decode cX6_goes 3 = .ok (.iload_n 1, 1) := by decide +kernel
theorem dX6_goes_4 : decode cX6_goes 4 = .ok (.if_icmp .ge 14, 3) := by decide +kernel
theorem dX6_goes_7 : decode cX6_goes 7 = .ok (.aload_n 0, 1) := by decide +kernel
theorem dX6_goes_8 : decode cX6_goes 8 = .ok (.invokevirtual 210, 3) := by decide +kernel
theorem dX6_goes_11 : decode cX6_goes 11 = .ok (.istore_n 3, 1) := by decide +kernel
theorem dX6_goes_12 : decode cX6_goes 12 = .ok (.iinc 2 1, 3) := by decide +kernel
theorem dX6_goes_15 : decode cX6_goes 15 = .ok (.goto (-13), 3) := by decide +kernel
theorem dX6_goes_18 : decode cX6_goes 18 = .ok (.return_, 1) := by decide +kernel
set_option maxRecDepth 20000 in
theorem ggX6_marked_X6_its : GoodIn wsX6_marked wsX6_its := goodIn_r _ [6, 1, 7, 8, 9, 10, 11, 12, 13, 14, 15, 16, 17, 18, 19, 20, 21, 22, 23, 24, 25, 26, 27, 28, 29, 30, 31, 32, 33, 34] (by decide +kernel) (by decide +kernel)
set_option maxRecDepth 20000 in
theorem gX6_marked_X6_its : GoodIn wsX6_marked (wsV RX6 169 RX6 yX6_its wsX6_its) := goodIn_app (goodIn_of _ (by decide +kernel)) ggX6_marked_X6_its
theorem dX6_marked_0 : decode cX6_marked 0 = .ok (.iconst 0, 1) := by decide +kernel
theorem dX6_marked_1 : decode cX6_marked 1 = .ok (.istore_n 1, 1) := by decide +kernel
theorem dX6_marked_2 : decode cX6_marked 2 = .ok (.iconst 0, 1) := by decide +kernel
theorem dX6_marked_3 : decode cX6_marked 3 = .ok (.istore_n 2, 1) := by decide +kernel
theorem dX6_marked_4 : decode cX6_marked 4 = .ok (.iload_n 2, 1) := by decide +kernel
theorem dX6_marked_5 : decode cX6_marked 5 = .ok (.aload_n 0, 1) := by decide +kernel
theorem dX6_marked_6 : decode cX6_marked 6 = .ok (.getfield 7, 3) := by decide +kernel
theorem dX6_marked_9 : decode cX6_marked 9 = .ok (.iconst 0, 1) := by decide +kernel
theorem dX6_marked_10 : decode cX6_marked 10 = .ok (.iaload, 1) := by decide +kernel
theorem dX6_marked_11 : decode cX6_marked 11 = .ok (.if_icmp .ge 20, 3) := by decide +kernel
theorem dX6_marked_14 : decode cX6_marked 14 = .ok (.iload_n 1, 1) := by decide +kernel
theorem dX6_marked_15 : decode cX6_marked 15 = .ok (.iconst 1, 1) := by decide +kernel
theorem dX6_marked_16 : decode cX6_marked 16 = .ok (.aload_n 0, 1) := by decide +kernel
theorem dX6_marked_17 : decode cX6_marked 17 = .ok (.iload_n 2, 1) := by decide +kernel
theorem dX6_marked_18 : decode cX6_marked 18 = .ok (.iconst 2, 1) := by decide +kernel
theorem dX6_marked_19 : decode cX6_marked 19 = .ok (.invokevirtual 169, 3) := by decide +kernel
theorem dX6_marked_22 : decode cX6_marked 22 = .ok (.ishl, 1) := by decide +kernel
theorem dX6_marked_23 : decode cX6_marked 23 = .ok (.ior, 1) := by decide +kernel
theorem dX6_marked_24 : decode cX6_marked 24 = .ok (.istore_n 1, 1) := by decide +kernel
theorem dX6_marked_25 : decode cX6_marked 25 = .ok (.iinc 2 1, 3) := by decide +kernel
theorem dX6_marked_28 : decode cX6_marked 28 = .ok (.goto (-24), 3) := by decide +kernel
theorem dX6_marked_31 : decode cX6_marked 31 = .ok (.iload_n 1, 1) := by decide +kernel
theorem dX6_marked_32 : decode cX6_marked 32 = .ok (.ireturn, 1) := by decide +kernel
set_option maxRecDepth 20000 in
theorem ggX6_hours_X6_isIn : GoodIn wsX6_hours wsX6_isIn := goodIn_r _ [5] (by decide +kernel) (by decide +kernel)
set_option maxRecDepth 20000 in
theorem gX6_hours_X6_isIn : GoodIn wsX6_hours (va_wsS RX6 60 yX6_isIn wsX6_isIn) := goodIn_app (goodIn_of _ (by decide +kernel)) ggX6_hours_X6_isIn
set_option maxRecDepth 20000 in
theorem ggX6_hours_X6_goes : GoodIn wsX6_hours wsX6_goes := goodIn_r _ [9, 10, 11, 12, 4, 13, 14, 15, 16, 17, 18, 19, 20, 21, 22, 23, 24, 25, 26, 27, 28, 29, 30, 31, 32, 33, 34, 35, 36, 37, 38, 39, 40, 41, 42, 43, 44, 45, 46, 47, 48, 53, 54, 55, 56, 57, 58, 59, 60, 61, 62, 63, 64, 65, 66, 67, 68, 69, 70, 71, 72, 73, 74, 75, 76, 77, 78, 79, 80] (by decide +kernel) (by decide +kernel)
set_option maxRecDepth 20000 in
theorem gX6_hours_X6_goes : GoodIn wsX6_hours (wsV RX6 215 RX6 yX6_goes wsX6_goes) := goodIn_app (goodIn_of _ (by decide +kernel)) ggX6_hours_X6_goes
set_option maxRecDepth 20000 in
theorem ggX6_hours_X6_marked : GoodIn wsX6_hours wsX6_marked := goodIn_r _ [52, 14, 23, 24, 25, 4, 26, 53, 54, 55, 56, 57, 58, 59, 60, 61, 62, 63, 64, 65, 66, 67, 68, 69, 70, 71, 72, 73, 74, 75, 76, 77, 78, 79, 80] (by decide +kernel) (by decide +kernel)
set_option maxRecDepth 20000 in
theorem gX6_hours_X6_marked : GoodIn wsX6_hours (wsV RX6 218 RX6 yX6_marked wsX6_marked) := goodIn_app (goodIn_of _ (by decide +kernel)) ggX6_hours_X6_marked
set_option maxRecDepth 20000 in
theorem ggX6_hours_X6_size : GoodIn wsX6_hours wsX6_size := goodIn_r _ [37] (by decide +kernel) (by decide +kernel)
set_option maxRecDepth 20000 in
theorem gX6_hours_X6_size : GoodIn wsX6_hours (va_wsS RX6 175 yX6_size wsX6_size) := goodIn_app (goodIn_of _ (by decide +kernel)) ggX6_hours_X6_size
theorem dX6_hours_0 : decode cX6_hours 0 = .ok (.iload_n 1, 1) := by decide +kernel
theorem dX6_hours_1 : decode cX6_hours 1 = .ok (.i2l, 1) := by decide +kernel
theorem dX6_hours_2 : decode cX6_hours 2 = .ok (.lconst 1, 1) := by decide +kernel
theorem dX6_hours_3 : decode cX6_hours 3 = .ok (.ldc2_w 213, 3) := by decide +kernel
theorem dX6_hours_6 : decode cX6_hours 6 = .ok (.invokestatic 60, 3) := by decide +kernel
theorem dX6_hours_9 : decode cX6_hours 9 = .ok (.ifCond .ne 5, 3) := by decide +kernel
theorem dX6_hours_12 : decode cX6_hours 12 = .ok (.iconst (-1), 1) := by decide +kernel
theorem dX6_hours_13 : decode cX6_hours 13 = .ok (.ireturn, 1) := by decide +kernel
theorem dX6_hours_14 : decode cX6_hours 14 = .ok (.aload_n 0, 1) := by decide +kernel
theorem dX6_hours_15 : decode cX6_hours 15 = .ok (.iload_n 1, 1) := by decide +kernel
theorem dX6_hours_16 : decode cX6_hours 16 = .ok (.invokevirtual 215, 3) := by decide +kernel
theorem dX6_hours_19 : decode cX6_hours 19 = .ok (.aload_n 0, 1) := by decide +kernel
theorem dX6_hours_20 : decode cX6_hours 20 = .ok (.invokevirtual 218, 3) := by decide +kernel
theorem dX6_hours_23 : decode cX6_hours 23 = .ok (.invokestatic 175, 3) := by decide +kernel
theorem dX6_hours_26 : decode cX6_hours 26 = .ok (.ireturn, 1) := by decide +kernel
set_option maxRecDepth 20000 in
theorem ggX6_seed_X6_becomes : GoodIn wsX6_seed wsX6_becomes := goodIn_r _ [5, 6, 7, 8, 9, 10, 11, 12, 13, 14, 15, 16, 17, 18, 19, 20, 21, 22, 23, 24, 25, 26, 27, 28, 29, 30, 31, 32, 33, 34] (by decide +kernel) (by decide +kernel)
set_option maxRecDepth 20000 in
theorem gX6_seed_X6_becomes : GoodIn wsX6_seed (wsV RX6 158 RX6 yX6_becomes wsX6_becomes) := goodIn_app (goodIn_of _ (by decide +kernel)) ggX6_seed_X6_becomes
theorem dX6_seed_0 : decode cX6_seed 0 = .ok (.aload_n 0, 1) := by decide +kernel
theorem dX6_seed_1 : decode cX6_seed 1 = .ok (.iconst 2, 1) := by decide +kernel
theorem dX6_seed_2 : decode cX6_seed 2 = .ok (.iload_n 1, 1) := by decide +kernel
theorem dX6_seed_3 : decode cX6_seed 3 = .ok (.invokevirtual 158, 3) := by decide +kernel
theorem dX6_seed_6 : decode cX6_seed 6 = .ok (.ireturn, 1) := by decide +kernel
theorem dX6_drawn_0 : decode cX6_drawn 0 = .ok (.aload_n 0, 1) := by decide +kernel
theorem dX6_drawn_1 : decode cX6_drawn 1 = .ok (.getfield 7, 3) := by decide +kernel
theorem dX6_drawn_4 : decode cX6_drawn 4 = .ok (.iconst 2, 1) := by decide +kernel
theorem dX6_drawn_5 : decode cX6_drawn 5 = .ok (.aload_n 0, 1) := by decide +kernel
theorem dX6_drawn_6 : decode cX6_drawn 6 = .ok (.getfield 7, 3) := by decide +kernel
theorem dX6_drawn_9 : decode cX6_drawn 9 = .ok (.iconst 2, 1) := by decide +kernel
theorem dX6_drawn_10 : decode cX6_drawn 10 = .ok (.iaload, 1) := by decide +kernel
theorem dX6_drawn_11 : decode cX6_drawn 11 = .ok (.ldc 221, 2) := by decide +kernel
theorem dX6_drawn_13 : decode cX6_drawn 13 = .ok (.imul, 1) := by decide +kernel
theorem dX6_drawn_14 : decode cX6_drawn 14 = .ok (.sipush 12345, 3) := by decide +kernel
theorem dX6_drawn_17 : decode cX6_drawn 17 = .ok (.iadd, 1) := by decide +kernel
theorem dX6_drawn_18 : decode cX6_drawn 18 = .ok (.iastore, 1) := by decide +kernel
theorem dX6_drawn_19 : decode cX6_drawn 19 = .ok (.aload_n 0, 1) := by decide +kernel
theorem dX6_drawn_20 : decode cX6_drawn 20 = .ok (.getfield 7, 3) := by decide +kernel
theorem dX6_drawn_23 : decode cX6_drawn 23 = .ok (.iconst 2, 1) := by decide +kernel
theorem dX6_drawn_24 : decode cX6_drawn 24 = .ok (.iaload, 1) := by decide +kernel
theorem dX6_drawn_25 : decode cX6_drawn 25 = .ok (.bipush 16, 2) := by decide +kernel
theorem dX6_drawn_27 : decode cX6_drawn 27 = .ok (.iushr, 1) := by decide +kernel
theorem dX6_drawn_28 : decode cX6_drawn 28 = .ok (.ireturn, 1) := by decide +kernel
set_option maxRecDepth 20000 in
theorem ggX6_hour_X6_drawn : GoodIn wsX6_hour wsX6_drawn := goodIn_r _ [6, 1, 7, 54, 55, 56, 57, 58, 59, 60, 61, 62, 63, 64, 65, 66, 67, 68, 69, 70, 71, 72, 73, 74, 75, 76, 77, 78, 79, 80, 81] (by decide +kernel) (by decide +kernel)
set_option maxRecDepth 20000 in
theorem gX6_hour_X6_drawn : GoodIn wsX6_hour (wsV RX6 222 RX6 yX6_drawn wsX6_drawn) := goodIn_app (goodIn_of _ (by decide +kernel)) ggX6_hour_X6_drawn
set_option maxRecDepth 20000 in
theorem ggX6_hour_X6_touches : GoodIn wsX6_hour wsX6_touches := goodIn_r _ [11, 1, 12, 13, 14, 5, 15, 16, 17, 18, 19, 20, 21, 22, 23, 24, 25, 26, 27, 28, 29, 30, 31, 32, 33, 34, 35, 36, 37, 38, 39, 40, 41, 54, 55, 56, 57, 58, 59, 60, 61, 62, 63, 64, 65, 66, 67, 68, 69, 70, 71, 72, 73, 74, 75, 76, 77, 78, 79, 80, 81] (by decide +kernel) (by decide +kernel)
set_option maxRecDepth 20000 in
theorem gX6_hour_X6_touches : GoodIn wsX6_hour (wsV RX6 207 RX6 yX6_touches wsX6_touches) := goodIn_app (goodIn_of _ (by decide +kernel)) ggX6_hour_X6_touches
set_option maxRecDepth 20000 in
theorem ggX6_hour_X6_goes : GoodIn wsX6_hour wsX6_goes := goodIn_r _ [45, 46, 47, 48, 5, 49, 1, 8, 9, 10, 11, 12, 13, 14, 15, 16, 17, 18, 19, 20, 21, 22, 23, 24, 25, 26, 27, 28, 29, 30, 31, 32, 33, 34, 35, 36, 37, 38, 39, 40, 41, 54, 55, 56, 57, 58, 59, 60, 61, 62, 63, 64, 65, 66, 67, 68, 69, 70, 71, 72, 73, 74, 75, 76, 77, 78, 79, 80, 81] (by decide +kernel) (by decide +kernel)
set_option maxRecDepth 20000 in
theorem gX6_hour_X6_goes : GoodIn wsX6_hour (wsV RX6 215 RX6 yX6_goes wsX6_goes) := goodIn_app (goodIn_of _ (by decide +kernel)) ggX6_hour_X6_goes
set_option maxRecDepth 20000 in
theorem ggX6_hour_X6_marked : GoodIn wsX6_hour wsX6_marked := goodIn_r _ [53, 1, 16, 17, 18, 5, 19, 54, 55, 56, 57, 58, 59, 60, 61, 62, 63, 64, 65, 66, 67, 68, 69, 70, 71, 72, 73, 74, 75, 76, 77, 78, 79, 80, 81] (by decide +kernel) (by decide +kernel)
set_option maxRecDepth 20000 in
theorem gX6_hour_X6_marked : GoodIn wsX6_hour (wsV RX6 218 RX6 yX6_marked wsX6_marked) := goodIn_app (goodIn_of _ (by decide +kernel)) ggX6_hour_X6_marked
set_option maxRecDepth 20000 in
theorem ggX6_hour_X6_size : GoodIn wsX6_hour wsX6_size := goodIn_r _ [30] (by decide +kernel) (by decide +kernel)
set_option maxRecDepth 20000 in
theorem gX6_hour_X6_size : GoodIn wsX6_hour (va_wsS RX6 175 yX6_size wsX6_size) := goodIn_app (goodIn_of _ (by decide +kernel)) ggX6_hour_X6_size
theorem dX6_hour_0 : decode cX6_hour 0 = .ok (.aload_n 0, 1) := by decide +kernel
theorem dX6_hour_1 : decode cX6_hour 1 = .ok (.invokevirtual 222, 3) := by decide +kernel
theorem dX6_hour_4 : decode cX6_hour 4 = .ok (.bipush 8, 2) := by decide +kernel
theorem dX6_hour_6 : decode cX6_hour 6 = .ok (.irem, 1) := by decide +kernel
theorem dX6_hour_7 : decode cX6_hour 7 = .ok (.istore_n 1, 1) := by decide +kernel
theorem dX6_hour_8 : decode cX6_hour 8 = .ok (.aload_n 0, 1) := by decide +kernel
theorem dX6_hour_9 : decode cX6_hour 9 = .ok (.invokevirtual 222, 3) := by decide +kernel
theorem dX6_hour_12 : decode cX6_hour 12 = .ok (.bipush 100, 2) := by decide +kernel
theorem dX6_hour_14 : decode cX6_hour 14 = .ok (.irem, 1) := by decide +kernel
theorem dX6_hour_15 : decode cX6_hour 15 = .ok (.aload_n 0, 1) := by decide +kernel
theorem dX6_hour_16 : decode cX6_hour 16 = .ok (.getfield 7, 3) := by decide +kernel
theorem dX6_hour_19 : decode cX6_hour 19 = .ok (.bipush 6, 2) := by decide +kernel
theorem dX6_hour_21 : decode cX6_hour 21 = .ok (.iaload, 1) := by decide +kernel
theorem dX6_hour_22 : decode cX6_hour 22 = .ok (.if_icmp .ge 27, 3) := by decide +kernel
theorem dX6_hour_25 : decode cX6_hour 25 = .ok (.aload_n 0, 1) := by decide +kernel
theorem dX6_hour_26 : decode cX6_hour 26 = .ok (.invokevirtual 222, 3) := by decide +kernel
theorem dX6_hour_29 : decode cX6_hour 29 = .ok (.bipush 8, 2) := by decide +kernel
theorem dX6_hour_31 : decode cX6_hour 31 = .ok (.irem, 1) := by decide +kernel
theorem dX6_hour_32 : decode cX6_hour 32 = .ok (.istore_n 2, 1) := by decide +kernel
theorem dX6_hour_33 : decode cX6_hour 33 = .ok (.iload_n 1, 1) := by decide +kernel
theorem dX6_hour_34 : decode cX6_hour 34 = .ok (.iload_n 2, 1) := by decide +kernel
theorem dX6_hour_35 : decode cX6_hour 35 = .ok (.if_icmp .ne 7, 3) := by decide +kernel
theorem dX6_hour_38 : decode cX6_hour 38 = .ok (.iconst 0, 1) := by decide +kernel
theorem dX6_hour_39 : decode cX6_hour 39 = .ok (.goto 9, 3) := by decide +kernel
theorem dX6_hour_42 : decode cX6_hour 42 = .ok (.aload_n 0, 1) := by decide +kernel
theorem dX6_hour_43 : decode cX6_hour 43 = .ok (.iload_n 1, 1) := by decide +kernel
theorem dX6_hour_44 : decode cX6_hour 44 = .ok (.iload_n 2, 1) := by decide +kernel
theorem dX6_hour_45 : decode cX6_hour 45 = .ok (.invokevirtual 207, 3) := by decide +kernel
theorem dX6_hour_48 : decode cX6_hour 48 = .ok (.istore_n 3, 1) := by decide +kernel
theorem dX6_hour_49 : decode cX6_hour 49 = .ok (.aload_n 0, 1) := by decide +kernel
theorem dX6_hour_50 : decode cX6_hour 50 = .ok (.iconst 1, 1) := by decide +kernel
theorem dX6_hour_51 : decode cX6_hour 51 = .ok (.invokevirtual 215, 3) := by decide +kernel
theorem dX6_hour_54 : decode cX6_hour 54 = .ok (.aload_n 0, 1) := by decide +kernel
theorem dX6_hour_55 : decode cX6_hour 55 = .ok (.invokevirtual 218, 3) := by decide +kernel
theorem dX6_hour_58 : decode cX6_hour 58 = .ok (.invokestatic 175, 3) := by decide +kernel
theorem dX6_hour_61 : decode cX6_hour 61 = .ok (.ireturn, 1) := by decide +kernel
set_option maxRecDepth 20000 in
theorem ggX6_stir_X6_isIn : GoodIn wsX6_stir wsX6_isIn := goodIn_r _ [8] (by decide +kernel) (by decide +kernel)
set_option maxRecDepth 20000 in
theorem gX6_stir_X6_isIn : GoodIn wsX6_stir (va_wsS RX6 60 yX6_isIn wsX6_isIn) := goodIn_app (goodIn_of _ (by decide +kernel)) ggX6_stir_X6_isIn
set_option maxRecDepth 20000 in
theorem ggX6_stir_X6_copyRow : GoodIn wsX6_stir wsX6_copyRow := goodIn_r _ [11] (by decide +kernel) (by decide +kernel)
set_option maxRecDepth 20000 in
theorem gX6_stir_X6_copyRow : GoodIn wsX6_stir (va_wsS RX6 146 yX6_copyRow wsX6_copyRow) := goodIn_app (goodIn_of _ (by decide +kernel)) ggX6_stir_X6_copyRow
set_option maxRecDepth 20000 in
theorem ggX6_stir_X6_goes : GoodIn wsX6_stir wsX6_goes := goodIn_r _ [15, 16, 17, 18, 7, 19, 2, 20, 21, 22, 23, 24, 25, 26, 27, 28, 29, 30, 31, 32, 33, 34, 35, 36, 37, 38, 39, 40, 41, 42, 43, 44, 45, 46, 47, 48, 49, 50, 51, 52, 53, 67, 68, 69, 70, 71, 72, 73, 74, 75, 76, 77, 78, 79, 80, 81, 82, 83, 84, 85, 86, 87, 88, 89, 90, 91, 92, 93, 94] (by decide +kernel) (by decide +kernel)
set_option maxRecDepth 20000 in
theorem gX6_stir_X6_goes : GoodIn wsX6_stir (wsV RX6 215 RX6 yX6_goes wsX6_goes) := goodIn_app (goodIn_of _ (by decide +kernel)) ggX6_stir_X6_goes
set_option maxRecDepth 20000 in
theorem ggX6_stir_X6_its : GoodIn wsX6_stir wsX6_its := goodIn_r _ [31, 2, 67, 68, 69, 70, 71, 72, 73, 74, 75, 76, 77, 78, 79, 80, 81, 82, 83, 84, 85, 86, 87, 88, 89, 90, 91, 92, 93, 94] (by decide +kernel) (by decide +kernel)
set_option maxRecDepth 20000 in
theorem gX6_stir_X6_its : GoodIn wsX6_stir (wsV RX6 169 RX6 yX6_its wsX6_its) := goodIn_app (goodIn_of _ (by decide +kernel)) ggX6_stir_X6_its
set_option maxRecDepth 20000 in
theorem ggX6_stir_X6_hour : GoodIn wsX6_stir wsX6_hour := goodIn_r _ [57, 2, 58, 59, 60, 7, 61, 62, 20, 21, 22, 23, 24, 25, 26, 27, 28, 29, 30, 31, 32, 33, 34, 35, 36, 37, 38, 39, 40, 41, 42, 43, 44, 45, 46, 47, 48, 49, 50, 51, 52, 53, 12, 13, 14, 15, 16, 17, 18, 19, 63, 64, 65, 66, 67, 68, 69, 70, 71, 72, 73, 74, 75, 76, 77, 78, 79, 80, 81, 82, 83, 84, 85, 86, 87, 88, 89, 90, 91, 92, 93, 94] (by decide +kernel) (by decide +kernel)
set_option maxRecDepth 20000 in
theorem gX6_stir_X6_hour : GoodIn wsX6_stir (wsV RX6 227 RX6 yX6_hour wsX6_hour) := goodIn_app (goodIn_of _ (by decide +kernel)) ggX6_stir_X6_hour
theorem dX6_stir_0 : decode cX6_stir 0 = .ok (.iload_n 1, 1) := by decide +kernel
theorem dX6_stir_1 : decode cX6_stir 1 = .ok (.i2l, 1) := by decide +kernel
theorem dX6_stir_2 : decode cX6_stir 2 = .ok (.lconst 1, 1) := by decide +kernel
theorem dX6_stir_3 : decode cX6_stir 3 = .ok (.ldc2_w 225, 3) := by decide +kernel
theorem dX6_stir_6 : decode cX6_stir 6 = .ok (.invokestatic 60, 3) := by decide +kernel
theorem dX6_stir_9 : decode cX6_stir 9 = .ok (.ifCond .ne 5, 3) := by decide +kernel
theorem dX6_stir_12 : decode cX6_stir 12 = .ok (.iconst (-1), 1) := by decide +kernel
theorem dX6_stir_13 : decode cX6_stir 13 = .ok (.ireturn, 1) := by decide +kernel
theorem dX6_stir_14 : decode cX6_stir 14 = .ok (.aload_n 0, 1) := by decide +kernel
theorem dX6_stir_15 : decode cX6_stir 15 = .ok (.getfield 7, 3) := by decide +kernel
theorem dX6_stir_18 : decode cX6_stir 18 = .ok (.aload_n 0, 1) := by decide +kernel
theorem dX6_stir_19 : decode cX6_stir 19 = .ok (.getfield 16, 3) := by decide +kernel
theorem dX6_stir_22 : decode cX6_stir 22 = .ok (.invokestatic 146, 3) := by decide +kernel
theorem dX6_stir_25 : decode cX6_stir 25 = .ok (.aload_n 0, 1) := by decide +kernel
theorem dX6_stir_26 : decode cX6_stir 26 = .ok (.iconst 1, 1) := by decide +kernel
theorem dX6_stir_27 : decode cX6_stir 27 = .ok (.invokevirtual 215, 3) := by decide +kernel
theorem dX6_stir_30 : decode cX6_stir 30 = .ok (.iconst 0, 1) := by decide +kernel
theorem dX6_stir_31 : decode cX6_stir 31 = .ok (.istore_n 2, 1) := by decide +kernel
theorem dX6_stir_32 : decode cX6_stir 32 = .ok (.iload_n 2, 1) := by decide +kernel
theorem dX6_stir_33 : decode cX6_stir 33 = .ok (.aload_n 0, 1) := by decide +kernel
theorem dX6_stir_34 : decode cX6_stir 34 = .ok (.getfield 7, 3) := by decide +kernel
theorem dX6_stir_37 : decode cX6_stir 37 = .ok (.iconst 0, 1) := by decide +kernel
theorem dX6_stir_38 : decode cX6_stir 38 = .ok (.iaload, 1) := by decide +kernel
theorem dX6_stir_39 : decode cX6_stir 39 = .ok (.if_icmp .ge 21, 3) := by decide +kernel
theorem dX6_stir_42 : decode cX6_stir 42 = .ok (.aload_n 0, 1) := by decide +kernel
theorem dX6_stir_43 : decode cX6_stir 43 = .ok (.getfield 25, 3) := by decide +kernel
theorem dX6_stir_46 : decode cX6_stir 46 = .ok (.iload_n 2, 1) := by decide +kernel
theorem dX6_stir_47 : decode cX6_stir 47 = .ok (.aload_n 0, 1) := by decide +kernel
theorem dX6_stir_48 : decode cX6_stir 48 = .ok (.iload_n 2, 1) := by decide +kernel
theorem dX6_stir_49 : decode cX6_stir 49 = .ok (.iconst 2, 1) := by decide +kernel
theorem dX6_stir_50 : decode cX6_stir 50 = .ok (.invokevirtual 169, 3) := by decide +kernel
theorem dX6_stir_53 : decode cX6_stir 53 = .ok (.iastore, 1) := by decide +kernel
theorem dX6_stir_54 : decode cX6_stir 54 = .ok (.iinc 2 1, 3) := by decide +kernel
theorem dX6_stir_57 : decode cX6_stir 57 = .ok (.goto (-25), 3) := by decide +kernel
theorem dX6_stir_60 : decode cX6_stir 60 = .ok (.aload_n 0, 1) := by decide +kernel
theorem dX6_stir_61 : decode cX6_stir 61 = .ok (.getfield 16, 3) := by decide +kernel
theorem dX6_stir_64 : decode cX6_stir 64 = .ok (.iconst 2, 1) := by decide +kernel
theorem dX6_stir_65 : decode cX6_stir 65 = .ok (.iaload, 1) := by decide +kernel
theorem dX6_stir_66 : decode cX6_stir 66 = .ok (.istore_n 2, 1) := by decide +kernel
theorem dX6_stir_67 : decode cX6_stir 67 = .ok (.iconst 0, 1) := by decide +kernel
theorem dX6_stir_68 : decode cX6_stir 68 = .ok (.istore_n 3, 1) := by decide +kernel
theorem dX6_stir_69 : decode cX6_stir 69 = .ok (.iconst 0, 1) := by decide +kernel
theorem dX6_stir_70 : decode cX6_stir 70 = .ok (.istore 4, 2) := by decide +kernel
theorem dX6_stir_72 : decode cX6_stir 72 = .ok (.iload 4, 2) := by decide +kernel
theorem dX6_stir_74 : decode cX6_stir 74 = .ok (.iload_n 1, 1) := by decide +kernel
theorem dX6_stir_75 : decode cX6_stir 75 = .ok (.if_icmp .ge 103, 3) := by decide +kernel
theorem dX6_stir_78 : decode cX6_stir 78 = .ok (.aload_n 0, 1) := by decide +kernel
theorem dX6_stir_79 : decode cX6_stir 79 = .ok (.getfield 16, 3) := by decide +kernel
theorem dX6_stir_82 : decode cX6_stir 82 = .ok (.aload_n 0, 1) := by decide +kernel
theorem dX6_stir_83 : decode cX6_stir 83 = .ok (.getfield 7, 3) := by decide +kernel
theorem dX6_stir_86 : decode cX6_stir 86 = .ok (.invokestatic 146, 3) := by decide +kernel
theorem dX6_stir_89 : decode cX6_stir 89 = .ok (.aload_n 0, 1) := by decide +kernel
theorem dX6_stir_90 : decode cX6_stir 90 = .ok (.getfield 7, 3) := by decide +kernel
theorem dX6_stir_93 : decode cX6_stir 93 = .ok (.iconst 2, 1) := by decide +kernel
theorem dX6_stir_94 : decode cX6_stir 94 = .ok (.iload_n 2, 1) := by decide +kernel
theorem dX6_stir_95 : decode cX6_stir 95 = .ok (.iastore, 1) := by decide +kernel
theorem dX6_stir_96 : decode cX6_stir 96 = .ok (.aload_n 0, 1) := by decide +kernel
theorem dX6_stir_97 : decode cX6_stir 97 = .ok (.invokevirtual 227, 3) := by decide +kernel
theorem dX6_stir_100 : decode cX6_stir 100 = .ok (.istore 5, 2) := by decide +kernel
theorem dX6_stir_102 : decode cX6_stir 102 = .ok (.iconst 0, 1) := by decide +kernel
theorem dX6_stir_103 : decode cX6_stir 103 = .ok (.istore 6, 2) := by decide +kernel
theorem dX6_stir_105 : decode cX6_stir 105 = .ok (.iconst 0, 1) := by decide +kernel
theorem dX6_stir_106 : decode cX6_stir 106 = .ok (.istore 7, 2) := by decide +kernel
theorem dX6_stir_108 : decode cX6_stir 108 = .ok (.iload 7, 2) := by decide +kernel
theorem dX6_stir_110 : decode cX6_stir 110 = .ok (.aload_n 0, 1) := by decide +kernel
theorem dX6_stir_111 : decode cX6_stir 111 = .ok (.getfield 7, 3) := by decide +kernel
theorem dX6_stir_114 : decode cX6_stir 114 = .ok (.iconst 0, 1) := by decide +kernel
theorem dX6_stir_115 : decode cX6_stir 115 = .ok (.iaload, 1) := by decide +kernel
theorem dX6_stir_116 : decode cX6_stir 116 = .ok (.if_icmp .ge 36, 3) := by decide +kernel
theorem dX6_stir_119 : decode cX6_stir 119 = .ok (.iload 6, 2) := by decide +kernel
theorem dX6_stir_121 : decode cX6_stir 121 = .ok (.aload_n 0, 1) := by decide +kernel
theorem dX6_stir_122 : decode cX6_stir 122 = .ok (.iload 7, 2) := by decide +kernel
theorem dX6_stir_124 : decode cX6_stir 124 = .ok (.iconst 2, 1) := by decide +kernel
theorem dX6_stir_125 : decode cX6_stir 125 = .ok (.invokevirtual 169, 3) := by decide +kernel
theorem dX6_stir_128 : decode cX6_stir 128 = .ok (.aload_n 0, 1) := by decide +kernel
theorem dX6_stir_129 : decode cX6_stir 129 = .ok (.getfield 25, 3) := by decide +kernel
theorem dX6_stir_132 : decode cX6_stir 132 = .ok (.iload 7, 2) := by decide +kernel
theorem dX6_stir_134 : decode cX6_stir 134 = .ok (.iaload, 1) := by decide +kernel
theorem dX6_stir_135 : decode cX6_stir 135 = .ok (.if_icmp .eq 7, 3) := by decide +kernel
theorem dX6_stir_138 : decode cX6_stir 138 = .ok (.iconst 1, 1) := by decide +kernel
theorem dX6_stir_139 : decode cX6_stir 139 = .ok (.goto 4, 3) := by decide +kernel
theorem dX6_stir_142 : decode cX6_stir 142 = .ok (.iconst 0, 1) := by decide +kernel
theorem dX6_stir_143 : decode cX6_stir 143 = .ok (.ior, 1) := by decide +kernel
theorem dX6_stir_144 : decode cX6_stir 144 = .ok (.istore 6, 2) := by decide +kernel
theorem dX6_stir_146 : decode cX6_stir 146 = .ok (.iinc 7 1, 3) := by decide +kernel
theorem dX6_stir_149 : decode cX6_stir 149 = .ok (.goto (-41), 3) := by decide +kernel
theorem dX6_stir_152 : decode cX6_stir 152 = .ok (.iload_n 3, 1) := by decide +kernel
theorem dX6_stir_153 : decode cX6_stir 153 = .ok (.iload 6, 2) := by decide +kernel
theorem dX6_stir_155 : decode cX6_stir 155 = .ok (.ifCond .eq 7, 3) := by decide +kernel
theorem dX6_stir_158 : decode cX6_stir 158 = .ok (.iconst 1, 1) := by decide +kernel
theorem dX6_stir_159 : decode cX6_stir 159 = .ok (.goto 4, 3) := by decide +kernel
theorem dX6_stir_162 : decode cX6_stir 162 = .ok (.iconst 0, 1) := by decide +kernel
theorem dX6_stir_163 : decode cX6_stir 163 = .ok (.iadd, 1) := by decide +kernel
theorem dX6_stir_164 : decode cX6_stir 164 = .ok (.istore_n 3, 1) := by decide +kernel
theorem dX6_stir_165 : decode cX6_stir 165 = .ok (.aload_n 0, 1) := by decide +kernel
theorem dX6_stir_166 : decode cX6_stir 166 = .ok (.getfield 7, 3) := by decide +kernel
theorem dX6_stir_169 : decode cX6_stir 169 = .ok (.iconst 2, 1) := by decide +kernel
theorem dX6_stir_170 : decode cX6_stir 170 = .ok (.iaload, 1) := by decide +kernel
theorem dX6_stir_171 : decode cX6_stir 171 = .ok (.istore_n 2, 1) := by decide +kernel
theorem dX6_stir_172 : decode cX6_stir 172 = .ok (.iinc 4 1, 3) := by decide +kernel
theorem dX6_stir_175 : decode cX6_stir 175 = .ok (.goto (-103), 3) := by decide +kernel
theorem dX6_stir_178 : decode cX6_stir 178 = .ok (.aload_n 0, 1) := by decide +kernel
theorem dX6_stir_179 : decode cX6_stir 179 = .ok (.getfield 16, 3) := by decide +kernel
theorem dX6_stir_182 : decode cX6_stir 182 = .ok (.aload_n 0, 1) := by decide +kernel
theorem dX6_stir_183 : decode cX6_stir 183 = .ok (.getfield 7, 3) := by decide +kernel
theorem dX6_stir_186 : decode cX6_stir 186 = .ok (.invokestatic 146, 3) := by decide +kernel
theorem dX6_stir_189 : decode cX6_stir 189 = .ok (.iload_n 3, 1) := by decide +kernel
theorem dX6_stir_190 : decode cX6_stir 190 = .ok (.ireturn, 1) := by decide +kernel
set_option maxRecDepth 20000 in
theorem ggX6_inkOfAll_X6_its : GoodIn wsX6_inkOfAll wsX6_its := goodIn_r _ [6, 1, 7, 8, 9, 10, 11, 12, 13, 14, 15, 16, 17, 18, 19, 20, 21, 22, 23, 24, 25, 26, 27, 28, 29, 30, 31, 32, 33, 34] (by decide +kernel) (by decide +kernel)
set_option maxRecDepth 20000 in
theorem gX6_inkOfAll_X6_its : GoodIn wsX6_inkOfAll (wsV RX6 169 RX6 yX6_its wsX6_its) := goodIn_app (goodIn_of _ (by decide +kernel)) ggX6_inkOfAll_X6_its
theorem dX6_inkOfAll_0 : decode cX6_inkOfAll 0 = .ok (.iconst 0, 1) := by decide +kernel
theorem dX6_inkOfAll_1 : decode cX6_inkOfAll 1 = .ok (.istore_n 1, 1) := by decide +kernel
theorem dX6_inkOfAll_2 : decode cX6_inkOfAll 2 = .ok (.iconst 0, 1) := by decide +kernel
theorem dX6_inkOfAll_3 : decode cX6_inkOfAll 3 = .ok (.istore_n 2, 1) := by decide +kernel
theorem dX6_inkOfAll_4 : decode cX6_inkOfAll 4 = .ok (.iload_n 2, 1) := by decide +kernel
theorem dX6_inkOfAll_5 : decode cX6_inkOfAll 5 = .ok (.aload_n 0, 1) := by decide +kernel
theorem dX6_inkOfAll_6 : decode cX6_inkOfAll 6 = .ok (.getfield 7, 3) := by decide +kernel
theorem dX6_inkOfAll_9 : decode cX6_inkOfAll 9 = .ok (.iconst 0, 1) := by decide +kernel
theorem dX6_inkOfAll_10 : decode cX6_inkOfAll 10 = .ok (.iaload, 1) := by decide +kernel
theorem dX6_inkOfAll_11 : decode cX6_inkOfAll 11 = .ok (.if_icmp .ge 18, 3) := by decide +kernel
theorem dX6_inkOfAll_14 : decode cX6_inkOfAll 14 = .ok (.iload_n 1, 1) := by decide +kernel
theorem dX6_inkOfAll_15 : decode cX6_inkOfAll 15 = .ok (.aload_n 0, 1) := by decide +kernel
theorem dX6_inkOfAll_16 : decode cX6_inkOfAll 16 = .ok (.iload_n 2, 1) := by decide +kernel
theorem dX6_inkOfAll_17 : decode cX6_inkOfAll 17 = .ok (.iconst 1, 1) := by decide +kernel
theorem dX6_inkOfAll_18 : decode cX6_inkOfAll 18 = .ok (.invokevirtual 169, 3) := by decide +kernel
theorem dX6_inkOfAll_21 : decode cX6_inkOfAll 21 = .ok (.iadd, 1) := by decide +kernel
theorem dX6_inkOfAll_22 : decode cX6_inkOfAll 22 = .ok (.istore_n 1, 1) := by decide +kernel
theorem dX6_inkOfAll_23 : decode cX6_inkOfAll 23 = .ok (.iinc 2 1, 3) := by decide +kernel
theorem dX6_inkOfAll_26 : decode cX6_inkOfAll 26 = .ok (.goto (-22), 3) := by decide +kernel
theorem dX6_inkOfAll_29 : decode cX6_inkOfAll 29 = .ok (.iload_n 1, 1) := by decide +kernel
theorem dX6_inkOfAll_30 : decode cX6_inkOfAll 30 = .ok (.ireturn, 1) := by decide +kernel
set_option maxRecDepth 20000 in
theorem ggX6_circles_X6_circleOf : GoodIn wsX6_circles wsX6_circleOf := goodIn_r _ [5, 6, 7, 8, 9, 10, 11, 12, 13, 14, 15, 16, 17, 18, 19, 20, 21, 22, 23, 24, 25, 26, 27, 28, 29, 30, 31, 32, 33, 34] (by decide +kernel) (by decide +kernel)
set_option maxRecDepth 20000 in
theorem gX6_circles_X6_circleOf : GoodIn wsX6_circles (wsV RX6 201 RX6 yX6_circleOf wsX6_circleOf) := goodIn_app (goodIn_of _ (by decide +kernel)) ggX6_circles_X6_circleOf
theorem dX6_circles_0 : decode cX6_circles 0 = .ok (.iconst 0, 1) := by decide +kernel
theorem dX6_circles_1 : decode cX6_circles 1 = .ok (.istore_n 1, 1) := by decide +kernel
theorem dX6_circles_2 : decode cX6_circles 2 = .ok (.iconst 0, 1) := by decide +kernel
theorem dX6_circles_3 : decode cX6_circles 3 = .ok (.istore_n 2, 1) := by decide +kernel
theorem dX6_circles_4 : decode cX6_circles 4 = .ok (.iload_n 2, 1) := by decide +kernel
theorem dX6_circles_5 : decode cX6_circles 5 = .ok (.bipush 8, 2) := by decide +kernel
theorem dX6_circles_7 : decode cX6_circles 7 = .ok (.if_icmp .ge 31, 3) := by decide +kernel
theorem dX6_circles_10 : decode cX6_circles 10 = .ok (.iload_n 1, 1) := by decide +kernel
theorem dX6_circles_11 : decode cX6_circles 11 = .ok (.aload_n 0, 1) := by decide +kernel
theorem dX6_circles_12 : decode cX6_circles 12 = .ok (.iload_n 2, 1) := by decide +kernel
theorem dX6_circles_13 : decode cX6_circles 13 = .ok (.invokevirtual 201, 3) := by decide +kernel
theorem dX6_circles_16 : decode cX6_circles 16 = .ok (.iconst 1, 1) := by decide +kernel
theorem dX6_circles_17 : decode cX6_circles 17 = .ok (.iload_n 2, 1) := by decide +kernel
theorem dX6_circles_18 : decode cX6_circles 18 = .ok (.ishl, 1) := by decide +kernel
theorem dX6_circles_19 : decode cX6_circles 19 = .ok (.iconst 1, 1) := by decide +kernel
theorem dX6_circles_20 : decode cX6_circles 20 = .ok (.isub, 1) := by decide +kernel
theorem dX6_circles_21 : decode cX6_circles 21 = .ok (.iand, 1) := by decide +kernel
theorem dX6_circles_22 : decode cX6_circles 22 = .ok (.ifCond .ne 7, 3) := by decide +kernel
theorem dX6_circles_25 : decode cX6_circles 25 = .ok (.iconst 1, 1) := by decide +kernel
theorem dX6_circles_26 : decode cX6_circles 26 = .ok (.goto 4, 3) := by decide +kernel
theorem dX6_circles_29 : decode cX6_circles 29 = .ok (.iconst 0, 1) := by decide +kernel
theorem dX6_circles_30 : decode cX6_circles 30 = .ok (.iadd, 1) := by decide +kernel
theorem dX6_circles_31 : decode cX6_circles 31 = .ok (.istore_n 1, 1) := by decide +kernel
theorem dX6_circles_32 : decode cX6_circles 32 = .ok (.iinc 2 1, 3) := by decide +kernel
theorem dX6_circles_35 : decode cX6_circles 35 = .ok (.goto (-31), 3) := by decide +kernel
theorem dX6_circles_38 : decode cX6_circles 38 = .ok (.iload_n 1, 1) := by decide +kernel
theorem dX6_circles_39 : decode cX6_circles 39 = .ok (.ireturn, 1) := by decide +kernel
set_option maxRecDepth 20000 in
theorem ggX6_dryOnes_X6_its : GoodIn wsX6_dryOnes wsX6_its := goodIn_r _ [6, 1, 7, 8, 9, 10, 11, 12, 13, 14, 15, 16, 17, 18, 19, 20, 21, 22, 23, 24, 25, 26, 27, 28, 29, 30, 31, 32, 33, 34] (by decide +kernel) (by decide +kernel)
set_option maxRecDepth 20000 in
theorem gX6_dryOnes_X6_its : GoodIn wsX6_dryOnes (wsV RX6 169 RX6 yX6_its wsX6_its) := goodIn_app (goodIn_of _ (by decide +kernel)) ggX6_dryOnes_X6_its
theorem dX6_dryOnes_0 : decode cX6_dryOnes 0 = .ok (.iconst 0, 1) := by decide +kernel
theorem dX6_dryOnes_1 : decode cX6_dryOnes 1 = .ok (.istore_n 1, 1) := by decide +kernel
theorem dX6_dryOnes_2 : decode cX6_dryOnes 2 = .ok (.iconst 0, 1) := by decide +kernel
theorem dX6_dryOnes_3 : decode cX6_dryOnes 3 = .ok (.istore_n 2, 1) := by decide +kernel
theorem dX6_dryOnes_4 : decode cX6_dryOnes 4 = .ok (.iload_n 2, 1) := by decide +kernel
theorem dX6_dryOnes_5 : decode cX6_dryOnes 5 = .ok (.aload_n 0, 1) := by decide +kernel
theorem dX6_dryOnes_6 : decode cX6_dryOnes 6 = .ok (.getfield 7, 3) := by decide +kernel
theorem dX6_dryOnes_9 : decode cX6_dryOnes 9 = .ok (.iconst 0, 1) := by decide +kernel
theorem dX6_dryOnes_10 : decode cX6_dryOnes 10 = .ok (.iaload, 1) := by decide +kernel
theorem dX6_dryOnes_11 : decode cX6_dryOnes 11 = .ok (.if_icmp .ge 28, 3) := by decide +kernel
theorem dX6_dryOnes_14 : decode cX6_dryOnes 14 = .ok (.iload_n 1, 1) := by decide +kernel
theorem dX6_dryOnes_15 : decode cX6_dryOnes 15 = .ok (.aload_n 0, 1) := by decide +kernel
theorem dX6_dryOnes_16 : decode cX6_dryOnes 16 = .ok (.iload_n 2, 1) := by decide +kernel
theorem dX6_dryOnes_17 : decode cX6_dryOnes 17 = .ok (.iconst 1, 1) := by decide +kernel
theorem dX6_dryOnes_18 : decode cX6_dryOnes 18 = .ok (.invokevirtual 169, 3) := by decide +kernel
theorem dX6_dryOnes_21 : decode cX6_dryOnes 21 = .ok (.ifCond .ne 9, 3) := by decide +kernel
theorem dX6_dryOnes_24 : decode cX6_dryOnes 24 = .ok (.iconst 1, 1) := by decide +kernel
theorem dX6_dryOnes_25 : decode cX6_dryOnes 25 = .ok (.iload_n 2, 1) := by decide +kernel
theorem dX6_dryOnes_26 : decode cX6_dryOnes 26 = .ok (.ishl, 1) := by decide +kernel
theorem dX6_dryOnes_27 : decode cX6_dryOnes 27 = .ok (.goto 4, 3) := by decide +kernel
theorem dX6_dryOnes_30 : decode cX6_dryOnes 30 = .ok (.iconst 0, 1) := by decide +kernel
theorem dX6_dryOnes_31 : decode cX6_dryOnes 31 = .ok (.ior, 1) := by decide +kernel
theorem dX6_dryOnes_32 : decode cX6_dryOnes 32 = .ok (.istore_n 1, 1) := by decide +kernel
theorem dX6_dryOnes_33 : decode cX6_dryOnes 33 = .ok (.iinc 2 1, 3) := by decide +kernel
theorem dX6_dryOnes_36 : decode cX6_dryOnes 36 = .ok (.goto (-32), 3) := by decide +kernel
theorem dX6_dryOnes_39 : decode cX6_dryOnes 39 = .ok (.iload_n 1, 1) := by decide +kernel
theorem dX6_dryOnes_40 : decode cX6_dryOnes 40 = .ok (.ireturn, 1) := by decide +kernel
set_option maxRecDepth 20000 in
theorem ggX6_mostOnOne_X6_marksOn : GoodIn wsX6_mostOnOne wsX6_marksOn := goodIn_r _ [5, 6, 7, 8, 9, 4, 10, 17, 18, 19, 20, 21, 22, 23, 24, 25, 26, 27, 28, 29, 30, 31, 32, 33, 34, 35, 36, 37, 38, 39, 40, 41, 42, 43, 44] (by decide +kernel) (by decide +kernel)
set_option maxRecDepth 20000 in
theorem gX6_mostOnOne_X6_marksOn : GoodIn wsX6_mostOnOne (wsV RX6 172 RX6 yX6_marksOn wsX6_marksOn) := goodIn_app (goodIn_of _ (by decide +kernel)) ggX6_mostOnOne_X6_marksOn
set_option maxRecDepth 20000 in
theorem ggX6_mostOnOne_X6_size : GoodIn wsX6_mostOnOne wsX6_size := goodIn_r _ [13] (by decide +kernel) (by decide +kernel)
set_option maxRecDepth 20000 in
theorem gX6_mostOnOne_X6_size : GoodIn wsX6_mostOnOne (va_wsS RX6 175 yX6_size wsX6_size) := goodIn_app (goodIn_of _ (by decide +kernel)) ggX6_mostOnOne_X6_size
set_option maxRecDepth 20000 in
theorem ggX6_mostOnOne_X6_greatest : GoodIn wsX6_mostOnOne wsX6_greatest := goodIn_r _ [16] (by decide +kernel) (by decide +kernel)
set_option maxRecDepth 20000 in
theorem gX6_mostOnOne_X6_greatest : GoodIn wsX6_mostOnOne (va_wsS RX6 230 yX6_greatest wsX6_greatest) := goodIn_app (goodIn_of _ (by decide +kernel)) ggX6_mostOnOne_X6_greatest
theorem dX6_mostOnOne_0 : decode cX6_mostOnOne 0 = .ok (.iconst 0, 1) := by decide +kernel
theorem dX6_mostOnOne_1 : decode cX6_mostOnOne 1 = .ok (.istore_n 1, 1) := by decide +kernel
theorem dX6_mostOnOne_2 : decode cX6_mostOnOne 2 = .ok (.iconst 0, 1) := by decide +kernel
theorem dX6_mostOnOne_3 : decode cX6_mostOnOne 3 = .ok (.istore_n 2, 1) := by decide +kernel
theorem dX6_mostOnOne_4 : decode cX6_mostOnOne 4 = .ok (.iload_n 2, 1) := by decide +kernel
theorem dX6_mostOnOne_5 : decode cX6_mostOnOne 5 = .ok (.bipush 8, 2) := by decide +kernel
theorem dX6_mostOnOne_7 : decode cX6_mostOnOne 7 = .ok (.if_icmp .ge 22, 3) := by decide +kernel
theorem dX6_mostOnOne_10 : decode cX6_mostOnOne 10 = .ok (.iload_n 1, 1) := by decide +kernel
theorem dX6_mostOnOne_11 : decode cX6_mostOnOne 11 = .ok (.aload_n 0, 1) := by decide +kernel
theorem dX6_mostOnOne_12 : decode cX6_mostOnOne 12 = .ok (.iload_n 2, 1) := by decide +kernel
theorem dX6_mostOnOne_13 : decode cX6_mostOnOne 13 = .ok (.invokevirtual 172, 3) := by decide +kernel
theorem dX6_mostOnOne_16 : decode cX6_mostOnOne 16 = .ok (.invokestatic 175, 3) := by decide +kernel
theorem dX6_mostOnOne_19 : decode cX6_mostOnOne 19 = .ok (.invokestatic 230, 3) := by decide +kernel
theorem dX6_mostOnOne_22 : decode cX6_mostOnOne 22 = .ok (.istore_n 1, 1) := by decide +kernel
theorem dX6_mostOnOne_23 : decode cX6_mostOnOne 23 = .ok (.iinc 2 1, 3) := by decide +kernel
theorem dX6_mostOnOne_26 : decode cX6_mostOnOne 26 = .ok (.goto (-22), 3) := by decide +kernel
theorem dX6_mostOnOne_29 : decode cX6_mostOnOne 29 = .ok (.iload_n 1, 1) := by decide +kernel
theorem dX6_mostOnOne_30 : decode cX6_mostOnOne 30 = .ok (.ireturn, 1) := by decide +kernel
set_option maxRecDepth 20000 in
theorem ggX6_state_X6_inkOfAll : GoodIn wsX6_state wsX6_inkOfAll := goodIn_r _ [6, 1, 7, 8, 9, 5, 10, 41, 42, 43, 44, 45, 46, 47, 48, 49, 50, 51, 52, 53, 54, 55, 56, 57, 58, 59, 60, 61, 62, 63, 64, 65, 66, 67, 68] (by decide +kernel) (by decide +kernel)
set_option maxRecDepth 20000 in
theorem gX6_state_X6_inkOfAll : GoodIn wsX6_state (wsV RX6 233 RX6 yX6_inkOfAll wsX6_inkOfAll) := goodIn_app (goodIn_of _ (by decide +kernel)) ggX6_state_X6_inkOfAll
set_option maxRecDepth 20000 in
theorem ggX6_state_X6_marked : GoodIn wsX6_state wsX6_marked := goodIn_r _ [14, 1, 7, 8, 9, 5, 10, 41, 42, 43, 44, 45, 46, 47, 48, 49, 50, 51, 52, 53, 54, 55, 56, 57, 58, 59, 60, 61, 62, 63, 64, 65, 66, 67, 68] (by decide +kernel) (by decide +kernel)
set_option maxRecDepth 20000 in
theorem gX6_state_X6_marked : GoodIn wsX6_state (wsV RX6 218 RX6 yX6_marked wsX6_marked) := goodIn_app (goodIn_of _ (by decide +kernel)) ggX6_state_X6_marked
set_option maxRecDepth 20000 in
theorem ggX6_state_X6_circles : GoodIn wsX6_state wsX6_circles := goodIn_r _ [18, 19, 20, 21, 5, 22, 1, 41, 42, 43, 44, 45, 46, 47, 48, 49, 50, 51, 52, 53, 54, 55, 56, 57, 58, 59, 60, 61, 62, 63, 64, 65, 66, 67, 68] (by decide +kernel) (by decide +kernel)
set_option maxRecDepth 20000 in
theorem gX6_state_X6_circles : GoodIn wsX6_state (wsV RX6 236 RX6 yX6_circles wsX6_circles) := goodIn_app (goodIn_of _ (by decide +kernel)) ggX6_state_X6_circles
set_option maxRecDepth 20000 in
theorem ggX6_state_X6_dryOnes : GoodIn wsX6_state wsX6_dryOnes := goodIn_r _ [26, 1, 7, 8, 9, 5, 10, 41, 42, 43, 44, 45, 46, 47, 48, 49, 50, 51, 52, 53, 54, 55, 56, 57, 58, 59, 60, 61, 62, 63, 64, 65, 66, 67, 68] (by decide +kernel) (by decide +kernel)
set_option maxRecDepth 20000 in
theorem gX6_state_X6_dryOnes : GoodIn wsX6_state (wsV RX6 239 RX6 yX6_dryOnes wsX6_dryOnes) := goodIn_app (goodIn_of _ (by decide +kernel)) ggX6_state_X6_dryOnes
set_option maxRecDepth 20000 in
theorem ggX6_state_X6_mostOnOne : GoodIn wsX6_state wsX6_mostOnOne := goodIn_r _ [30, 31, 32, 33, 5, 34, 1, 7, 8, 9, 10, 35, 36, 37, 38, 39, 40, 41, 42, 43, 44, 45, 46, 47, 48, 49, 50, 51, 52, 53, 54, 55, 56, 57, 58, 59, 60, 61, 62, 63, 64, 65, 66, 67, 68] (by decide +kernel) (by decide +kernel)
set_option maxRecDepth 20000 in
theorem gX6_state_X6_mostOnOne : GoodIn wsX6_state (wsV RX6 242 RX6 yX6_mostOnOne wsX6_mostOnOne) := goodIn_app (goodIn_of _ (by decide +kernel)) ggX6_state_X6_mostOnOne
theorem dX6_state_0 : decode cX6_state 0 = .ok (.iload_n 1, 1) := by decide +kernel
theorem dX6_state_1 : decode cX6_state 1 = .ok (.tableswitch 71 0 5 #[39, 46, 51, 56, 61, 66], 39) := by decide +kernel
theorem dX6_state_40 : decode cX6_state 40 = .ok (.aload_n 0, 1) := by decide +kernel
theorem dX6_state_41 : decode cX6_state 41 = .ok (.getfield 7, 3) := by decide +kernel
theorem dX6_state_44 : decode cX6_state 44 = .ok (.iconst 1, 1) := by decide +kernel
theorem dX6_state_45 : decode cX6_state 45 = .ok (.iaload, 1) := by decide +kernel
theorem dX6_state_46 : decode cX6_state 46 = .ok (.ireturn, 1) := by decide +kernel
theorem dX6_state_47 : decode cX6_state 47 = .ok (.aload_n 0, 1) := by decide +kernel
theorem dX6_state_48 : decode cX6_state 48 = .ok (.invokevirtual 233, 3) := by decide +kernel
theorem dX6_state_51 : decode cX6_state 51 = .ok (.ireturn, 1) := by decide +kernel
theorem dX6_state_52 : decode cX6_state 52 = .ok (.aload_n 0, 1) := by decide +kernel
theorem dX6_state_53 : decode cX6_state 53 = .ok (.invokevirtual 218, 3) := by decide +kernel
theorem dX6_state_56 : decode cX6_state 56 = .ok (.ireturn, 1) := by decide +kernel
theorem dX6_state_57 : decode cX6_state 57 = .ok (.aload_n 0, 1) := by decide +kernel
theorem dX6_state_58 : decode cX6_state 58 = .ok (.invokevirtual 236, 3) := by decide +kernel
theorem dX6_state_61 : decode cX6_state 61 = .ok (.ireturn, 1) := by decide +kernel
theorem dX6_state_62 : decode cX6_state 62 = .ok (.aload_n 0, 1) := by decide +kernel
theorem dX6_state_63 : decode cX6_state 63 = .ok (.invokevirtual 239, 3) := by decide +kernel
theorem dX6_state_66 : decode cX6_state 66 = .ok (.ireturn, 1) := by decide +kernel
theorem dX6_state_67 : decode cX6_state 67 = .ok (.aload_n 0, 1) := by decide +kernel
theorem dX6_state_68 : decode cX6_state 68 = .ok (.invokevirtual 242, 3) := by decide +kernel
theorem dX6_state_71 : decode cX6_state 71 = .ok (.ireturn, 1) := by decide +kernel
theorem dX6_state_72 : decode cX6_state 72 = .ok (.iconst (-1), 1) := by decide +kernel
theorem dX6_state_73 : decode cX6_state 73 = .ok (.ireturn, 1) := by decide +kernel
set_option maxRecDepth 20000 in
theorem ggX6_where_X6_isOne : GoodIn wsX6_where wsX6_isOne := goodIn_r _ [8, 2, 57, 58, 59, 60, 61, 62, 63, 64, 65, 66, 67, 68, 69, 70, 71, 72, 73, 74, 75, 76, 77, 78, 79, 80, 81, 82, 83, 84] (by decide +kernel) (by decide +kernel)
set_option maxRecDepth 20000 in
theorem gX6_where_X6_isOne : GoodIn wsX6_where (wsV RX6 187 RX6 yX6_isOne wsX6_isOne) := goodIn_app (goodIn_of _ (by decide +kernel)) ggX6_where_X6_isOne
set_option maxRecDepth 20000 in
theorem ggX6_where_X6_isIn : GoodIn wsX6_where wsX6_isIn := goodIn_r _ [11] (by decide +kernel) (by decide +kernel)
set_option maxRecDepth 20000 in
theorem gX6_where_X6_isIn : GoodIn wsX6_where (va_wsS RX6 60 yX6_isIn wsX6_isIn) := goodIn_app (goodIn_of _ (by decide +kernel)) ggX6_where_X6_isIn
set_option maxRecDepth 20000 in
theorem ggX6_where_X6_copyRow : GoodIn wsX6_where wsX6_copyRow := goodIn_r _ [14] (by decide +kernel) (by decide +kernel)
set_option maxRecDepth 20000 in
theorem gX6_where_X6_copyRow : GoodIn wsX6_where (va_wsS RX6 146 yX6_copyRow wsX6_copyRow) := goodIn_app (goodIn_of _ (by decide +kernel)) ggX6_where_X6_copyRow
set_option maxRecDepth 20000 in
theorem ggX6_where_X6_goes : GoodIn wsX6_where wsX6_goes := goodIn_r _ [18, 19, 20, 21, 7, 22, 2, 23, 24, 25, 26, 27, 28, 29, 30, 31, 32, 33, 34, 35, 36, 37, 38, 39, 40, 41, 42, 43, 44, 45, 46, 47, 48, 49, 50, 51, 52, 53, 54, 55, 56, 57, 58, 59, 60, 61, 62, 63, 64, 65, 66, 67, 68, 69, 70, 71, 72, 73, 74, 75, 76, 77, 78, 79, 80, 81, 82, 83, 84] (by decide +kernel) (by decide +kernel)
set_option maxRecDepth 20000 in
theorem gX6_where_X6_goes : GoodIn wsX6_where (wsV RX6 215 RX6 yX6_goes wsX6_goes) := goodIn_app (goodIn_of _ (by decide +kernel)) ggX6_where_X6_goes
set_option maxRecDepth 20000 in
theorem ggX6_where_X6_its : GoodIn wsX6_where wsX6_its := goodIn_r _ [34, 2, 57, 58, 59, 60, 61, 62, 63, 64, 65, 66, 67, 68, 69, 70, 71, 72, 73, 74, 75, 76, 77, 78, 79, 80, 81, 82, 83, 84] (by decide +kernel) (by decide +kernel)
set_option maxRecDepth 20000 in
theorem gX6_where_X6_its : GoodIn wsX6_where (wsV RX6 169 RX6 yX6_its wsX6_its) := goodIn_app (goodIn_of _ (by decide +kernel)) ggX6_where_X6_its
theorem dX6_where_0 : decode cX6_where 0 = .ok (.aload_n 0, 1) := by decide +kernel
theorem dX6_where_1 : decode cX6_where 1 = .ok (.iload_n 1, 1) := by decide +kernel
theorem dX6_where_2 : decode cX6_where 2 = .ok (.invokevirtual 187, 3) := by decide +kernel
theorem dX6_where_5 : decode cX6_where 5 = .ok (.ifCond .eq 15, 3) := by decide +kernel
theorem dX6_where_8 : decode cX6_where 8 = .ok (.iload_n 2, 1) := by decide +kernel
theorem dX6_where_9 : decode cX6_where 9 = .ok (.i2l, 1) := by decide +kernel
theorem dX6_where_10 : decode cX6_where 10 = .ok (.lconst 0, 1) := by decide +kernel
theorem dX6_where_11 : decode cX6_where 11 = .ok (.ldc2_w 213, 3) := by decide +kernel
theorem dX6_where_14 : decode cX6_where 14 = .ok (.invokestatic 60, 3) := by decide +kernel
theorem dX6_where_17 : decode cX6_where 17 = .ok (.ifCond .ne 5, 3) := by decide +kernel
theorem dX6_where_20 : decode cX6_where 20 = .ok (.iconst (-1), 1) := by decide +kernel
theorem dX6_where_21 : decode cX6_where 21 = .ok (.ireturn, 1) := by decide +kernel
theorem dX6_where_22 : decode cX6_where 22 = .ok (.aload_n 0, 1) := by decide +kernel
theorem dX6_where_23 : decode cX6_where 23 = .ok (.getfield 7, 3) := by decide +kernel
theorem dX6_where_26 : decode cX6_where 26 = .ok (.aload_n 0, 1) := by decide +kernel
theorem dX6_where_27 : decode cX6_where 27 = .ok (.getfield 16, 3) := by decide +kernel
theorem dX6_where_30 : decode cX6_where 30 = .ok (.invokestatic 146, 3) := by decide +kernel
theorem dX6_where_33 : decode cX6_where 33 = .ok (.aload_n 0, 1) := by decide +kernel
theorem dX6_where_34 : decode cX6_where 34 = .ok (.iload_n 2, 1) := by decide +kernel
theorem dX6_where_35 : decode cX6_where 35 = .ok (.invokevirtual 215, 3) := by decide +kernel
theorem dX6_where_38 : decode cX6_where 38 = .ok (.aload_n 0, 1) := by decide +kernel
theorem dX6_where_39 : decode cX6_where 39 = .ok (.iload_n 1, 1) := by decide +kernel
theorem dX6_where_40 : decode cX6_where 40 = .ok (.iconst 2, 1) := by decide +kernel
theorem dX6_where_41 : decode cX6_where 41 = .ok (.invokevirtual 169, 3) := by decide +kernel
theorem dX6_where_44 : decode cX6_where 44 = .ok (.istore_n 3, 1) := by decide +kernel
theorem dX6_where_45 : decode cX6_where 45 = .ok (.aload_n 0, 1) := by decide +kernel
theorem dX6_where_46 : decode cX6_where 46 = .ok (.getfield 16, 3) := by decide +kernel
theorem dX6_where_49 : decode cX6_where 49 = .ok (.aload_n 0, 1) := by decide +kernel
theorem dX6_where_50 : decode cX6_where 50 = .ok (.getfield 7, 3) := by decide +kernel
theorem dX6_where_53 : decode cX6_where 53 = .ok (.invokestatic 146, 3) := by decide +kernel
theorem dX6_where_56 : decode cX6_where 56 = .ok (.iload_n 3, 1) := by decide +kernel
theorem dX6_where_57 : decode cX6_where 57 = .ok (.ireturn, 1) := by decide +kernel
set_option maxRecDepth 20000 in
theorem ggX6_comesBy_X6_copyRow : GoodIn wsX6_comesBy wsX6_copyRow := goodIn_r _ [6] (by decide +kernel) (by decide +kernel)
set_option maxRecDepth 20000 in
theorem gX6_comesBy_X6_copyRow : GoodIn wsX6_comesBy (va_wsS RX6 146 yX6_copyRow wsX6_copyRow) := goodIn_app (goodIn_of _ (by decide +kernel)) ggX6_comesBy_X6_copyRow
set_option maxRecDepth 20000 in
theorem ggX6_comesBy_X6_its : GoodIn wsX6_comesBy wsX6_its := goodIn_r _ [10, 1, 49, 50, 51, 52, 53, 54, 55, 56, 57, 58, 59, 60, 61, 62, 63, 64, 65, 66, 67, 68, 69, 70, 71, 72, 73, 74, 75, 76] (by decide +kernel) (by decide +kernel)
set_option maxRecDepth 20000 in
theorem gX6_comesBy_X6_its : GoodIn wsX6_comesBy (wsV RX6 169 RX6 yX6_its wsX6_its) := goodIn_app (goodIn_of _ (by decide +kernel)) ggX6_comesBy_X6_its
set_option maxRecDepth 20000 in
theorem ggX6_comesBy_X6_goes : GoodIn wsX6_comesBy wsX6_goes := goodIn_r _ [14, 15, 16, 17, 5, 18, 1, 19, 20, 21, 22, 23, 24, 25, 26, 7, 8, 9, 10, 27, 28, 29, 30, 31, 32, 33, 34, 35, 36, 37, 38, 39, 40, 41, 42, 43, 44, 45, 46, 47, 48, 49, 50, 51, 52, 53, 54, 55, 56, 57, 58, 59, 60, 61, 62, 63, 64, 65, 66, 67, 68, 69, 70, 71, 72, 73, 74, 75, 76] (by decide +kernel) (by decide +kernel)
set_option maxRecDepth 20000 in
theorem gX6_comesBy_X6_goes : GoodIn wsX6_comesBy (wsV RX6 215 RX6 yX6_goes wsX6_goes) := goodIn_app (goodIn_of _ (by decide +kernel)) ggX6_comesBy_X6_goes
theorem dX6_comesBy_0 : decode cX6_comesBy 0 = .ok (.aload_n 0, 1) := by decide +kernel
theorem dX6_comesBy_1 : decode cX6_comesBy 1 = .ok (.getfield 7, 3) := by decide +kernel
theorem dX6_comesBy_4 : decode cX6_comesBy 4 = .ok (.aload_n 0, 1) := by decide +kernel
theorem dX6_comesBy_5 : decode cX6_comesBy 5 = .ok (.getfield 16, 3) := by decide +kernel
theorem dX6_comesBy_8 : decode cX6_comesBy 8 = .ok (.invokestatic 146, 3) := by decide +kernel
theorem dX6_comesBy_11 : decode cX6_comesBy 11 = .ok (.iconst 0, 1) := by decide +kernel
theorem dX6_comesBy_12 : decode cX6_comesBy 12 = .ok (.istore 4, 2) := by decide +kernel
theorem dX6_comesBy_14 : decode cX6_comesBy 14 = .ok (.iload 4, 2) := by decide +kernel
theorem dX6_comesBy_16 : decode cX6_comesBy 16 = .ok (.iload_n 3, 1) := by decide +kernel
theorem dX6_comesBy_17 : decode cX6_comesBy 17 = .ok (.if_icmp .gt 24, 3) := by decide +kernel
theorem dX6_comesBy_20 : decode cX6_comesBy 20 = .ok (.aload_n 0, 1) := by decide +kernel
theorem dX6_comesBy_21 : decode cX6_comesBy 21 = .ok (.iload_n 1, 1) := by decide +kernel
theorem dX6_comesBy_22 : decode cX6_comesBy 22 = .ok (.iconst 2, 1) := by decide +kernel
theorem dX6_comesBy_23 : decode cX6_comesBy 23 = .ok (.invokevirtual 169, 3) := by decide +kernel
theorem dX6_comesBy_26 : decode cX6_comesBy 26 = .ok (.iload_n 2, 1) := by decide +kernel
theorem dX6_comesBy_27 : decode cX6_comesBy 27 = .ok (.if_icmp .eq 14, 3) := by decide +kernel
theorem dX6_comesBy_30 : decode cX6_comesBy 30 = .ok (.aload_n 0, 1) := by decide +kernel
theorem dX6_comesBy_31 : decode cX6_comesBy 31 = .ok (.iconst 1, 1) := by decide +kernel
theorem dX6_comesBy_32 : decode cX6_comesBy 32 = .ok (.invokevirtual 215, 3) := by decide +kernel
theorem dX6_comesBy_35 : decode cX6_comesBy 35 = .ok (.iinc 4 1, 3) := by decide +kernel
theorem dX6_comesBy_38 : decode cX6_comesBy 38 = .ok (.goto (-24), 3) := by decide +kernel
theorem dX6_comesBy_41 : decode cX6_comesBy 41 = .ok (.aload_n 0, 1) := by decide +kernel
theorem dX6_comesBy_42 : decode cX6_comesBy 42 = .ok (.getfield 16, 3) := by decide +kernel
theorem dX6_comesBy_45 : decode cX6_comesBy 45 = .ok (.aload_n 0, 1) := by decide +kernel
theorem dX6_comesBy_46 : decode cX6_comesBy 46 = .ok (.getfield 7, 3) := by decide +kernel
theorem dX6_comesBy_49 : decode cX6_comesBy 49 = .ok (.invokestatic 146, 3) := by decide +kernel
theorem dX6_comesBy_52 : decode cX6_comesBy 52 = .ok (.iload 4, 2) := by decide +kernel
theorem dX6_comesBy_54 : decode cX6_comesBy 54 = .ok (.ireturn, 1) := by decide +kernel
set_option maxRecDepth 20000 in
theorem ggX6_comes_X6_isOne : GoodIn wsX6_comes wsX6_isOne := goodIn_r _ [5, 6, 60, 61, 62, 63, 64, 65, 66, 67, 68, 69, 70, 71, 72, 73, 74, 75, 76, 77, 78, 79, 80, 81, 82, 83, 84, 85, 86, 87] (by decide +kernel) (by decide +kernel)
set_option maxRecDepth 20000 in
theorem gX6_comes_X6_isOne : GoodIn wsX6_comes (wsV RX6 187 RX6 yX6_isOne wsX6_isOne) := goodIn_app (goodIn_of _ (by decide +kernel)) ggX6_comes_X6_isOne
set_option maxRecDepth 20000 in
theorem ggX6_comes_X6_isPerson : GoodIn wsX6_comes wsX6_isPerson := goodIn_r _ [9] (by decide +kernel) (by decide +kernel)
set_option maxRecDepth 20000 in
theorem gX6_comes_X6_isPerson : GoodIn wsX6_comes (va_wsS RX6 166 yX6_isPerson wsX6_isPerson) := goodIn_app (goodIn_of _ (by decide +kernel)) ggX6_comes_X6_isPerson
set_option maxRecDepth 20000 in
theorem ggX6_comes_X6_comesBy : GoodIn wsX6_comes wsX6_comesBy := goodIn_r _ [13, 6, 14, 15, 16, 4, 17, 18, 19, 20, 21, 22, 23, 24, 25, 26, 27, 28, 29, 30, 31, 32, 33, 34, 35, 36, 37, 38, 39, 40, 41, 42, 43, 44, 45, 46, 47, 48, 49, 50, 51, 52, 53, 54, 55, 56, 57, 58, 59, 60, 61, 62, 63, 64, 65, 66, 67, 68, 69, 70, 71, 72, 73, 74, 75, 76, 77, 78, 79, 80, 81, 82, 83, 84, 85, 86, 87] (by decide +kernel) (by decide +kernel)
set_option maxRecDepth 20000 in
theorem gX6_comes_X6_comesBy : GoodIn wsX6_comes (wsV RX6 245 RX6 yX6_comesBy wsX6_comesBy) := goodIn_app (goodIn_of _ (by decide +kernel)) ggX6_comes_X6_comesBy
theorem dX6_comes_0 : decode cX6_comes 0 = .ok (.aload_n 0, 1) := by decide +kernel
theorem dX6_comes_1 : decode cX6_comes 1 = .ok (.iload_n 1, 1) := by decide +kernel
theorem dX6_comes_2 : decode cX6_comes 2 = .ok (.invokevirtual 187, 3) := by decide +kernel
theorem dX6_comes_5 : decode cX6_comes 5 = .ok (.ifCond .eq 10, 3) := by decide +kernel
theorem dX6_comes_8 : decode cX6_comes 8 = .ok (.iload_n 2, 1) := by decide +kernel
theorem dX6_comes_9 : decode cX6_comes 9 = .ok (.invokestatic 166, 3) := by decide +kernel
theorem dX6_comes_12 : decode cX6_comes 12 = .ok (.ifCond .ne 5, 3) := by decide +kernel
theorem dX6_comes_15 : decode cX6_comes 15 = .ok (.iconst (-1), 1) := by decide +kernel
theorem dX6_comes_16 : decode cX6_comes 16 = .ok (.ireturn, 1) := by decide +kernel
theorem dX6_comes_17 : decode cX6_comes 17 = .ok (.aload_n 0, 1) := by decide +kernel
theorem dX6_comes_18 : decode cX6_comes 18 = .ok (.iload_n 1, 1) := by decide +kernel
theorem dX6_comes_19 : decode cX6_comes 19 = .ok (.iload_n 2, 1) := by decide +kernel
theorem dX6_comes_20 : decode cX6_comes 20 = .ok (.bipush 60, 2) := by decide +kernel
theorem dX6_comes_22 : decode cX6_comes 22 = .ok (.invokevirtual 245, 3) := by decide +kernel
theorem dX6_comes_25 : decode cX6_comes 25 = .ok (.istore_n 3, 1) := by decide +kernel
theorem dX6_comes_26 : decode cX6_comes 26 = .ok (.iload_n 3, 1) := by decide +kernel
theorem dX6_comes_27 : decode cX6_comes 27 = .ok (.bipush 60, 2) := by decide +kernel
theorem dX6_comes_29 : decode cX6_comes 29 = .ok (.if_icmp .gt 7, 3) := by decide +kernel
theorem dX6_comes_32 : decode cX6_comes 32 = .ok (.iload_n 3, 1) := by decide +kernel
theorem dX6_comes_33 : decode cX6_comes 33 = .ok (.goto 5, 3) := by decide +kernel
theorem dX6_comes_36 : decode cX6_comes 36 = .ok (.bipush (-3), 2) := by decide +kernel
theorem dX6_comes_38 : decode cX6_comes 38 = .ok (.ireturn, 1) := by decide +kernel
set_option maxRecDepth 20000 in
theorem ggX6_bare_X6_isPerson : GoodIn wsX6_bare wsX6_isPerson := goodIn_r _ [6] (by decide +kernel) (by decide +kernel)
set_option maxRecDepth 20000 in
theorem gX6_bare_X6_isPerson : GoodIn wsX6_bare (va_wsS RX6 166 yX6_isPerson wsX6_isPerson) := goodIn_app (goodIn_of _ (by decide +kernel)) ggX6_bare_X6_isPerson
set_option maxRecDepth 20000 in
theorem ggX6_bare_X6_copyRow : GoodIn wsX6_bare wsX6_copyRow := goodIn_r _ [9] (by decide +kernel) (by decide +kernel)
set_option maxRecDepth 20000 in
theorem gX6_bare_X6_copyRow : GoodIn wsX6_bare (va_wsS RX6 146 yX6_copyRow wsX6_copyRow) := goodIn_app (goodIn_of _ (by decide +kernel)) ggX6_bare_X6_copyRow
set_option maxRecDepth 20000 in
theorem ggX6_bare_X6_marksOn : GoodIn wsX6_bare wsX6_marksOn := goodIn_r _ [13, 1, 14, 15, 16, 5, 17, 52, 53, 54, 55, 56, 57, 58, 59, 60, 61, 62, 63, 64, 65, 66, 67, 68, 69, 70, 71, 72, 73, 74, 75, 76, 77, 78, 79] (by decide +kernel) (by decide +kernel)
set_option maxRecDepth 20000 in
theorem gX6_bare_X6_marksOn : GoodIn wsX6_bare (wsV RX6 172 RX6 yX6_marksOn wsX6_marksOn) := goodIn_app (goodIn_of _ (by decide +kernel)) ggX6_bare_X6_marksOn
set_option maxRecDepth 20000 in
theorem ggX6_bare_X6_goes : GoodIn wsX6_bare wsX6_goes := goodIn_r _ [21, 22, 23, 24, 5, 25, 1, 26, 27, 28, 29, 30, 31, 32, 33, 14, 15, 16, 17, 34, 35, 36, 37, 10, 11, 12, 13, 38, 39, 40, 41, 42, 43, 44, 45, 46, 47, 48, 49, 50, 51, 52, 53, 54, 55, 56, 57, 58, 59, 60, 61, 62, 63, 64, 65, 66, 67, 68, 69, 70, 71, 72, 73, 74, 75, 76, 77, 78, 79] (by decide +kernel) (by decide +kernel)
set_option maxRecDepth 20000 in
theorem gX6_bare_X6_goes : GoodIn wsX6_bare (wsV RX6 215 RX6 yX6_goes wsX6_goes) := goodIn_app (goodIn_of _ (by decide +kernel)) ggX6_bare_X6_goes
theorem dX6_bare_0 : decode cX6_bare 0 = .ok (.iload_n 1, 1) := by decide +kernel
theorem dX6_bare_1 : decode cX6_bare 1 = .ok (.invokestatic 166, 3) := by decide +kernel
theorem dX6_bare_4 : decode cX6_bare 4 = .ok (.ifCond .ne 5, 3) := by decide +kernel
theorem dX6_bare_7 : decode cX6_bare 7 = .ok (.iconst (-1), 1) := by decide +kernel
theorem dX6_bare_8 : decode cX6_bare 8 = .ok (.ireturn, 1) := by decide +kernel
theorem dX6_bare_9 : decode cX6_bare 9 = .ok (.aload_n 0, 1) := by decide +kernel
theorem dX6_bare_10 : decode cX6_bare 10 = .ok (.getfield 7, 3) := by decide +kernel
theorem dX6_bare_13 : decode cX6_bare 13 = .ok (.aload_n 0, 1) := by decide +kernel
theorem dX6_bare_14 : decode cX6_bare 14 = .ok (.getfield 16, 3) := by decide +kernel
theorem dX6_bare_17 : decode cX6_bare 17 = .ok (.invokestatic 146, 3) := by decide +kernel
theorem dX6_bare_20 : decode cX6_bare 20 = .ok (.iconst 0, 1) := by decide +kernel
theorem dX6_bare_21 : decode cX6_bare 21 = .ok (.istore_n 2, 1) := by decide +kernel
theorem dX6_bare_22 : decode cX6_bare 22 = .ok (.iload_n 2, 1) := by decide +kernel
theorem dX6_bare_23 : decode cX6_bare 23 = .ok (.bipush 60, 2) := by decide +kernel
theorem dX6_bare_25 : decode cX6_bare 25 = .ok (.if_icmp .gt 22, 3) := by decide +kernel
theorem dX6_bare_28 : decode cX6_bare 28 = .ok (.aload_n 0, 1) := by decide +kernel
theorem dX6_bare_29 : decode cX6_bare 29 = .ok (.iload_n 1, 1) := by decide +kernel
theorem dX6_bare_30 : decode cX6_bare 30 = .ok (.invokevirtual 172, 3) := by decide +kernel
theorem dX6_bare_33 : decode cX6_bare 33 = .ok (.ifCond .eq 14, 3) := by decide +kernel
theorem dX6_bare_36 : decode cX6_bare 36 = .ok (.aload_n 0, 1) := by decide +kernel
theorem dX6_bare_37 : decode cX6_bare 37 = .ok (.iconst 1, 1) := by decide +kernel
theorem dX6_bare_38 : decode cX6_bare 38 = .ok (.invokevirtual 215, 3) := by decide +kernel
theorem dX6_bare_41 : decode cX6_bare 41 = .ok (.iinc 2 1, 3) := by decide +kernel
theorem dX6_bare_44 : decode cX6_bare 44 = .ok (.goto (-22), 3) := by decide +kernel
theorem dX6_bare_47 : decode cX6_bare 47 = .ok (.aload_n 0, 1) := by decide +kernel
theorem dX6_bare_48 : decode cX6_bare 48 = .ok (.getfield 16, 3) := by decide +kernel
theorem dX6_bare_51 : decode cX6_bare 51 = .ok (.aload_n 0, 1) := by decide +kernel
theorem dX6_bare_52 : decode cX6_bare 52 = .ok (.getfield 7, 3) := by decide +kernel
theorem dX6_bare_55 : decode cX6_bare 55 = .ok (.invokestatic 146, 3) := by decide +kernel
theorem dX6_bare_58 : decode cX6_bare 58 = .ok (.iload_n 2, 1) := by decide +kernel
theorem dX6_bare_59 : decode cX6_bare 59 = .ok (.bipush 60, 2) := by decide +kernel
theorem dX6_bare_61 : decode cX6_bare 61 = .ok (.if_icmp .gt 7, 3) := by decide +kernel
theorem dX6_bare_64 : decode cX6_bare 64 = .ok (.iload_n 2, 1) := by decide +kernel
theorem dX6_bare_65 : decode cX6_bare 65 = .ok (.goto 5, 3) := by decide +kernel
theorem dX6_bare_68 : decode cX6_bare 68 = .ok (.bipush (-3), 2) := by decide +kernel
theorem dX6_bare_70 : decode cX6_bare 70 = .ok (.ireturn, 1) := by decide +kernel
set_option maxRecDepth 20000 in
theorem ggX6_dry_X6_copyRow : GoodIn wsX6_dry wsX6_copyRow := goodIn_r _ [6] (by decide +kernel) (by decide +kernel)
set_option maxRecDepth 20000 in
theorem gX6_dry_X6_copyRow : GoodIn wsX6_dry (va_wsS RX6 146 yX6_copyRow wsX6_copyRow) := goodIn_app (goodIn_of _ (by decide +kernel)) ggX6_dry_X6_copyRow
set_option maxRecDepth 20000 in
theorem ggX6_dry_X6_inkOfAll : GoodIn wsX6_dry wsX6_inkOfAll := goodIn_r _ [10, 1, 11, 12, 13, 5, 14, 53, 54, 55, 56, 57, 58, 59, 60, 61, 62, 63, 64, 65, 66, 67, 68, 69, 70, 71, 72, 73, 74, 75, 76, 77, 78, 79, 80] (by decide +kernel) (by decide +kernel)
set_option maxRecDepth 20000 in
theorem gX6_dry_X6_inkOfAll : GoodIn wsX6_dry (wsV RX6 233 RX6 yX6_inkOfAll wsX6_inkOfAll) := goodIn_app (goodIn_of _ (by decide +kernel)) ggX6_dry_X6_inkOfAll
set_option maxRecDepth 20000 in
theorem ggX6_dry_X6_goes : GoodIn wsX6_dry wsX6_goes := goodIn_r _ [18, 19, 20, 21, 5, 22, 1, 23, 24, 25, 26, 27, 28, 29, 30, 11, 12, 13, 14, 31, 32, 33, 34, 35, 36, 37, 38, 39, 40, 41, 42, 43, 44, 45, 46, 47, 48, 49, 50, 51, 52, 53, 54, 55, 56, 57, 58, 59, 60, 61, 62, 63, 64, 65, 66, 67, 68, 69, 70, 71, 72, 73, 74, 75, 76, 77, 78, 79, 80] (by decide +kernel) (by decide +kernel)
set_option maxRecDepth 20000 in
theorem gX6_dry_X6_goes : GoodIn wsX6_dry (wsV RX6 215 RX6 yX6_goes wsX6_goes) := goodIn_app (goodIn_of _ (by decide +kernel)) ggX6_dry_X6_goes
theorem dX6_dry_0 : decode cX6_dry 0 = .ok (.aload_n 0, 1) := by decide +kernel
theorem dX6_dry_1 : decode cX6_dry 1 = .ok (.getfield 7, 3) := by decide +kernel
theorem dX6_dry_4 : decode cX6_dry 4 = .ok (.aload_n 0, 1) := by decide +kernel
theorem dX6_dry_5 : decode cX6_dry 5 = .ok (.getfield 16, 3) := by decide +kernel
theorem dX6_dry_8 : decode cX6_dry 8 = .ok (.invokestatic 146, 3) := by decide +kernel
theorem dX6_dry_11 : decode cX6_dry 11 = .ok (.iconst 0, 1) := by decide +kernel
theorem dX6_dry_12 : decode cX6_dry 12 = .ok (.istore_n 1, 1) := by decide +kernel
theorem dX6_dry_13 : decode cX6_dry 13 = .ok (.iload_n 1, 1) := by decide +kernel
theorem dX6_dry_14 : decode cX6_dry 14 = .ok (.bipush 60, 2) := by decide +kernel
theorem dX6_dry_16 : decode cX6_dry 16 = .ok (.if_icmp .gt 21, 3) := by decide +kernel
theorem dX6_dry_19 : decode cX6_dry 19 = .ok (.aload_n 0, 1) := by decide +kernel
theorem dX6_dry_20 : decode cX6_dry 20 = .ok (.invokevirtual 233, 3) := by decide +kernel
theorem dX6_dry_23 : decode cX6_dry 23 = .ok (.ifCond .le 14, 3) := by decide +kernel
theorem dX6_dry_26 : decode cX6_dry 26 = .ok (.aload_n 0, 1) := by decide +kernel
theorem dX6_dry_27 : decode cX6_dry 27 = .ok (.iconst 1, 1) := by decide +kernel
theorem dX6_dry_28 : decode cX6_dry 28 = .ok (.invokevirtual 215, 3) := by decide +kernel
theorem dX6_dry_31 : decode cX6_dry 31 = .ok (.iinc 1 1, 3) := by decide +kernel
theorem dX6_dry_34 : decode cX6_dry 34 = .ok (.goto (-21), 3) := by decide +kernel
theorem dX6_dry_37 : decode cX6_dry 37 = .ok (.aload_n 0, 1) := by decide +kernel
theorem dX6_dry_38 : decode cX6_dry 38 = .ok (.getfield 16, 3) := by decide +kernel
theorem dX6_dry_41 : decode cX6_dry 41 = .ok (.aload_n 0, 1) := by decide +kernel
theorem dX6_dry_42 : decode cX6_dry 42 = .ok (.getfield 7, 3) := by decide +kernel
theorem dX6_dry_45 : decode cX6_dry 45 = .ok (.invokestatic 146, 3) := by decide +kernel
theorem dX6_dry_48 : decode cX6_dry 48 = .ok (.iload_n 1, 1) := by decide +kernel
theorem dX6_dry_49 : decode cX6_dry 49 = .ok (.bipush 60, 2) := by decide +kernel
theorem dX6_dry_51 : decode cX6_dry 51 = .ok (.if_icmp .gt 7, 3) := by decide +kernel
theorem dX6_dry_54 : decode cX6_dry 54 = .ok (.iload_n 1, 1) := by decide +kernel
theorem dX6_dry_55 : decode cX6_dry 55 = .ok (.goto 5, 3) := by decide +kernel
theorem dX6_dry_58 : decode cX6_dry 58 = .ok (.bipush (-3), 2) := by decide +kernel
theorem dX6_dry_60 : decode cX6_dry 60 = .ok (.ireturn, 1) := by decide +kernel
set_option maxRecDepth 20000 in
theorem ggX6_mayTry_X6_isOne : GoodIn wsX6_mayTry wsX6_isOne := goodIn_r _ [6, 7, 14, 15, 16, 17, 18, 19, 20, 21, 22, 23, 24, 25, 26, 27, 28, 29, 30, 31, 32, 33, 34, 35, 36, 37, 38, 39, 40, 41] (by decide +kernel) (by decide +kernel)
set_option maxRecDepth 20000 in
theorem gX6_mayTry_X6_isOne : GoodIn wsX6_mayTry (wsV RX6 187 RX6 yX6_isOne wsX6_isOne) := goodIn_app (goodIn_of _ (by decide +kernel)) ggX6_mayTry_X6_isOne
set_option maxRecDepth 20000 in
theorem ggX6_mayTry_X6_isPerson : GoodIn wsX6_mayTry wsX6_isPerson := goodIn_r _ [10] (by decide +kernel) (by decide +kernel)
set_option maxRecDepth 20000 in
theorem gX6_mayTry_X6_isPerson : GoodIn wsX6_mayTry (va_wsS RX6 166 yX6_isPerson wsX6_isPerson) := goodIn_app (goodIn_of _ (by decide +kernel)) ggX6_mayTry_X6_isPerson
set_option maxRecDepth 20000 in
theorem ggX6_mayTry_X6_isIn : GoodIn wsX6_mayTry wsX6_isIn := goodIn_r _ [13] (by decide +kernel) (by decide +kernel)
set_option maxRecDepth 20000 in
theorem gX6_mayTry_X6_isIn : GoodIn wsX6_mayTry (va_wsS RX6 60 yX6_isIn wsX6_isIn) := goodIn_app (goodIn_of _ (by decide +kernel)) ggX6_mayTry_X6_isIn
theorem dX6_mayTry_0 : decode cX6_mayTry 0 = .ok (.aload_n 0, 1) := by decide +kernel
theorem dX6_mayTry_1 : decode cX6_mayTry 1 = .ok (.iload_n 1, 1) := by decide +kernel
theorem dX6_mayTry_2 : decode cX6_mayTry 2 = .ok (.invokevirtual 187, 3) := by decide +kernel
theorem dX6_mayTry_5 : decode cX6_mayTry 5 = .ok (.ifCond .eq 26, 3) := by decide +kernel
theorem dX6_mayTry_8 : decode cX6_mayTry 8 = .ok (.iload_n 2, 1) := by decide +kernel
theorem dX6_mayTry_9 : decode cX6_mayTry 9 = .ok (.invokestatic 166, 3) := by decide +kernel
theorem dX6_mayTry_12 : decode cX6_mayTry 12 = .ok (.ifCond .eq 19, 3) := by decide +kernel
theorem dX6_mayTry_15 : decode cX6_mayTry 15 = .ok (.iload_n 3, 1) := by decide +kernel
theorem dX6_mayTry_16 : decode cX6_mayTry 16 = .ok (.i2l, 1) := by decide +kernel
theorem dX6_mayTry_17 : decode cX6_mayTry 17 = .ok (.lconst 0, 1) := by decide +kernel
theorem dX6_mayTry_18 : decode cX6_mayTry 18 = .ok (.ldc2_w 225, 3) := by decide +kernel
theorem dX6_mayTry_21 : decode cX6_mayTry 21 = .ok (.invokestatic 60, 3) := by decide +kernel
theorem dX6_mayTry_24 : decode cX6_mayTry 24 = .ok (.ifCond .eq 7, 3) := by decide +kernel
theorem dX6_mayTry_27 : decode cX6_mayTry 27 = .ok (.iconst 1, 1) := by decide +kernel
theorem dX6_mayTry_28 : decode cX6_mayTry 28 = .ok (.goto 4, 3) := by decide +kernel
theorem dX6_mayTry_31 : decode cX6_mayTry 31 = .ok (.iconst 0, 1) := by decide +kernel
theorem dX6_mayTry_32 : decode cX6_mayTry 32 = .ok (.ireturn, 1) := by decide +kernel
set_option maxRecDepth 20000 in
theorem ggX6_kindFor_X6_mayTry : GoodIn wsX6_kindFor wsX6_mayTry := goodIn_r _ [6, 7, 8, 9, 10, 5, 11, 1, 12, 13, 14, 15, 16, 17, 71, 72, 73, 74, 75, 76, 77, 78, 79, 80, 81, 82, 83, 84, 85, 86, 87, 88, 89, 90, 91, 92, 93, 94, 95, 96, 97, 98] (by decide +kernel) (by decide +kernel)
set_option maxRecDepth 20000 in
theorem gX6_kindFor_X6_mayTry : GoodIn wsX6_kindFor (wsV RX6 249 RX6 yX6_mayTry wsX6_mayTry) := goodIn_app (goodIn_of _ (by decide +kernel)) ggX6_kindFor_X6_mayTry
set_option maxRecDepth 20000 in
theorem ggX6_kindFor_X6_comesBy : GoodIn wsX6_kindFor wsX6_comesBy := goodIn_r _ [21, 1, 22, 23, 24, 5, 25, 26, 27, 28, 29, 30, 31, 32, 33, 34, 35, 36, 37, 38, 39, 40, 41, 42, 43, 44, 45, 46, 47, 48, 49, 50, 51, 52, 53, 54, 55, 56, 57, 58, 59, 60, 61, 62, 63, 64, 65, 66, 67, 71, 72, 73, 74, 75, 76, 77, 78, 79, 80, 81, 82, 83, 84, 85, 86, 87, 88, 89, 90, 91, 92, 93, 94, 95, 96, 97, 98] (by decide +kernel) (by decide +kernel)
set_option maxRecDepth 20000 in
theorem gX6_kindFor_X6_comesBy : GoodIn wsX6_kindFor (wsV RX6 245 RX6 yX6_comesBy wsX6_comesBy) := goodIn_app (goodIn_of _ (by decide +kernel)) ggX6_kindFor_X6_comesBy
set_option maxRecDepth 20000 in
theorem ggX6_kindFor_X6_least : GoodIn wsX6_kindFor wsX6_least := goodIn_r _ [70] (by decide +kernel) (by decide +kernel)
set_option maxRecDepth 20000 in
theorem gX6_kindFor_X6_least : GoodIn wsX6_kindFor (va_wsS RX6 253 yX6_least wsX6_least) := goodIn_app (goodIn_of _ (by decide +kernel)) ggX6_kindFor_X6_least
theorem dX6_kindFor_0 : decode cX6_kindFor 0 = .ok (.aload_n 0, 1) := by decide +kernel
theorem dX6_kindFor_1 : decode cX6_kindFor 1 = .ok (.iload_n 1, 1) := by decide +kernel
theorem dX6_kindFor_2 : decode cX6_kindFor 2 = .ok (.iload_n 2, 1) := by decide +kernel
theorem dX6_kindFor_3 : decode cX6_kindFor 3 = .ok (.iload_n 3, 1) := by decide +kernel
theorem dX6_kindFor_4 : decode cX6_kindFor 4 = .ok (.invokevirtual 249, 3) := by decide +kernel
theorem dX6_kindFor_7 : decode cX6_kindFor 7 = .ok (.ifCond .ne 5, 3) := by decide +kernel
theorem dX6_kindFor_10 : decode cX6_kindFor 10 = .ok (.iconst (-1), 1) := by decide +kernel
theorem dX6_kindFor_11 : decode cX6_kindFor 11 = .ok (.ireturn, 1) := by decide +kernel
theorem dX6_kindFor_12 : decode cX6_kindFor 12 = .ok (.bipush 19, 2) := by decide +kernel
theorem dX6_kindFor_14 : decode cX6_kindFor 14 = .ok (.iconst 3, 1) := by decide +kernel
theorem dX6_kindFor_15 : decode cX6_kindFor 15 = .ok (.iload_n 1, 1) := by decide +kernel
theorem dX6_kindFor_16 : decode cX6_kindFor 16 = .ok (.imul, 1) := by decide +kernel
theorem dX6_kindFor_17 : decode cX6_kindFor 17 = .ok (.iadd, 1) := by decide +kernel
theorem dX6_kindFor_18 : decode cX6_kindFor 18 = .ok (.istore 4, 2) := by decide +kernel
theorem dX6_kindFor_20 : decode cX6_kindFor 20 = .ok (.aload_n 0, 1) := by decide +kernel
theorem dX6_kindFor_21 : decode cX6_kindFor 21 = .ok (.getfield 7, 3) := by decide +kernel
theorem dX6_kindFor_24 : decode cX6_kindFor 24 = .ok (.iload 4, 2) := by decide +kernel
theorem dX6_kindFor_26 : decode cX6_kindFor 26 = .ok (.iaload, 1) := by decide +kernel
theorem dX6_kindFor_27 : decode cX6_kindFor 27 = .ok (.istore 5, 2) := by decide +kernel
theorem dX6_kindFor_29 : decode cX6_kindFor 29 = .ok (.iconst 0, 1) := by decide +kernel
theorem dX6_kindFor_30 : decode cX6_kindFor 30 = .ok (.istore 6, 2) := by decide +kernel
theorem dX6_kindFor_32 : decode cX6_kindFor 32 = .ok (.sipush 1000, 3) := by decide +kernel
theorem dX6_kindFor_35 : decode cX6_kindFor 35 = .ok (.istore 7, 2) := by decide +kernel
theorem dX6_kindFor_37 : decode cX6_kindFor 37 = .ok (.iconst 0, 1) := by decide +kernel
theorem dX6_kindFor_38 : decode cX6_kindFor 38 = .ok (.istore 8, 2) := by decide +kernel
theorem dX6_kindFor_40 : decode cX6_kindFor 40 = .ok (.iload 8, 2) := by decide +kernel
theorem dX6_kindFor_42 : decode cX6_kindFor 42 = .ok (.iconst 5, 1) := by decide +kernel
theorem dX6_kindFor_43 : decode cX6_kindFor 43 = .ok (.if_icmp .gt 52, 3) := by decide +kernel
theorem dX6_kindFor_46 : decode cX6_kindFor 46 = .ok (.aload_n 0, 1) := by decide +kernel
theorem dX6_kindFor_47 : decode cX6_kindFor 47 = .ok (.getfield 7, 3) := by decide +kernel
theorem dX6_kindFor_50 : decode cX6_kindFor 50 = .ok (.iload 4, 2) := by decide +kernel
theorem dX6_kindFor_52 : decode cX6_kindFor 52 = .ok (.iload 8, 2) := by decide +kernel
theorem dX6_kindFor_54 : decode cX6_kindFor 54 = .ok (.iastore, 1) := by decide +kernel
theorem dX6_kindFor_55 : decode cX6_kindFor 55 = .ok (.aload_n 0, 1) := by decide +kernel
theorem dX6_kindFor_56 : decode cX6_kindFor 56 = .ok (.iload_n 1, 1) := by decide +kernel
theorem dX6_kindFor_57 : decode cX6_kindFor 57 = .ok (.iload_n 2, 1) := by decide +kernel
theorem dX6_kindFor_58 : decode cX6_kindFor 58 = .ok (.iload_n 3, 1) := by decide +kernel
theorem dX6_kindFor_59 : decode cX6_kindFor 59 = .ok (.invokevirtual 245, 3) := by decide +kernel
theorem dX6_kindFor_62 : decode cX6_kindFor 62 = .ok (.istore 9, 2) := by decide +kernel
theorem dX6_kindFor_64 : decode cX6_kindFor 64 = .ok (.iload 9, 2) := by decide +kernel
theorem dX6_kindFor_66 : decode cX6_kindFor 66 = .ok (.iload 7, 2) := by decide +kernel
theorem dX6_kindFor_68 : decode cX6_kindFor 68 = .ok (.if_icmp .ge 8, 3) := by decide +kernel
theorem dX6_kindFor_71 : decode cX6_kindFor 71 = .ok (.iload 8, 2) := by decide +kernel
theorem dX6_kindFor_73 : decode cX6_kindFor 73 = .ok (.goto 5, 3) := by decide +kernel
theorem dX6_kindFor_76 : decode cX6_kindFor 76 = .ok (.iload 6, 2) := by decide +kernel
theorem dX6_kindFor_78 : decode cX6_kindFor 78 = .ok (.istore 6, 2) := by decide +kernel
theorem dX6_kindFor_80 : decode cX6_kindFor 80 = .ok (.iload 7, 2) := by decide +kernel
theorem dX6_kindFor_82 : decode cX6_kindFor 82 = .ok (.iload 9, 2) := by decide +kernel
theorem dX6_kindFor_84 : decode cX6_kindFor 84 = .ok (.invokestatic 253, 3) := by decide +kernel
theorem dX6_kindFor_87 : decode cX6_kindFor 87 = .ok (.istore 7, 2) := by decide +kernel
theorem dX6_kindFor_89 : decode cX6_kindFor 89 = .ok (.iinc 8 1, 3) := by decide +kernel
theorem dX6_kindFor_92 : decode cX6_kindFor 92 = .ok (.goto (-52), 3) := by decide +kernel
theorem dX6_kindFor_95 : decode cX6_kindFor 95 = .ok (.aload_n 0, 1) := by decide +kernel
theorem dX6_kindFor_96 : decode cX6_kindFor 96 = .ok (.getfield 7, 3) := by decide +kernel
theorem dX6_kindFor_99 : decode cX6_kindFor 99 = .ok (.iload 4, 2) := by decide +kernel
theorem dX6_kindFor_101 : decode cX6_kindFor 101 = .ok (.iload 5, 2) := by decide +kernel
theorem dX6_kindFor_103 : decode cX6_kindFor 103 = .ok (.iastore, 1) := by decide +kernel
theorem dX6_kindFor_104 : decode cX6_kindFor 104 = .ok (.iload 6, 2) := by decide +kernel
theorem dX6_kindFor_106 : decode cX6_kindFor 106 = .ok (.ireturn, 1) := by decide +kernel
set_option maxRecDepth 20000 in
theorem ggX6_inkFor_X6_mayTry : GoodIn wsX6_inkFor wsX6_mayTry := goodIn_r _ [6, 7, 8, 9, 10, 5, 11, 1, 12, 13, 14, 15, 16, 17, 68, 69, 70, 71, 72, 73, 74, 75, 76, 77, 78, 79, 80, 81, 82, 83, 84, 85, 86, 87, 88, 89, 90, 91, 92, 93, 94, 95] (by decide +kernel) (by decide +kernel)
set_option maxRecDepth 20000 in
theorem gX6_inkFor_X6_mayTry : GoodIn wsX6_inkFor (wsV RX6 249 RX6 yX6_mayTry wsX6_mayTry) := goodIn_app (goodIn_of _ (by decide +kernel)) ggX6_inkFor_X6_mayTry
set_option maxRecDepth 20000 in
theorem ggX6_inkFor_X6_comesBy : GoodIn wsX6_inkFor wsX6_comesBy := goodIn_r _ [21, 1, 22, 23, 24, 5, 25, 26, 27, 28, 29, 30, 31, 32, 33, 34, 35, 36, 37, 38, 39, 40, 41, 42, 43, 44, 45, 46, 47, 48, 49, 50, 51, 52, 53, 54, 55, 56, 57, 58, 59, 60, 61, 62, 63, 64, 65, 66, 67, 68, 69, 70, 71, 72, 73, 74, 75, 76, 77, 78, 79, 80, 81, 82, 83, 84, 85, 86, 87, 88, 89, 90, 91, 92, 93, 94, 95] (by decide +kernel) (by decide +kernel)
set_option maxRecDepth 20000 in
theorem gX6_inkFor_X6_comesBy : GoodIn wsX6_inkFor (wsV RX6 245 RX6 yX6_comesBy wsX6_comesBy) := goodIn_app (goodIn_of _ (by decide +kernel)) ggX6_inkFor_X6_comesBy
theorem dX6_inkFor_0 : decode cX6_inkFor 0 = .ok (.aload_n 0, 1) := by decide +kernel
theorem dX6_inkFor_1 : decode cX6_inkFor 1 = .ok (.iload_n 1, 1) := by decide +kernel
theorem dX6_inkFor_2 : decode cX6_inkFor 2 = .ok (.iload_n 2, 1) := by decide +kernel
theorem dX6_inkFor_3 : decode cX6_inkFor 3 = .ok (.iload_n 3, 1) := by decide +kernel
theorem dX6_inkFor_4 : decode cX6_inkFor 4 = .ok (.invokevirtual 249, 3) := by decide +kernel
theorem dX6_inkFor_7 : decode cX6_inkFor 7 = .ok (.ifCond .ne 5, 3) := by decide +kernel
theorem dX6_inkFor_10 : decode cX6_inkFor 10 = .ok (.iconst (-1), 1) := by decide +kernel
theorem dX6_inkFor_11 : decode cX6_inkFor 11 = .ok (.ireturn, 1) := by decide +kernel
theorem dX6_inkFor_12 : decode cX6_inkFor 12 = .ok (.bipush 19, 2) := by decide +kernel
theorem dX6_inkFor_14 : decode cX6_inkFor 14 = .ok (.iconst 3, 1) := by decide +kernel
theorem dX6_inkFor_15 : decode cX6_inkFor 15 = .ok (.iload_n 1, 1) := by decide +kernel
theorem dX6_inkFor_16 : decode cX6_inkFor 16 = .ok (.imul, 1) := by decide +kernel
theorem dX6_inkFor_17 : decode cX6_inkFor 17 = .ok (.iadd, 1) := by decide +kernel
theorem dX6_inkFor_18 : decode cX6_inkFor 18 = .ok (.iconst 1, 1) := by decide +kernel
theorem dX6_inkFor_19 : decode cX6_inkFor 19 = .ok (.iadd, 1) := by decide +kernel
theorem dX6_inkFor_20 : decode cX6_inkFor 20 = .ok (.istore 4, 2) := by decide +kernel
theorem dX6_inkFor_22 : decode cX6_inkFor 22 = .ok (.aload_n 0, 1) := by decide +kernel
theorem dX6_inkFor_23 : decode cX6_inkFor 23 = .ok (.getfield 7, 3) := by decide +kernel
theorem dX6_inkFor_26 : decode cX6_inkFor 26 = .ok (.iload 4, 2) := by decide +kernel
theorem dX6_inkFor_28 : decode cX6_inkFor 28 = .ok (.iaload, 1) := by decide +kernel
theorem dX6_inkFor_29 : decode cX6_inkFor 29 = .ok (.istore 5, 2) := by decide +kernel
theorem dX6_inkFor_31 : decode cX6_inkFor 31 = .ok (.bipush (-3), 2) := by decide +kernel
theorem dX6_inkFor_33 : decode cX6_inkFor 33 = .ok (.istore 6, 2) := by decide +kernel
theorem dX6_inkFor_35 : decode cX6_inkFor 35 = .ok (.iconst 0, 1) := by decide +kernel
theorem dX6_inkFor_36 : decode cX6_inkFor 36 = .ok (.istore 7, 2) := by decide +kernel
theorem dX6_inkFor_38 : decode cX6_inkFor 38 = .ok (.iload 7, 2) := by decide +kernel
theorem dX6_inkFor_40 : decode cX6_inkFor 40 = .ok (.bipush 99, 2) := by decide +kernel
theorem dX6_inkFor_42 : decode cX6_inkFor 42 = .ok (.if_icmp .gt 43, 3) := by decide +kernel
theorem dX6_inkFor_45 : decode cX6_inkFor 45 = .ok (.iload 6, 2) := by decide +kernel
theorem dX6_inkFor_47 : decode cX6_inkFor 47 = .ok (.ifCond .ge 38, 3) := by decide +kernel
theorem dX6_inkFor_50 : decode cX6_inkFor 50 = .ok (.aload_n 0, 1) := by decide +kernel
theorem dX6_inkFor_51 : decode cX6_inkFor 51 = .ok (.getfield 7, 3) := by decide +kernel
theorem dX6_inkFor_54 : decode cX6_inkFor 54 = .ok (.iload 4, 2) := by decide +kernel
theorem dX6_inkFor_56 : decode cX6_inkFor 56 = .ok (.iload 7, 2) := by decide +kernel
theorem dX6_inkFor_58 : decode cX6_inkFor 58 = .ok (.iastore, 1) := by decide +kernel
theorem dX6_inkFor_59 : decode cX6_inkFor 59 = .ok (.aload_n 0, 1) := by decide +kernel
theorem dX6_inkFor_60 : decode cX6_inkFor 60 = .ok (.iload_n 1, 1) := by decide +kernel
theorem dX6_inkFor_61 : decode cX6_inkFor 61 = .ok (.iload_n 2, 1) := by decide +kernel
theorem dX6_inkFor_62 : decode cX6_inkFor 62 = .ok (.iload_n 3, 1) := by decide +kernel
theorem dX6_inkFor_63 : decode cX6_inkFor 63 = .ok (.invokevirtual 245, 3) := by decide +kernel
theorem dX6_inkFor_66 : decode cX6_inkFor 66 = .ok (.iload_n 3, 1) := by decide +kernel
theorem dX6_inkFor_67 : decode cX6_inkFor 67 = .ok (.if_icmp .gt 8, 3) := by decide +kernel
theorem dX6_inkFor_70 : decode cX6_inkFor 70 = .ok (.iload 7, 2) := by decide +kernel
theorem dX6_inkFor_72 : decode cX6_inkFor 72 = .ok (.goto 5, 3) := by decide +kernel
theorem dX6_inkFor_75 : decode cX6_inkFor 75 = .ok (.bipush (-3), 2) := by decide +kernel
theorem dX6_inkFor_77 : decode cX6_inkFor 77 = .ok (.istore 6, 2) := by decide +kernel
theorem dX6_inkFor_79 : decode cX6_inkFor 79 = .ok (.iinc 7 1, 3) := by decide +kernel
theorem dX6_inkFor_82 : decode cX6_inkFor 82 = .ok (.goto (-44), 3) := by decide +kernel
theorem dX6_inkFor_85 : decode cX6_inkFor 85 = .ok (.aload_n 0, 1) := by decide +kernel
theorem dX6_inkFor_86 : decode cX6_inkFor 86 = .ok (.getfield 7, 3) := by decide +kernel
theorem dX6_inkFor_89 : decode cX6_inkFor 89 = .ok (.iload 4, 2) := by decide +kernel
theorem dX6_inkFor_91 : decode cX6_inkFor 91 = .ok (.iload 5, 2) := by decide +kernel
theorem dX6_inkFor_93 : decode cX6_inkFor 93 = .ok (.iastore, 1) := by decide +kernel
theorem dX6_inkFor_94 : decode cX6_inkFor 94 = .ok (.iload 6, 2) := by decide +kernel
theorem dX6_inkFor_96 : decode cX6_inkFor 96 = .ok (.ireturn, 1) := by decide +kernel
set_option maxRecDepth 20000 in
theorem ggX6_touchFor_X6_mayTry : GoodIn wsX6_touchFor wsX6_mayTry := goodIn_r _ [6, 7, 8, 9, 10, 5, 11, 1, 12, 13, 14, 15, 16, 17, 75, 76, 77, 78, 79, 80, 81, 82, 83, 84, 85, 86, 87, 88, 89, 90, 91, 92, 93, 94, 95, 96, 97, 98, 99, 100, 101, 102] (by decide +kernel) (by decide +kernel)
set_option maxRecDepth 20000 in
theorem gX6_touchFor_X6_mayTry : GoodIn wsX6_touchFor (wsV RX6 249 RX6 yX6_mayTry wsX6_mayTry) := goodIn_app (goodIn_of _ (by decide +kernel)) ggX6_touchFor_X6_mayTry
set_option maxRecDepth 20000 in
theorem ggX6_touchFor_X6_comesBy : GoodIn wsX6_touchFor wsX6_comesBy := goodIn_r _ [21, 1, 22, 23, 24, 5, 25, 26, 27, 28, 29, 30, 31, 32, 33, 34, 35, 36, 37, 38, 39, 40, 41, 42, 43, 44, 45, 46, 47, 48, 49, 50, 51, 52, 53, 54, 55, 56, 57, 58, 59, 60, 61, 62, 63, 64, 65, 66, 67, 75, 76, 77, 78, 79, 80, 81, 82, 83, 84, 85, 86, 87, 88, 89, 90, 91, 92, 93, 94, 95, 96, 97, 98, 99, 100, 101, 102] (by decide +kernel) (by decide +kernel)
set_option maxRecDepth 20000 in
theorem gX6_touchFor_X6_comesBy : GoodIn wsX6_touchFor (wsV RX6 245 RX6 yX6_comesBy wsX6_comesBy) := goodIn_app (goodIn_of _ (by decide +kernel)) ggX6_touchFor_X6_comesBy
set_option maxRecDepth 20000 in
theorem ggX6_touchFor_X6_least : GoodIn wsX6_touchFor wsX6_least := goodIn_r _ [70] (by decide +kernel) (by decide +kernel)
set_option maxRecDepth 20000 in
theorem gX6_touchFor_X6_least : GoodIn wsX6_touchFor (va_wsS RX6 253 yX6_least wsX6_least) := goodIn_app (goodIn_of _ (by decide +kernel)) ggX6_touchFor_X6_least
set_option maxRecDepth 20000 in
theorem ggX6_touchFor_X6_becomes : GoodIn wsX6_touchFor wsX6_becomes := goodIn_r _ [74, 1, 75, 76, 77, 78, 79, 80, 81, 82, 83, 84, 85, 86, 87, 88, 89, 90, 91, 92, 93, 94, 95, 96, 97, 98, 99, 100, 101, 102] (by decide +kernel) (by decide +kernel)
set_option maxRecDepth 20000 in
theorem gX6_touchFor_X6_becomes : GoodIn wsX6_touchFor (wsV RX6 158 RX6 yX6_becomes wsX6_becomes) := goodIn_app (goodIn_of _ (by decide +kernel)) ggX6_touchFor_X6_becomes
theorem dX6_touchFor_0 : decode cX6_touchFor 0 = .ok (.aload_n 0, 1) := by decide +kernel
theorem dX6_touchFor_1 : decode cX6_touchFor 1 = .ok (.iload_n 1, 1) := by decide +kernel
theorem dX6_touchFor_2 : decode cX6_touchFor 2 = .ok (.iload_n 2, 1) := by decide +kernel
theorem dX6_touchFor_3 : decode cX6_touchFor 3 = .ok (.iload_n 3, 1) := by decide +kernel
theorem dX6_touchFor_4 : decode cX6_touchFor 4 = .ok (.invokevirtual 249, 3) := by decide +kernel
theorem dX6_touchFor_7 : decode cX6_touchFor 7 = .ok (.ifCond .ne 5, 3) := by decide +kernel
theorem dX6_touchFor_10 : decode cX6_touchFor 10 = .ok (.iconst (-1), 1) := by decide +kernel
theorem dX6_touchFor_11 : decode cX6_touchFor 11 = .ok (.ireturn, 1) := by decide +kernel
theorem dX6_touchFor_12 : decode cX6_touchFor 12 = .ok (.iload_n 3, 1) := by decide +kernel
theorem dX6_touchFor_13 : decode cX6_touchFor 13 = .ok (.iconst 1, 1) := by decide +kernel
theorem dX6_touchFor_14 : decode cX6_touchFor 14 = .ok (.iadd, 1) := by decide +kernel
theorem dX6_touchFor_15 : decode cX6_touchFor 15 = .ok (.aload_n 0, 1) := by decide +kernel
theorem dX6_touchFor_16 : decode cX6_touchFor 16 = .ok (.iload_n 1, 1) := by decide +kernel
theorem dX6_touchFor_17 : decode cX6_touchFor 17 = .ok (.iload_n 2, 1) := by decide +kernel
theorem dX6_touchFor_18 : decode cX6_touchFor 18 = .ok (.bipush 60, 2) := by decide +kernel
theorem dX6_touchFor_20 : decode cX6_touchFor 20 = .ok (.invokevirtual 245, 3) := by decide +kernel
theorem dX6_touchFor_23 : decode cX6_touchFor 23 = .ok (.invokestatic 253, 3) := by decide +kernel
theorem dX6_touchFor_26 : decode cX6_touchFor 26 = .ok (.istore 4, 2) := by decide +kernel
theorem dX6_touchFor_28 : decode cX6_touchFor 28 = .ok (.bipush (-3), 2) := by decide +kernel
theorem dX6_touchFor_30 : decode cX6_touchFor 30 = .ok (.istore 5, 2) := by decide +kernel
theorem dX6_touchFor_32 : decode cX6_touchFor 32 = .ok (.iconst 0, 1) := by decide +kernel
theorem dX6_touchFor_33 : decode cX6_touchFor 33 = .ok (.istore 6, 2) := by decide +kernel
theorem dX6_touchFor_35 : decode cX6_touchFor 35 = .ok (.iload 6, 2) := by decide +kernel
theorem dX6_touchFor_37 : decode cX6_touchFor 37 = .ok (.sipush 384, 3) := by decide +kernel
theorem dX6_touchFor_40 : decode cX6_touchFor 40 = .ok (.if_icmp .ge 140, 3) := by decide +kernel
theorem dX6_touchFor_43 : decode cX6_touchFor 43 = .ok (.iload 6, 2) := by decide +kernel
theorem dX6_touchFor_45 : decode cX6_touchFor 45 = .ok (.bipush 64, 2) := by decide +kernel
theorem dX6_touchFor_47 : decode cX6_touchFor 47 = .ok (.idiv, 1) := by decide +kernel
theorem dX6_touchFor_48 : decode cX6_touchFor 48 = .ok (.istore 7, 2) := by decide +kernel
theorem dX6_touchFor_50 : decode cX6_touchFor 50 = .ok (.iload 6, 2) := by decide +kernel
theorem dX6_touchFor_52 : decode cX6_touchFor 52 = .ok (.bipush 8, 2) := by decide +kernel
theorem dX6_touchFor_54 : decode cX6_touchFor 54 = .ok (.idiv, 1) := by decide +kernel
theorem dX6_touchFor_55 : decode cX6_touchFor 55 = .ok (.bipush 8, 2) := by decide +kernel
theorem dX6_touchFor_57 : decode cX6_touchFor 57 = .ok (.irem, 1) := by decide +kernel
theorem dX6_touchFor_58 : decode cX6_touchFor 58 = .ok (.istore 8, 2) := by decide +kernel
theorem dX6_touchFor_60 : decode cX6_touchFor 60 = .ok (.iload 6, 2) := by decide +kernel
theorem dX6_touchFor_62 : decode cX6_touchFor 62 = .ok (.bipush 8, 2) := by decide +kernel
theorem dX6_touchFor_64 : decode cX6_touchFor 64 = .ok (.irem, 1) := by decide +kernel
theorem dX6_touchFor_65 : decode cX6_touchFor 65 = .ok (.istore 9, 2) := by decide +kernel
theorem dX6_touchFor_67 : decode cX6_touchFor 67 = .ok (.iload 8, 2) := by decide +kernel
theorem dX6_touchFor_69 : decode cX6_touchFor 69 = .ok (.iload 9, 2) := by decide +kernel
theorem dX6_touchFor_71 : decode cX6_touchFor 71 = .ok (.if_icmp .ge 103, 3) := by decide +kernel
theorem dX6_touchFor_74 : decode cX6_touchFor 74 = .ok (.aload_n 0, 1) := by decide +kernel
theorem dX6_touchFor_75 : decode cX6_touchFor 75 = .ok (.bipush 7, 2) := by decide +kernel
theorem dX6_touchFor_77 : decode cX6_touchFor 77 = .ok (.iload 7, 2) := by decide +kernel
theorem dX6_touchFor_79 : decode cX6_touchFor 79 = .ok (.iadd, 1) := by decide +kernel
theorem dX6_touchFor_80 : decode cX6_touchFor 80 = .ok (.iconst 1, 1) := by decide +kernel
theorem dX6_touchFor_81 : decode cX6_touchFor 81 = .ok (.iload 8, 2) := by decide +kernel
theorem dX6_touchFor_83 : decode cX6_touchFor 83 = .ok (.iadd, 1) := by decide +kernel
theorem dX6_touchFor_84 : decode cX6_touchFor 84 = .ok (.invokevirtual 158, 3) := by decide +kernel
theorem dX6_touchFor_87 : decode cX6_touchFor 87 = .ok (.istore 10, 2) := by decide +kernel
theorem dX6_touchFor_89 : decode cX6_touchFor 89 = .ok (.aload_n 0, 1) := by decide +kernel
theorem dX6_touchFor_90 : decode cX6_touchFor 90 = .ok (.bipush 13, 2) := by decide +kernel
theorem dX6_touchFor_92 : decode cX6_touchFor 92 = .ok (.iload 7, 2) := by decide +kernel
theorem dX6_touchFor_94 : decode cX6_touchFor 94 = .ok (.iadd, 1) := by decide +kernel
theorem dX6_touchFor_95 : decode cX6_touchFor 95 = .ok (.iconst 1, 1) := by decide +kernel
theorem dX6_touchFor_96 : decode cX6_touchFor 96 = .ok (.iload 9, 2) := by decide +kernel
theorem dX6_touchFor_98 : decode cX6_touchFor 98 = .ok (.iadd, 1) := by decide +kernel
theorem dX6_touchFor_99 : decode cX6_touchFor 99 = .ok (.invokevirtual 158, 3) := by decide +kernel
theorem dX6_touchFor_102 : decode cX6_touchFor 102 = .ok (.istore 11, 2) := by decide +kernel
theorem dX6_touchFor_104 : decode cX6_touchFor 104 = .ok (.aload_n 0, 1) := by decide +kernel
theorem dX6_touchFor_105 : decode cX6_touchFor 105 = .ok (.iload_n 1, 1) := by decide +kernel
theorem dX6_touchFor_106 : decode cX6_touchFor 106 = .ok (.iload_n 2, 1) := by decide +kernel
theorem dX6_touchFor_107 : decode cX6_touchFor 107 = .ok (.iload_n 3, 1) := by decide +kernel
theorem dX6_touchFor_108 : decode cX6_touchFor 108 = .ok (.invokevirtual 245, 3) := by decide +kernel
theorem dX6_touchFor_111 : decode cX6_touchFor 111 = .ok (.istore 12, 2) := by decide +kernel
theorem dX6_touchFor_113 : decode cX6_touchFor 113 = .ok (.iload 12, 2) := by decide +kernel
theorem dX6_touchFor_115 : decode cX6_touchFor 115 = .ok (.iload 4, 2) := by decide +kernel
theorem dX6_touchFor_117 : decode cX6_touchFor 117 = .ok (.if_icmp .ge 20, 3) := by decide +kernel
theorem dX6_touchFor_120 : decode cX6_touchFor 120 = .ok (.bipush 100, 2) := by decide +kernel
theorem dX6_touchFor_122 : decode cX6_touchFor 122 = .ok (.iload 7, 2) := by decide +kernel
theorem dX6_touchFor_124 : decode cX6_touchFor 124 = .ok (.imul, 1) := by decide +kernel
theorem dX6_touchFor_125 : decode cX6_touchFor 125 = .ok (.bipush 10, 2) := by decide +kernel
theorem dX6_touchFor_127 : decode cX6_touchFor 127 = .ok (.iload 8, 2) := by decide +kernel
theorem dX6_touchFor_129 : decode cX6_touchFor 129 = .ok (.imul, 1) := by decide +kernel
theorem dX6_touchFor_130 : decode cX6_touchFor 130 = .ok (.iadd, 1) := by decide +kernel
theorem dX6_touchFor_131 : decode cX6_touchFor 131 = .ok (.iload 9, 2) := by decide +kernel
theorem dX6_touchFor_133 : decode cX6_touchFor 133 = .ok (.iadd, 1) := by decide +kernel
theorem dX6_touchFor_134 : decode cX6_touchFor 134 = .ok (.goto 5, 3) := by decide +kernel
theorem dX6_touchFor_137 : decode cX6_touchFor 137 = .ok (.iload 5, 2) := by decide +kernel
theorem dX6_touchFor_139 : decode cX6_touchFor 139 = .ok (.istore 5, 2) := by decide +kernel
theorem dX6_touchFor_141 : decode cX6_touchFor 141 = .ok (.iload 4, 2) := by decide +kernel
theorem dX6_touchFor_143 : decode cX6_touchFor 143 = .ok (.iload 12, 2) := by decide +kernel
theorem dX6_touchFor_145 : decode cX6_touchFor 145 = .ok (.invokestatic 253, 3) := by decide +kernel
theorem dX6_touchFor_148 : decode cX6_touchFor 148 = .ok (.istore 4, 2) := by decide +kernel
theorem dX6_touchFor_150 : decode cX6_touchFor 150 = .ok (.aload_n 0, 1) := by decide +kernel
theorem dX6_touchFor_151 : decode cX6_touchFor 151 = .ok (.getfield 7, 3) := by decide +kernel
theorem dX6_touchFor_154 : decode cX6_touchFor 154 = .ok (.bipush 7, 2) := by decide +kernel
theorem dX6_touchFor_156 : decode cX6_touchFor 156 = .ok (.iload 7, 2) := by decide +kernel
theorem dX6_touchFor_158 : decode cX6_touchFor 158 = .ok (.iadd, 1) := by decide +kernel
theorem dX6_touchFor_159 : decode cX6_touchFor 159 = .ok (.iload 10, 2) := by decide +kernel
theorem dX6_touchFor_161 : decode cX6_touchFor 161 = .ok (.iastore, 1) := by decide +kernel
theorem dX6_touchFor_162 : decode cX6_touchFor 162 = .ok (.aload_n 0, 1) := by decide +kernel
theorem dX6_touchFor_163 : decode cX6_touchFor 163 = .ok (.getfield 7, 3) := by decide +kernel
theorem dX6_touchFor_166 : decode cX6_touchFor 166 = .ok (.bipush 13, 2) := by decide +kernel
theorem dX6_touchFor_168 : decode cX6_touchFor 168 = .ok (.iload 7, 2) := by decide +kernel
theorem dX6_touchFor_170 : decode cX6_touchFor 170 = .ok (.iadd, 1) := by decide +kernel
theorem dX6_touchFor_171 : decode cX6_touchFor 171 = .ok (.iload 11, 2) := by decide +kernel
theorem dX6_touchFor_173 : decode cX6_touchFor 173 = .ok (.iastore, 1) := by decide +kernel
theorem dX6_touchFor_174 : decode cX6_touchFor 174 = .ok (.iinc 6 1, 3) := by decide +kernel
theorem dX6_touchFor_177 : decode cX6_touchFor 177 = .ok (.goto (-142), 3) := by decide +kernel
theorem dX6_touchFor_180 : decode cX6_touchFor 180 = .ok (.iload 5, 2) := by decide +kernel
theorem dX6_touchFor_182 : decode cX6_touchFor 182 = .ok (.ireturn, 1) := by decide +kernel
set_option maxRecDepth 20000 in
theorem ggX6_apartFor_X6_mayTry : GoodIn wsX6_apartFor wsX6_mayTry := goodIn_r _ [7, 8, 9, 10, 11, 6, 12, 2, 13, 14, 15, 16, 17, 18, 69, 70, 71, 72, 73, 74, 75, 76, 77, 78, 79, 80, 81, 82, 83, 84, 85, 86, 87, 88, 89, 90, 91, 92, 93, 94, 95, 96] (by decide +kernel) (by decide +kernel)
set_option maxRecDepth 20000 in
theorem gX6_apartFor_X6_mayTry : GoodIn wsX6_apartFor (wsV RX6 249 RX6 yX6_mayTry wsX6_mayTry) := goodIn_app (goodIn_of _ (by decide +kernel)) ggX6_apartFor_X6_mayTry
set_option maxRecDepth 20000 in
theorem ggX6_apartFor_X6_size : GoodIn wsX6_apartFor wsX6_size := goodIn_r _ [21] (by decide +kernel) (by decide +kernel)
set_option maxRecDepth 20000 in
theorem gX6_apartFor_X6_size : GoodIn wsX6_apartFor (va_wsS RX6 175 yX6_size wsX6_size) := goodIn_app (goodIn_of _ (by decide +kernel)) ggX6_apartFor_X6_size
set_option maxRecDepth 20000 in
theorem ggX6_apartFor_X6_comesBy : GoodIn wsX6_apartFor wsX6_comesBy := goodIn_r _ [25, 2, 26, 27, 28, 6, 29, 30, 31, 32, 33, 34, 35, 36, 37, 38, 39, 40, 41, 42, 43, 44, 45, 46, 47, 48, 49, 50, 51, 52, 53, 54, 55, 56, 57, 19, 20, 21, 58, 59, 60, 61, 62, 63, 64, 65, 66, 67, 68, 69, 70, 71, 72, 73, 74, 75, 76, 77, 78, 79, 80, 81, 82, 83, 84, 85, 86, 87, 88, 89, 90, 91, 92, 93, 94, 95, 96] (by decide +kernel) (by decide +kernel)
set_option maxRecDepth 20000 in
theorem gX6_apartFor_X6_comesBy : GoodIn wsX6_apartFor (wsV RX6 245 RX6 yX6_comesBy wsX6_comesBy) := goodIn_app (goodIn_of _ (by decide +kernel)) ggX6_apartFor_X6_comesBy
theorem dX6_apartFor_0 : decode cX6_apartFor 0 = .ok (.aload_n 0, 1) := by decide +kernel
theorem dX6_apartFor_1 : decode cX6_apartFor 1 = .ok (.iload_n 1, 1) := by decide +kernel
theorem dX6_apartFor_2 : decode cX6_apartFor 2 = .ok (.iload_n 2, 1) := by decide +kernel
theorem dX6_apartFor_3 : decode cX6_apartFor 3 = .ok (.iload_n 3, 1) := by decide +kernel
theorem dX6_apartFor_4 : decode cX6_apartFor 4 = .ok (.invokevirtual 249, 3) := by decide +kernel
theorem dX6_apartFor_7 : decode cX6_apartFor 7 = .ok (.ifCond .ne 5, 3) := by decide +kernel
theorem dX6_apartFor_10 : decode cX6_apartFor 10 = .ok (.iconst (-1), 1) := by decide +kernel
theorem dX6_apartFor_11 : decode cX6_apartFor 11 = .ok (.ireturn, 1) := by decide +kernel
theorem dX6_apartFor_12 : decode cX6_apartFor 12 = .ok (.iconst 0, 1) := by decide +kernel
theorem dX6_apartFor_13 : decode cX6_apartFor 13 = .ok (.istore 4, 2) := by decide +kernel
theorem dX6_apartFor_15 : decode cX6_apartFor 15 = .ok (.iload 4, 2) := by decide +kernel
theorem dX6_apartFor_17 : decode cX6_apartFor 17 = .ok (.bipush 6, 2) := by decide +kernel
theorem dX6_apartFor_19 : decode cX6_apartFor 19 = .ok (.if_icmp .ge 26, 3) := by decide +kernel
theorem dX6_apartFor_22 : decode cX6_apartFor 22 = .ok (.aload_n 0, 1) := by decide +kernel
theorem dX6_apartFor_23 : decode cX6_apartFor 23 = .ok (.getfield 28, 3) := by decide +kernel
theorem dX6_apartFor_26 : decode cX6_apartFor 26 = .ok (.iload 4, 2) := by decide +kernel
theorem dX6_apartFor_28 : decode cX6_apartFor 28 = .ok (.aload_n 0, 1) := by decide +kernel
theorem dX6_apartFor_29 : decode cX6_apartFor 29 = .ok (.getfield 7, 3) := by decide +kernel
theorem dX6_apartFor_32 : decode cX6_apartFor 32 = .ok (.bipush 7, 2) := by decide +kernel
theorem dX6_apartFor_34 : decode cX6_apartFor 34 = .ok (.iload 4, 2) := by decide +kernel
theorem dX6_apartFor_36 : decode cX6_apartFor 36 = .ok (.iadd, 1) := by decide +kernel
theorem dX6_apartFor_37 : decode cX6_apartFor 37 = .ok (.iaload, 1) := by decide +kernel
theorem dX6_apartFor_38 : decode cX6_apartFor 38 = .ok (.iastore, 1) := by decide +kernel
theorem dX6_apartFor_39 : decode cX6_apartFor 39 = .ok (.iinc 4 1, 3) := by decide +kernel
theorem dX6_apartFor_42 : decode cX6_apartFor 42 = .ok (.goto (-27), 3) := by decide +kernel
theorem dX6_apartFor_45 : decode cX6_apartFor 45 = .ok (.bipush (-3), 2) := by decide +kernel
theorem dX6_apartFor_47 : decode cX6_apartFor 47 = .ok (.istore 4, 2) := by decide +kernel
theorem dX6_apartFor_49 : decode cX6_apartFor 49 = .ok (.iconst 0, 1) := by decide +kernel
theorem dX6_apartFor_50 : decode cX6_apartFor 50 = .ok (.istore 5, 2) := by decide +kernel
theorem dX6_apartFor_52 : decode cX6_apartFor 52 = .ok (.iload 5, 2) := by decide +kernel
theorem dX6_apartFor_54 : decode cX6_apartFor 54 = .ok (.bipush 64, 2) := by decide +kernel
theorem dX6_apartFor_56 : decode cX6_apartFor 56 = .ok (.if_icmp .ge 95, 3) := by decide +kernel
theorem dX6_apartFor_59 : decode cX6_apartFor 59 = .ok (.iload 4, 2) := by decide +kernel
theorem dX6_apartFor_61 : decode cX6_apartFor 61 = .ok (.ifCond .lt 16, 3) := by decide +kernel
theorem dX6_apartFor_64 : decode cX6_apartFor 64 = .ok (.iload 5, 2) := by decide +kernel
theorem dX6_apartFor_66 : decode cX6_apartFor 66 = .ok (.invokestatic 175, 3) := by decide +kernel
theorem dX6_apartFor_69 : decode cX6_apartFor 69 = .ok (.iload 4, 2) := by decide +kernel
theorem dX6_apartFor_71 : decode cX6_apartFor 71 = .ok (.invokestatic 175, 3) := by decide +kernel
theorem dX6_apartFor_74 : decode cX6_apartFor 74 = .ok (.if_icmp .ge 71, 3) := by decide +kernel
theorem dX6_apartFor_77 : decode cX6_apartFor 77 = .ok (.iconst 0, 1) := by decide +kernel
theorem dX6_apartFor_78 : decode cX6_apartFor 78 = .ok (.istore 6, 2) := by decide +kernel
theorem dX6_apartFor_80 : decode cX6_apartFor 80 = .ok (.iload 6, 2) := by decide +kernel
theorem dX6_apartFor_82 : decode cX6_apartFor 82 = .ok (.bipush 6, 2) := by decide +kernel
theorem dX6_apartFor_84 : decode cX6_apartFor 84 = .ok (.if_icmp .ge 41, 3) := by decide +kernel
theorem dX6_apartFor_87 : decode cX6_apartFor 87 = .ok (.aload_n 0, 1) := by decide +kernel
theorem dX6_apartFor_88 : decode cX6_apartFor 88 = .ok (.getfield 7, 3) := by decide +kernel
theorem dX6_apartFor_91 : decode cX6_apartFor 91 = .ok (.bipush 7, 2) := by decide +kernel
theorem dX6_apartFor_93 : decode cX6_apartFor 93 = .ok (.iload 6, 2) := by decide +kernel
theorem dX6_apartFor_95 : decode cX6_apartFor 95 = .ok (.iadd, 1) := by decide +kernel
theorem dX6_apartFor_96 : decode cX6_apartFor 96 = .ok (.iload 5, 2) := by decide +kernel
theorem dX6_apartFor_98 : decode cX6_apartFor 98 = .ok (.iload 6, 2) := by decide +kernel
theorem dX6_apartFor_100 : decode cX6_apartFor 100 = .ok (.ishr, 1) := by decide +kernel
theorem dX6_apartFor_101 : decode cX6_apartFor 101 = .ok (.iconst 1, 1) := by decide +kernel
theorem dX6_apartFor_102 : decode cX6_apartFor 102 = .ok (.iand, 1) := by decide +kernel
theorem dX6_apartFor_103 : decode cX6_apartFor 103 = .ok (.iconst 1, 1) := by decide +kernel
theorem dX6_apartFor_104 : decode cX6_apartFor 104 = .ok (.if_icmp .ne 7, 3) := by decide +kernel
theorem dX6_apartFor_107 : decode cX6_apartFor 107 = .ok (.iconst 0, 1) := by decide +kernel
theorem dX6_apartFor_108 : decode cX6_apartFor 108 = .ok (.goto 10, 3) := by decide +kernel
theorem dX6_apartFor_111 : decode cX6_apartFor 111 = .ok (.aload_n 0, 1) := by decide +kernel
theorem dX6_apartFor_112 : decode cX6_apartFor 112 = .ok (.getfield 28, 3) := by decide +kernel
theorem dX6_apartFor_115 : decode cX6_apartFor 115 = .ok (.iload 6, 2) := by decide +kernel
theorem dX6_apartFor_117 : decode cX6_apartFor 117 = .ok (.iaload, 1) := by decide +kernel
theorem dX6_apartFor_118 : decode cX6_apartFor 118 = .ok (.iastore, 1) := by decide +kernel
theorem dX6_apartFor_119 : decode cX6_apartFor 119 = .ok (.iinc 6 1, 3) := by decide +kernel
theorem dX6_apartFor_122 : decode cX6_apartFor 122 = .ok (.goto (-42), 3) := by decide +kernel
theorem dX6_apartFor_125 : decode cX6_apartFor 125 = .ok (.aload_n 0, 1) := by decide +kernel
theorem dX6_apartFor_126 : decode cX6_apartFor 126 = .ok (.iload_n 1, 1) := by decide +kernel
theorem dX6_apartFor_127 : decode cX6_apartFor 127 = .ok (.iload_n 2, 1) := by decide +kernel
theorem dX6_apartFor_128 : decode cX6_apartFor 128 = .ok (.iload_n 3, 1) := by decide +kernel
theorem dX6_apartFor_129 : decode cX6_apartFor 129 = .ok (.invokevirtual 245, 3) := by decide +kernel
theorem dX6_apartFor_132 : decode cX6_apartFor 132 = .ok (.iload_n 3, 1) := by decide +kernel
theorem dX6_apartFor_133 : decode cX6_apartFor 133 = .ok (.if_icmp .le 8, 3) := by decide +kernel
theorem dX6_apartFor_136 : decode cX6_apartFor 136 = .ok (.iload 5, 2) := by decide +kernel
theorem dX6_apartFor_138 : decode cX6_apartFor 138 = .ok (.goto 5, 3) := by decide +kernel
theorem dX6_apartFor_141 : decode cX6_apartFor 141 = .ok (.iload 4, 2) := by decide +kernel
theorem dX6_apartFor_143 : decode cX6_apartFor 143 = .ok (.istore 4, 2) := by decide +kernel
theorem dX6_apartFor_145 : decode cX6_apartFor 145 = .ok (.iinc 5 1, 3) := by decide +kernel
theorem dX6_apartFor_148 : decode cX6_apartFor 148 = .ok (.goto (-96), 3) := by decide +kernel
theorem dX6_apartFor_151 : decode cX6_apartFor 151 = .ok (.iconst 0, 1) := by decide +kernel
theorem dX6_apartFor_152 : decode cX6_apartFor 152 = .ok (.istore 5, 2) := by decide +kernel
theorem dX6_apartFor_154 : decode cX6_apartFor 154 = .ok (.iload 5, 2) := by decide +kernel
theorem dX6_apartFor_156 : decode cX6_apartFor 156 = .ok (.bipush 6, 2) := by decide +kernel
theorem dX6_apartFor_158 : decode cX6_apartFor 158 = .ok (.if_icmp .ge 26, 3) := by decide +kernel
theorem dX6_apartFor_161 : decode cX6_apartFor 161 = .ok (.aload_n 0, 1) := by decide +kernel
theorem dX6_apartFor_162 : decode cX6_apartFor 162 = .ok (.getfield 7, 3) := by decide +kernel
theorem dX6_apartFor_165 : decode cX6_apartFor 165 = .ok (.bipush 7, 2) := by decide +kernel
theorem dX6_apartFor_167 : decode cX6_apartFor 167 = .ok (.iload 5, 2) := by decide +kernel
theorem dX6_apartFor_169 : decode cX6_apartFor 169 = .ok (.iadd, 1) := by decide +kernel
theorem dX6_apartFor_170 : decode cX6_apartFor 170 = .ok (.aload_n 0, 1) := by decide +kernel
theorem dX6_apartFor_171 : decode cX6_apartFor 171 = .ok (.getfield 28, 3) := by decide +kernel
theorem dX6_apartFor_174 : decode cX6_apartFor 174 = .ok (.iload 5, 2) := by decide +kernel
theorem dX6_apartFor_176 : decode cX6_apartFor 176 = .ok (.iaload, 1) := by decide +kernel
theorem dX6_apartFor_177 : decode cX6_apartFor 177 = .ok (.iastore, 1) := by decide +kernel
theorem dX6_apartFor_178 : decode cX6_apartFor 178 = .ok (.iinc 5 1, 3) := by decide +kernel
theorem dX6_apartFor_181 : decode cX6_apartFor 181 = .ok (.goto (-27), 3) := by decide +kernel
theorem dX6_apartFor_184 : decode cX6_apartFor 184 = .ok (.iload 4, 2) := by decide +kernel
theorem dX6_apartFor_186 : decode cX6_apartFor 186 = .ok (.ireturn, 1) := by decide +kernel
theorem dX6_product_0 : decode cX6_product 0 = .ok (.lconst 1, 1) := by decide +kernel
theorem dX6_product_1 : decode cX6_product 1 = .ok (.lstore_n 1, 1) := by decide +kernel
theorem dX6_product_2 : decode cX6_product 2 = .ok (.iconst 2, 1) := by decide +kernel
theorem dX6_product_3 : decode cX6_product 3 = .ok (.istore_n 3, 1) := by decide +kernel
theorem dX6_product_4 : decode cX6_product 4 = .ok (.iload_n 3, 1) := by decide +kernel
theorem dX6_product_5 : decode cX6_product 5 = .ok (.iload_n 0, 1) := by decide +kernel
theorem dX6_product_6 : decode cX6_product 6 = .ok (.if_icmp .gt 14, 3) := by decide +kernel
theorem dX6_product_9 : decode cX6_product 9 = .ok (.lload_n 1, 1) := by decide +kernel
theorem dX6_product_10 : decode cX6_product 10 = .ok (.iload_n 3, 1) := by decide +kernel
theorem dX6_product_11 : decode cX6_product 11 = .ok (.i2l, 1) := by decide +kernel
theorem dX6_product_12 : decode cX6_product 12 = .ok (.lmul, 1) := by decide +kernel
theorem dX6_product_13 : decode cX6_product 13 = .ok (.lstore_n 1, 1) := by decide +kernel
theorem dX6_product_14 : decode cX6_product 14 = .ok (.iinc 3 1, 3) := by decide +kernel
theorem dX6_product_17 : decode cX6_product 17 = .ok (.goto (-13), 3) := by decide +kernel
theorem dX6_product_20 : decode cX6_product 20 = .ok (.lload_n 1, 1) := by decide +kernel
theorem dX6_product_21 : decode cX6_product 21 = .ok (.lreturn, 1) := by decide +kernel
theorem dX6_partOf_0 : decode cX6_partOf 0 = .ok (.lload_n 2, 1) := by decide +kernel
theorem dX6_partOf_1 : decode cX6_partOf 1 = .ok (.lstore 5, 2) := by decide +kernel
theorem dX6_partOf_3 : decode cX6_partOf 3 = .ok (.lload_n 0, 1) := by decide +kernel
theorem dX6_partOf_4 : decode cX6_partOf 4 = .ok (.lstore 7, 2) := by decide +kernel
theorem dX6_partOf_6 : decode cX6_partOf 6 = .ok (.lload 7, 2) := by decide +kernel
theorem dX6_partOf_8 : decode cX6_partOf 8 = .ok (.lconst 0, 1) := by decide +kernel
theorem dX6_partOf_9 : decode cX6_partOf 9 = .ok (.lcmp, 1) := by decide +kernel
theorem dX6_partOf_10 : decode cX6_partOf 10 = .ok (.ifCond .eq 21, 3) := by decide +kernel
theorem dX6_partOf_13 : decode cX6_partOf 13 = .ok (.lload 5, 2) := by decide +kernel
theorem dX6_partOf_15 : decode cX6_partOf 15 = .ok (.lload 7, 2) := by decide +kernel
theorem dX6_partOf_17 : decode cX6_partOf 17 = .ok (.lrem, 1) := by decide +kernel
theorem dX6_partOf_18 : decode cX6_partOf 18 = .ok (.lstore 9, 2) := by decide +kernel
theorem dX6_partOf_20 : decode cX6_partOf 20 = .ok (.lload 7, 2) := by decide +kernel
theorem dX6_partOf_22 : decode cX6_partOf 22 = .ok (.lstore 5, 2) := by decide +kernel
theorem dX6_partOf_24 : decode cX6_partOf 24 = .ok (.lload 9, 2) := by decide +kernel
theorem dX6_partOf_26 : decode cX6_partOf 26 = .ok (.lstore 7, 2) := by decide +kernel
theorem dX6_partOf_28 : decode cX6_partOf 28 = .ok (.goto (-22), 3) := by decide +kernel
theorem dX6_partOf_31 : decode cX6_partOf 31 = .ok (.iload 4, 2) := by decide +kernel
theorem dX6_partOf_33 : decode cX6_partOf 33 = .ok (.ifCond .ne 10, 3) := by decide +kernel
theorem dX6_partOf_36 : decode cX6_partOf 36 = .ok (.lload_n 0, 1) := by decide +kernel
theorem dX6_partOf_37 : decode cX6_partOf 37 = .ok (.lload 5, 2) := by decide +kernel
theorem dX6_partOf_39 : decode cX6_partOf 39 = .ok (.ldiv, 1) := by decide +kernel
theorem dX6_partOf_40 : decode cX6_partOf 40 = .ok (.goto 7, 3) := by decide +kernel
theorem dX6_partOf_43 : decode cX6_partOf 43 = .ok (.lload_n 2, 1) := by decide +kernel
theorem dX6_partOf_44 : decode cX6_partOf 44 = .ok (.lload 5, 2) := by decide +kernel
theorem dX6_partOf_46 : decode cX6_partOf 46 = .ok (.ldiv, 1) := by decide +kernel
theorem dX6_partOf_47 : decode cX6_partOf 47 = .ok (.lreturn, 1) := by decide +kernel
set_option maxRecDepth 20000 in
theorem ggX6_isTold_X6_copyRow : GoodIn wsX6_isTold wsX6_copyRow := goodIn_r _ [8] (by decide +kernel) (by decide +kernel)
set_option maxRecDepth 20000 in
theorem gX6_isTold_X6_copyRow : GoodIn wsX6_isTold (va_wsS RX6 146 yX6_copyRow wsX6_copyRow) := goodIn_app (goodIn_of _ (by decide +kernel)) ggX6_isTold_X6_copyRow
set_option maxRecDepth 20000 in
theorem ggX6_isTold_X6_goes : GoodIn wsX6_isTold wsX6_goes := goodIn_r _ [12, 13, 14, 15, 7, 16, 1, 17, 18, 19, 20, 21, 22, 23, 24, 25, 26, 27, 28, 29, 30, 31, 32, 33, 34, 35, 36, 37, 38, 39, 40, 41, 42, 43, 44, 45, 46, 47, 48, 49, 50, 51, 52, 53, 54, 55, 56, 57, 58, 59, 60, 61, 62, 63, 64, 65, 66, 67, 68, 69, 70, 71, 72, 73, 74, 75, 76, 77, 78] (by decide +kernel) (by decide +kernel)
set_option maxRecDepth 20000 in
theorem gX6_isTold_X6_goes : GoodIn wsX6_isTold (wsV RX6 215 RX6 yX6_goes wsX6_goes) := goodIn_app (goodIn_of _ (by decide +kernel)) ggX6_isTold_X6_goes
set_option maxRecDepth 20000 in
theorem ggX6_isTold_X6_its : GoodIn wsX6_isTold wsX6_its := goodIn_r _ [28, 1, 51, 52, 53, 54, 55, 56, 57, 58, 59, 60, 61, 62, 63, 64, 65, 66, 67, 68, 69, 70, 71, 72, 73, 74, 75, 76, 77, 78] (by decide +kernel) (by decide +kernel)
set_option maxRecDepth 20000 in
theorem gX6_isTold_X6_its : GoodIn wsX6_isTold (wsV RX6 169 RX6 yX6_its wsX6_its) := goodIn_app (goodIn_of _ (by decide +kernel)) ggX6_isTold_X6_its
theorem dX6_isTold_0 : decode cX6_isTold 0 = .ok (.aload_n 0, 1) := by decide +kernel
theorem dX6_isTold_1 : decode cX6_isTold 1 = .ok (.getfield 7, 3) := by decide +kernel
theorem dX6_isTold_4 : decode cX6_isTold 4 = .ok (.aload_n 0, 1) := by decide +kernel
theorem dX6_isTold_5 : decode cX6_isTold 5 = .ok (.getfield 16, 3) := by decide +kernel
theorem dX6_isTold_8 : decode cX6_isTold 8 = .ok (.invokestatic 146, 3) := by decide +kernel
theorem dX6_isTold_11 : decode cX6_isTold 11 = .ok (.iconst 1, 1) := by decide +kernel
theorem dX6_isTold_12 : decode cX6_isTold 12 = .ok (.istore_n 3, 1) := by decide +kernel
theorem dX6_isTold_13 : decode cX6_isTold 13 = .ok (.iconst 0, 1) := by decide +kernel
theorem dX6_isTold_14 : decode cX6_isTold 14 = .ok (.istore 4, 2) := by decide +kernel
theorem dX6_isTold_16 : decode cX6_isTold 16 = .ok (.iload 4, 2) := by decide +kernel
theorem dX6_isTold_18 : decode cX6_isTold 18 = .ok (.aload_n 0, 1) := by decide +kernel
theorem dX6_isTold_19 : decode cX6_isTold 19 = .ok (.getfield 37, 3) := by decide +kernel
theorem dX6_isTold_22 : decode cX6_isTold 22 = .ok (.iload_n 1, 1) := by decide +kernel
theorem dX6_isTold_23 : decode cX6_isTold 23 = .ok (.iaload, 1) := by decide +kernel
theorem dX6_isTold_24 : decode cX6_isTold 24 = .ok (.if_icmp .ge 61, 3) := by decide +kernel
theorem dX6_isTold_27 : decode cX6_isTold 27 = .ok (.iload_n 3, 1) := by decide +kernel
theorem dX6_isTold_28 : decode cX6_isTold 28 = .ok (.ifCond .eq 57, 3) := by decide +kernel
theorem dX6_isTold_31 : decode cX6_isTold 31 = .ok (.aload_n 0, 1) := by decide +kernel
theorem dX6_isTold_32 : decode cX6_isTold 32 = .ok (.iconst 1, 1) := by decide +kernel
theorem dX6_isTold_33 : decode cX6_isTold 33 = .ok (.invokevirtual 215, 3) := by decide +kernel
theorem dX6_isTold_36 : decode cX6_isTold 36 = .ok (.aload_n 0, 1) := by decide +kernel
theorem dX6_isTold_37 : decode cX6_isTold 37 = .ok (.getfield 40, 3) := by decide +kernel
theorem dX6_isTold_40 : decode cX6_isTold 40 = .ok (.bipush 40, 2) := by decide +kernel
theorem dX6_isTold_42 : decode cX6_isTold 42 = .ok (.iload_n 1, 1) := by decide +kernel
theorem dX6_isTold_43 : decode cX6_isTold 43 = .ok (.imul, 1) := by decide +kernel
theorem dX6_isTold_44 : decode cX6_isTold 44 = .ok (.iload 4, 2) := by decide +kernel
theorem dX6_isTold_46 : decode cX6_isTold 46 = .ok (.iadd, 1) := by decide +kernel
theorem dX6_isTold_47 : decode cX6_isTold 47 = .ok (.iaload, 1) := by decide +kernel
theorem dX6_isTold_48 : decode cX6_isTold 48 = .ok (.iconst (-1), 1) := by decide +kernel
theorem dX6_isTold_49 : decode cX6_isTold 49 = .ok (.if_icmp .eq 24, 3) := by decide +kernel
theorem dX6_isTold_52 : decode cX6_isTold 52 = .ok (.aload_n 0, 1) := by decide +kernel
theorem dX6_isTold_53 : decode cX6_isTold 53 = .ok (.getfield 40, 3) := by decide +kernel
theorem dX6_isTold_56 : decode cX6_isTold 56 = .ok (.bipush 40, 2) := by decide +kernel
theorem dX6_isTold_58 : decode cX6_isTold 58 = .ok (.iload_n 1, 1) := by decide +kernel
theorem dX6_isTold_59 : decode cX6_isTold 59 = .ok (.imul, 1) := by decide +kernel
theorem dX6_isTold_60 : decode cX6_isTold 60 = .ok (.iload 4, 2) := by decide +kernel
theorem dX6_isTold_62 : decode cX6_isTold 62 = .ok (.iadd, 1) := by decide +kernel
theorem dX6_isTold_63 : decode cX6_isTold 63 = .ok (.iaload, 1) := by decide +kernel
theorem dX6_isTold_64 : decode cX6_isTold 64 = .ok (.aload_n 0, 1) := by decide +kernel
theorem dX6_isTold_65 : decode cX6_isTold 65 = .ok (.iload_n 2, 1) := by decide +kernel
theorem dX6_isTold_66 : decode cX6_isTold 66 = .ok (.iconst 2, 1) := by decide +kernel
theorem dX6_isTold_67 : decode cX6_isTold 67 = .ok (.invokevirtual 169, 3) := by decide +kernel
theorem dX6_isTold_70 : decode cX6_isTold 70 = .ok (.if_icmp .ne 7, 3) := by decide +kernel
theorem dX6_isTold_73 : decode cX6_isTold 73 = .ok (.iconst 1, 1) := by decide +kernel
theorem dX6_isTold_74 : decode cX6_isTold 74 = .ok (.goto 4, 3) := by decide +kernel
theorem dX6_isTold_77 : decode cX6_isTold 77 = .ok (.iconst 0, 1) := by decide +kernel
theorem dX6_isTold_78 : decode cX6_isTold 78 = .ok (.istore_n 3, 1) := by decide +kernel
theorem dX6_isTold_79 : decode cX6_isTold 79 = .ok (.iinc 4 1, 3) := by decide +kernel
theorem dX6_isTold_82 : decode cX6_isTold 82 = .ok (.goto (-66), 3) := by decide +kernel
theorem dX6_isTold_85 : decode cX6_isTold 85 = .ok (.aload_n 0, 1) := by decide +kernel
theorem dX6_isTold_86 : decode cX6_isTold 86 = .ok (.getfield 16, 3) := by decide +kernel
theorem dX6_isTold_89 : decode cX6_isTold 89 = .ok (.aload_n 0, 1) := by decide +kernel
theorem dX6_isTold_90 : decode cX6_isTold 90 = .ok (.getfield 7, 3) := by decide +kernel
theorem dX6_isTold_93 : decode cX6_isTold 93 = .ok (.invokestatic 146, 3) := by decide +kernel
theorem dX6_isTold_96 : decode cX6_isTold 96 = .ok (.iload_n 3, 1) := by decide +kernel
theorem dX6_isTold_97 : decode cX6_isTold 97 = .ok (.ireturn, 1) := by decide +kernel
set_option maxRecDepth 20000 in
theorem ggX6_fits_X6_isSheet : GoodIn wsX6_fits wsX6_isSheet := goodIn_r _ [6, 7, 8, 9, 5, 10] (by decide +kernel) (by decide +kernel)
set_option maxRecDepth 20000 in
theorem gX6_fits_X6_isSheet : GoodIn wsX6_fits (va_wsS RX6 256 yX6_isSheet wsX6_isSheet) := goodIn_app (goodIn_of _ (by decide +kernel)) ggX6_fits_X6_isSheet
set_option maxRecDepth 20000 in
theorem ggX6_fits_X6_isOne : GoodIn wsX6_fits wsX6_isOne := goodIn_r _ [14, 2, 67, 68, 69, 70, 71, 72, 73, 74, 75, 76, 77, 78, 79, 80, 81, 82, 83, 84, 85, 86, 87, 88, 89, 90, 91, 92, 93, 94] (by decide +kernel) (by decide +kernel)
set_option maxRecDepth 20000 in
theorem gX6_fits_X6_isOne : GoodIn wsX6_fits (wsV RX6 187 RX6 yX6_isOne wsX6_isOne) := goodIn_app (goodIn_of _ (by decide +kernel)) ggX6_fits_X6_isOne
set_option maxRecDepth 20000 in
theorem ggX6_fits_X6_isIn : GoodIn wsX6_fits wsX6_isIn := goodIn_r _ [10] (by decide +kernel) (by decide +kernel)
set_option maxRecDepth 20000 in
theorem gX6_fits_X6_isIn : GoodIn wsX6_fits (va_wsS RX6 60 yX6_isIn wsX6_isIn) := goodIn_app (goodIn_of _ (by decide +kernel)) ggX6_fits_X6_isIn
set_option maxRecDepth 20000 in
theorem ggX6_fits_X6_isTold : GoodIn wsX6_fits wsX6_isTold := goodIn_r _ [18, 2, 19, 20, 21, 22, 23, 5, 24, 25, 26, 27, 28, 29, 30, 31, 32, 33, 34, 35, 36, 37, 38, 39, 40, 41, 42, 43, 44, 45, 46, 47, 48, 49, 50, 51, 52, 53, 54, 55, 56, 57, 58, 59, 60, 61, 62, 63, 64, 65, 66, 67, 68, 69, 70, 71, 72, 73, 74, 75, 76, 77, 78, 79, 80, 81, 82, 83, 84, 85, 86, 87, 88, 89, 90, 91, 92, 93, 94] (by decide +kernel) (by decide +kernel)
set_option maxRecDepth 20000 in
theorem gX6_fits_X6_isTold : GoodIn wsX6_fits (wsV RX6 259 RX6 yX6_isTold wsX6_isTold) := goodIn_app (goodIn_of _ (by decide +kernel)) ggX6_fits_X6_isTold
theorem dX6_fits_0 : decode cX6_fits 0 = .ok (.iload_n 1, 1) := by decide +kernel
theorem dX6_fits_1 : decode cX6_fits 1 = .ok (.invokestatic 256, 3) := by decide +kernel
theorem dX6_fits_4 : decode cX6_fits 4 = .ok (.ifCond .eq 21, 3) := by decide +kernel
theorem dX6_fits_7 : decode cX6_fits 7 = .ok (.aload_n 0, 1) := by decide +kernel
theorem dX6_fits_8 : decode cX6_fits 8 = .ok (.iload_n 2, 1) := by decide +kernel
theorem dX6_fits_9 : decode cX6_fits 9 = .ok (.invokevirtual 187, 3) := by decide +kernel
theorem dX6_fits_12 : decode cX6_fits 12 = .ok (.ifCond .eq 13, 3) := by decide +kernel
theorem dX6_fits_15 : decode cX6_fits 15 = .ok (.iload_n 3, 1) := by decide +kernel
theorem dX6_fits_16 : decode cX6_fits 16 = .ok (.i2l, 1) := by decide +kernel
theorem dX6_fits_17 : decode cX6_fits 17 = .ok (.lconst 0, 1) := by decide +kernel
theorem dX6_fits_18 : decode cX6_fits 18 = .ok (.lconst 1, 1) := by decide +kernel
theorem dX6_fits_19 : decode cX6_fits 19 = .ok (.invokestatic 60, 3) := by decide +kernel
theorem dX6_fits_22 : decode cX6_fits 22 = .ok (.ifCond .ne 5, 3) := by decide +kernel
theorem dX6_fits_25 : decode cX6_fits 25 = .ok (.iconst (-1), 1) := by decide +kernel
theorem dX6_fits_26 : decode cX6_fits 26 = .ok (.ireturn, 1) := by decide +kernel
theorem dX6_fits_27 : decode cX6_fits 27 = .ok (.aload_n 0, 1) := by decide +kernel
theorem dX6_fits_28 : decode cX6_fits 28 = .ok (.getfield 34, 3) := by decide +kernel
theorem dX6_fits_31 : decode cX6_fits 31 = .ok (.iload_n 1, 1) := by decide +kernel
theorem dX6_fits_32 : decode cX6_fits 32 = .ok (.iaload, 1) := by decide +kernel
theorem dX6_fits_33 : decode cX6_fits 33 = .ok (.ifCond .ge 6, 3) := by decide +kernel
theorem dX6_fits_36 : decode cX6_fits 36 = .ok (.bipush (-11), 2) := by decide +kernel
theorem dX6_fits_38 : decode cX6_fits 38 = .ok (.ireturn, 1) := by decide +kernel
theorem dX6_fits_39 : decode cX6_fits 39 = .ok (.bipush 19, 2) := by decide +kernel
theorem dX6_fits_41 : decode cX6_fits 41 = .ok (.iconst 3, 1) := by decide +kernel
theorem dX6_fits_42 : decode cX6_fits 42 = .ok (.iload_n 2, 1) := by decide +kernel
theorem dX6_fits_43 : decode cX6_fits 43 = .ok (.imul, 1) := by decide +kernel
theorem dX6_fits_44 : decode cX6_fits 44 = .ok (.iadd, 1) := by decide +kernel
theorem dX6_fits_45 : decode cX6_fits 45 = .ok (.iconst 2, 1) := by decide +kernel
theorem dX6_fits_46 : decode cX6_fits 46 = .ok (.iadd, 1) := by decide +kernel
theorem dX6_fits_47 : decode cX6_fits 47 = .ok (.istore 4, 2) := by decide +kernel
theorem dX6_fits_49 : decode cX6_fits 49 = .ok (.aload_n 0, 1) := by decide +kernel
theorem dX6_fits_50 : decode cX6_fits 50 = .ok (.getfield 7, 3) := by decide +kernel
theorem dX6_fits_53 : decode cX6_fits 53 = .ok (.iload 4, 2) := by decide +kernel
theorem dX6_fits_55 : decode cX6_fits 55 = .ok (.iaload, 1) := by decide +kernel
theorem dX6_fits_56 : decode cX6_fits 56 = .ok (.istore 5, 2) := by decide +kernel
theorem dX6_fits_58 : decode cX6_fits 58 = .ok (.iconst 0, 1) := by decide +kernel
theorem dX6_fits_59 : decode cX6_fits 59 = .ok (.istore 6, 2) := by decide +kernel
theorem dX6_fits_61 : decode cX6_fits 61 = .ok (.bipush (-3), 2) := by decide +kernel
theorem dX6_fits_63 : decode cX6_fits 63 = .ok (.istore 7, 2) := by decide +kernel
theorem dX6_fits_65 : decode cX6_fits 65 = .ok (.bipush 7, 2) := by decide +kernel
theorem dX6_fits_67 : decode cX6_fits 67 = .ok (.istore 8, 2) := by decide +kernel
theorem dX6_fits_69 : decode cX6_fits 69 = .ok (.iload 8, 2) := by decide +kernel
theorem dX6_fits_71 : decode cX6_fits 71 = .ok (.ifCond .lt 55, 3) := by decide +kernel
theorem dX6_fits_74 : decode cX6_fits 74 = .ok (.aload_n 0, 1) := by decide +kernel
theorem dX6_fits_75 : decode cX6_fits 75 = .ok (.getfield 7, 3) := by decide +kernel
theorem dX6_fits_78 : decode cX6_fits 78 = .ok (.iload 4, 2) := by decide +kernel
theorem dX6_fits_80 : decode cX6_fits 80 = .ok (.iload 8, 2) := by decide +kernel
theorem dX6_fits_82 : decode cX6_fits 82 = .ok (.iastore, 1) := by decide +kernel
theorem dX6_fits_83 : decode cX6_fits 83 = .ok (.aload_n 0, 1) := by decide +kernel
theorem dX6_fits_84 : decode cX6_fits 84 = .ok (.iload_n 1, 1) := by decide +kernel
theorem dX6_fits_85 : decode cX6_fits 85 = .ok (.iload_n 2, 1) := by decide +kernel
theorem dX6_fits_86 : decode cX6_fits 86 = .ok (.invokevirtual 259, 3) := by decide +kernel
theorem dX6_fits_89 : decode cX6_fits 89 = .ok (.istore 9, 2) := by decide +kernel
theorem dX6_fits_91 : decode cX6_fits 91 = .ok (.iload 6, 2) := by decide +kernel
theorem dX6_fits_93 : decode cX6_fits 93 = .ok (.iload 9, 2) := by decide +kernel
theorem dX6_fits_95 : decode cX6_fits 95 = .ok (.ifCond .eq 7, 3) := by decide +kernel
theorem dX6_fits_98 : decode cX6_fits 98 = .ok (.iconst 1, 1) := by decide +kernel
theorem dX6_fits_99 : decode cX6_fits 99 = .ok (.goto 4, 3) := by decide +kernel
theorem dX6_fits_102 : decode cX6_fits 102 = .ok (.iconst 0, 1) := by decide +kernel
theorem dX6_fits_103 : decode cX6_fits 103 = .ok (.iadd, 1) := by decide +kernel
theorem dX6_fits_104 : decode cX6_fits 104 = .ok (.istore 6, 2) := by decide +kernel
theorem dX6_fits_106 : decode cX6_fits 106 = .ok (.iload 9, 2) := by decide +kernel
theorem dX6_fits_108 : decode cX6_fits 108 = .ok (.ifCond .eq 8, 3) := by decide +kernel
theorem dX6_fits_111 : decode cX6_fits 111 = .ok (.iload 8, 2) := by decide +kernel
theorem dX6_fits_113 : decode cX6_fits 113 = .ok (.goto 5, 3) := by decide +kernel
theorem dX6_fits_116 : decode cX6_fits 116 = .ok (.iload 7, 2) := by decide +kernel
theorem dX6_fits_118 : decode cX6_fits 118 = .ok (.istore 7, 2) := by decide +kernel
theorem dX6_fits_120 : decode cX6_fits 120 = .ok (.iinc 8 (-1), 3) := by decide +kernel
theorem dX6_fits_123 : decode cX6_fits 123 = .ok (.goto (-54), 3) := by decide +kernel
theorem dX6_fits_126 : decode cX6_fits 126 = .ok (.aload_n 0, 1) := by decide +kernel
theorem dX6_fits_127 : decode cX6_fits 127 = .ok (.getfield 7, 3) := by decide +kernel
theorem dX6_fits_130 : decode cX6_fits 130 = .ok (.iload 4, 2) := by decide +kernel
theorem dX6_fits_132 : decode cX6_fits 132 = .ok (.iload 5, 2) := by decide +kernel
theorem dX6_fits_134 : decode cX6_fits 134 = .ok (.iastore, 1) := by decide +kernel
theorem dX6_fits_135 : decode cX6_fits 135 = .ok (.iload_n 3, 1) := by decide +kernel
theorem dX6_fits_136 : decode cX6_fits 136 = .ok (.ifCond .ne 8, 3) := by decide +kernel
theorem dX6_fits_139 : decode cX6_fits 139 = .ok (.iload 6, 2) := by decide +kernel
theorem dX6_fits_141 : decode cX6_fits 141 = .ok (.goto 5, 3) := by decide +kernel
theorem dX6_fits_144 : decode cX6_fits 144 = .ok (.iload 7, 2) := by decide +kernel
theorem dX6_fits_146 : decode cX6_fits 146 = .ok (.ireturn, 1) := by decide +kernel
set_option maxRecDepth 20000 in
theorem ggX6_odds_X6_isIn : GoodIn wsX6_odds wsX6_isIn := goodIn_r _ [8] (by decide +kernel) (by decide +kernel)
set_option maxRecDepth 20000 in
theorem gX6_odds_X6_isIn : GoodIn wsX6_odds (va_wsS RX6 60 yX6_isIn wsX6_isIn) := goodIn_app (goodIn_of _ (by decide +kernel)) ggX6_odds_X6_isIn
set_option maxRecDepth 20000 in
theorem ggX6_odds_X6_product : GoodIn wsX6_odds wsX6_product := goodIn_r _ [11] (by decide +kernel) (by decide +kernel)
set_option maxRecDepth 20000 in
theorem gX6_odds_X6_product : GoodIn wsX6_odds (va_wsS RX6 264 yX6_product wsX6_product) := goodIn_app (goodIn_of _ (by decide +kernel)) ggX6_odds_X6_product
set_option maxRecDepth 20000 in
theorem ggX6_odds_X6_partOf : GoodIn wsX6_odds wsX6_partOf := goodIn_r _ [14] (by decide +kernel) (by decide +kernel)
set_option maxRecDepth 20000 in
theorem gX6_odds_X6_partOf : GoodIn wsX6_odds (va_wsS RX6 270 yX6_partOf wsX6_partOf) := goodIn_app (goodIn_of _ (by decide +kernel)) ggX6_odds_X6_partOf
theorem dX6_odds_0 : decode cX6_odds 0 = .ok (.iload_n 1, 1) := by decide +kernel
theorem dX6_odds_1 : decode cX6_odds 1 = .ok (.i2l, 1) := by decide +kernel
theorem dX6_odds_2 : decode cX6_odds 2 = .ok (.lconst 0, 1) := by decide +kernel
theorem dX6_odds_3 : decode cX6_odds 3 = .ok (.ldc2_w 58, 3) := by decide +kernel
theorem dX6_odds_6 : decode cX6_odds 6 = .ok (.invokestatic 60, 3) := by decide +kernel
theorem dX6_odds_9 : decode cX6_odds 9 = .ok (.ifCond .eq 24, 3) := by decide +kernel
theorem dX6_odds_12 : decode cX6_odds 12 = .ok (.iload_n 2, 1) := by decide +kernel
theorem dX6_odds_13 : decode cX6_odds 13 = .ok (.i2l, 1) := by decide +kernel
theorem dX6_odds_14 : decode cX6_odds 14 = .ok (.lconst 0, 1) := by decide +kernel
theorem dX6_odds_15 : decode cX6_odds 15 = .ok (.iload_n 1, 1) := by decide +kernel
theorem dX6_odds_16 : decode cX6_odds 16 = .ok (.i2l, 1) := by decide +kernel
theorem dX6_odds_17 : decode cX6_odds 17 = .ok (.invokestatic 60, 3) := by decide +kernel
theorem dX6_odds_20 : decode cX6_odds 20 = .ok (.ifCond .eq 13, 3) := by decide +kernel
theorem dX6_odds_23 : decode cX6_odds 23 = .ok (.iload_n 3, 1) := by decide +kernel
theorem dX6_odds_24 : decode cX6_odds 24 = .ok (.i2l, 1) := by decide +kernel
theorem dX6_odds_25 : decode cX6_odds 25 = .ok (.lconst 0, 1) := by decide +kernel
theorem dX6_odds_26 : decode cX6_odds 26 = .ok (.lconst 1, 1) := by decide +kernel
theorem dX6_odds_27 : decode cX6_odds 27 = .ok (.invokestatic 60, 3) := by decide +kernel
theorem dX6_odds_30 : decode cX6_odds 30 = .ok (.ifCond .ne 7, 3) := by decide +kernel
theorem dX6_odds_33 : decode cX6_odds 33 = .ok (.ldc2_w 262, 3) := by decide +kernel
theorem dX6_odds_36 : decode cX6_odds 36 = .ok (.lreturn, 1) := by decide +kernel
theorem dX6_odds_37 : decode cX6_odds 37 = .ok (.iload_n 1, 1) := by decide +kernel
theorem dX6_odds_38 : decode cX6_odds 38 = .ok (.invokestatic 264, 3) := by decide +kernel
theorem dX6_odds_41 : decode cX6_odds 41 = .ok (.iload_n 2, 1) := by decide +kernel
theorem dX6_odds_42 : decode cX6_odds 42 = .ok (.invokestatic 264, 3) := by decide +kernel
theorem dX6_odds_45 : decode cX6_odds 45 = .ok (.ldiv, 1) := by decide +kernel
theorem dX6_odds_46 : decode cX6_odds 46 = .ok (.iload_n 1, 1) := by decide +kernel
theorem dX6_odds_47 : decode cX6_odds 47 = .ok (.iload_n 2, 1) := by decide +kernel
theorem dX6_odds_48 : decode cX6_odds 48 = .ok (.isub, 1) := by decide +kernel
theorem dX6_odds_49 : decode cX6_odds 49 = .ok (.invokestatic 264, 3) := by decide +kernel
theorem dX6_odds_52 : decode cX6_odds 52 = .ok (.ldiv, 1) := by decide +kernel
theorem dX6_odds_53 : decode cX6_odds 53 = .ok (.lstore 4, 2) := by decide +kernel
theorem dX6_odds_55 : decode cX6_odds 55 = .ok (.lconst 1, 1) := by decide +kernel
theorem dX6_odds_56 : decode cX6_odds 56 = .ok (.lstore 6, 2) := by decide +kernel
theorem dX6_odds_58 : decode cX6_odds 58 = .ok (.iconst 0, 1) := by decide +kernel
theorem dX6_odds_59 : decode cX6_odds 59 = .ok (.istore 8, 2) := by decide +kernel
theorem dX6_odds_61 : decode cX6_odds 61 = .ok (.iload 8, 2) := by decide +kernel
theorem dX6_odds_63 : decode cX6_odds 63 = .ok (.iload_n 1, 1) := by decide +kernel
theorem dX6_odds_64 : decode cX6_odds 64 = .ok (.if_icmp .ge 50, 3) := by decide +kernel
theorem dX6_odds_67 : decode cX6_odds 67 = .ok (.lload 4, 2) := by decide +kernel
theorem dX6_odds_69 : decode cX6_odds 69 = .ok (.iload 8, 2) := by decide +kernel
theorem dX6_odds_71 : decode cX6_odds 71 = .ok (.iload_n 2, 1) := by decide +kernel
theorem dX6_odds_72 : decode cX6_odds 72 = .ok (.if_icmp .ge 14, 3) := by decide +kernel
theorem dX6_odds_75 : decode cX6_odds 75 = .ok (.aload_n 0, 1) := by decide +kernel
theorem dX6_odds_76 : decode cX6_odds 76 = .ok (.getfield 7, 3) := by decide +kernel
theorem dX6_odds_79 : decode cX6_odds 79 = .ok (.bipush 6, 2) := by decide +kernel
theorem dX6_odds_81 : decode cX6_odds 81 = .ok (.iaload, 1) := by decide +kernel
theorem dX6_odds_82 : decode cX6_odds 82 = .ok (.i2l, 1) := by decide +kernel
theorem dX6_odds_83 : decode cX6_odds 83 = .ok (.goto 14, 3) := by decide +kernel
theorem dX6_odds_86 : decode cX6_odds 86 = .ok (.bipush 100, 2) := by decide +kernel
theorem dX6_odds_88 : decode cX6_odds 88 = .ok (.aload_n 0, 1) := by decide +kernel
theorem dX6_odds_89 : decode cX6_odds 89 = .ok (.getfield 7, 3) := by decide +kernel
theorem dX6_odds_92 : decode cX6_odds 92 = .ok (.bipush 6, 2) := by decide +kernel
theorem dX6_odds_94 : decode cX6_odds 94 = .ok (.iaload, 1) := by decide +kernel
theorem dX6_odds_95 : decode cX6_odds 95 = .ok (.isub, 1) := by decide +kernel
theorem dX6_odds_96 : decode cX6_odds 96 = .ok (.i2l, 1) := by decide +kernel
theorem dX6_odds_97 : decode cX6_odds 97 = .ok (.lmul, 1) := by decide +kernel
theorem dX6_odds_98 : decode cX6_odds 98 = .ok (.lstore 4, 2) := by decide +kernel
theorem dX6_odds_100 : decode cX6_odds 100 = .ok (.lload 6, 2) := by decide +kernel
theorem dX6_odds_102 : decode cX6_odds 102 = .ok (.ldc2_w 268, 3) := by decide +kernel
theorem dX6_odds_105 : decode cX6_odds 105 = .ok (.lmul, 1) := by decide +kernel
theorem dX6_odds_106 : decode cX6_odds 106 = .ok (.lstore 6, 2) := by decide +kernel
theorem dX6_odds_108 : decode cX6_odds 108 = .ok (.iinc 8 1, 3) := by decide +kernel
theorem dX6_odds_111 : decode cX6_odds 111 = .ok (.goto (-50), 3) := by decide +kernel
theorem dX6_odds_114 : decode cX6_odds 114 = .ok (.lload 4, 2) := by decide +kernel
theorem dX6_odds_116 : decode cX6_odds 116 = .ok (.lload 6, 2) := by decide +kernel
theorem dX6_odds_118 : decode cX6_odds 118 = .ok (.iload_n 3, 1) := by decide +kernel
theorem dX6_odds_119 : decode cX6_odds 119 = .ok (.invokestatic 270, 3) := by decide +kernel
theorem dX6_odds_122 : decode cX6_odds 122 = .ok (.lreturn, 1) := by decide +kernel
set_option maxRecDepth 20000 in
theorem ggX6_hope_X6_isIn : GoodIn wsX6_hope wsX6_isIn := goodIn_r _ [8] (by decide +kernel) (by decide +kernel)
set_option maxRecDepth 20000 in
theorem gX6_hope_X6_isIn : GoodIn wsX6_hope (va_wsS RX6 60 yX6_isIn wsX6_isIn) := goodIn_app (goodIn_of _ (by decide +kernel)) ggX6_hope_X6_isIn
set_option maxRecDepth 20000 in
theorem ggX6_hope_X6_partOf : GoodIn wsX6_hope wsX6_partOf := goodIn_r _ [11] (by decide +kernel) (by decide +kernel)
set_option maxRecDepth 20000 in
theorem gX6_hope_X6_partOf : GoodIn wsX6_hope (va_wsS RX6 270 yX6_partOf wsX6_partOf) := goodIn_app (goodIn_of _ (by decide +kernel)) ggX6_hope_X6_partOf
theorem dX6_hope_0 : decode cX6_hope 0 = .ok (.iload_n 1, 1) := by decide +kernel
theorem dX6_hope_1 : decode cX6_hope 1 = .ok (.i2l, 1) := by decide +kernel
theorem dX6_hope_2 : decode cX6_hope 2 = .ok (.lconst 0, 1) := by decide +kernel
theorem dX6_hope_3 : decode cX6_hope 3 = .ok (.ldc2_w 164, 3) := by decide +kernel
theorem dX6_hope_6 : decode cX6_hope 6 = .ok (.invokestatic 60, 3) := by decide +kernel
theorem dX6_hope_9 : decode cX6_hope 9 = .ok (.ifCond .eq 34, 3) := by decide +kernel
theorem dX6_hope_12 : decode cX6_hope 12 = .ok (.iload_n 2, 1) := by decide +kernel
theorem dX6_hope_13 : decode cX6_hope 13 = .ok (.i2l, 1) := by decide +kernel
theorem dX6_hope_14 : decode cX6_hope 14 = .ok (.lconst 0, 1) := by decide +kernel
theorem dX6_hope_15 : decode cX6_hope 15 = .ok (.lconst 1, 1) := by decide +kernel
theorem dX6_hope_16 : decode cX6_hope 16 = .ok (.invokestatic 60, 3) := by decide +kernel
theorem dX6_hope_19 : decode cX6_hope 19 = .ok (.ifCond .eq 24, 3) := by decide +kernel
theorem dX6_hope_22 : decode cX6_hope 22 = .ok (.iload_n 1, 1) := by decide +kernel
theorem dX6_hope_23 : decode cX6_hope 23 = .ok (.i2l, 1) := by decide +kernel
theorem dX6_hope_24 : decode cX6_hope 24 = .ok (.aload_n 0, 1) := by decide +kernel
theorem dX6_hope_25 : decode cX6_hope 25 = .ok (.getfield 7, 3) := by decide +kernel
theorem dX6_hope_28 : decode cX6_hope 28 = .ok (.bipush 6, 2) := by decide +kernel
theorem dX6_hope_30 : decode cX6_hope 30 = .ok (.iaload, 1) := by decide +kernel
theorem dX6_hope_31 : decode cX6_hope 31 = .ok (.i2l, 1) := by decide +kernel
theorem dX6_hope_32 : decode cX6_hope 32 = .ok (.lmul, 1) := by decide +kernel
theorem dX6_hope_33 : decode cX6_hope 33 = .ok (.ldc2_w 268, 3) := by decide +kernel
theorem dX6_hope_36 : decode cX6_hope 36 = .ok (.iload_n 2, 1) := by decide +kernel
theorem dX6_hope_37 : decode cX6_hope 37 = .ok (.invokestatic 270, 3) := by decide +kernel
theorem dX6_hope_40 : decode cX6_hope 40 = .ok (.goto 6, 3) := by decide +kernel
theorem dX6_hope_43 : decode cX6_hope 43 = .ok (.ldc2_w 262, 3) := by decide +kernel
theorem dX6_hope_46 : decode cX6_hope 46 = .ok (.lreturn, 1) := by decide +kernel
set_option maxRecDepth 20000 in
theorem ggX6_prove_X6_isOne : GoodIn wsX6_prove wsX6_isOne := goodIn_r _ [10, 2, 55, 56, 57, 58, 59, 60, 61, 62, 63, 64, 65, 66, 67, 68, 69, 70, 71, 72, 73, 74, 75, 76, 77, 78, 79, 80, 81, 82] (by decide +kernel) (by decide +kernel)
set_option maxRecDepth 20000 in
theorem gX6_prove_X6_isOne : GoodIn wsX6_prove (wsV RX6 187 RX6 yX6_isOne wsX6_isOne) := goodIn_app (goodIn_of _ (by decide +kernel)) ggX6_prove_X6_isOne
set_option maxRecDepth 20000 in
theorem ggX6_prove_X6_isIn : GoodIn wsX6_prove wsX6_isIn := goodIn_r _ [13] (by decide +kernel) (by decide +kernel)
set_option maxRecDepth 20000 in
theorem gX6_prove_X6_isIn : GoodIn wsX6_prove (va_wsS RX6 60 yX6_isIn wsX6_isIn) := goodIn_app (goodIn_of _ (by decide +kernel)) ggX6_prove_X6_isIn
set_option maxRecDepth 20000 in
theorem ggX6_prove_X6_copyRow : GoodIn wsX6_prove wsX6_copyRow := goodIn_r _ [16] (by decide +kernel) (by decide +kernel)
set_option maxRecDepth 20000 in
theorem gX6_prove_X6_copyRow : GoodIn wsX6_prove (va_wsS RX6 146 yX6_copyRow wsX6_copyRow) := goodIn_app (goodIn_of _ (by decide +kernel)) ggX6_prove_X6_copyRow
set_option maxRecDepth 20000 in
theorem ggX6_prove_X6_goesOn : GoodIn wsX6_prove wsX6_goesOn := goodIn_r _ [20, 2, 21, 22, 23, 9, 24, 25, 26, 27, 28, 29, 30, 31, 32, 33, 34, 35, 36, 37, 38, 39, 40, 41, 42, 43, 44, 45, 46, 47, 48, 49, 50, 51, 52, 53, 54, 55, 56, 57, 58, 59, 60, 61, 62, 63, 64, 65, 66, 67, 68, 69, 70, 71, 72, 73, 74, 75, 76, 77, 78, 79, 80, 81, 82] (by decide +kernel) (by decide +kernel)
set_option maxRecDepth 20000 in
theorem gX6_prove_X6_goesOn : GoodIn wsX6_prove (wsV RX6 210 RX6 yX6_goesOn wsX6_goesOn) := goodIn_app (goodIn_of _ (by decide +kernel)) ggX6_prove_X6_goesOn
set_option maxRecDepth 20000 in
theorem ggX6_prove_X6_its : GoodIn wsX6_prove wsX6_its := goodIn_r _ [32, 2, 55, 56, 57, 58, 59, 60, 61, 62, 63, 64, 65, 66, 67, 68, 69, 70, 71, 72, 73, 74, 75, 76, 77, 78, 79, 80, 81, 82] (by decide +kernel) (by decide +kernel)
set_option maxRecDepth 20000 in
theorem gX6_prove_X6_its : GoodIn wsX6_prove (wsV RX6 169 RX6 yX6_its wsX6_its) := goodIn_app (goodIn_of _ (by decide +kernel)) ggX6_prove_X6_its
theorem dX6_prove_0 : decode cX6_prove 0 = .ok (.aload_n 0, 1) := by decide +kernel
theorem dX6_prove_1 : decode cX6_prove 1 = .ok (.iload_n 1, 1) := by decide +kernel
theorem dX6_prove_2 : decode cX6_prove 2 = .ok (.invokevirtual 187, 3) := by decide +kernel
theorem dX6_prove_5 : decode cX6_prove 5 = .ok (.ifCond .eq 15, 3) := by decide +kernel
theorem dX6_prove_8 : decode cX6_prove 8 = .ok (.iload_n 2, 1) := by decide +kernel
theorem dX6_prove_9 : decode cX6_prove 9 = .ok (.i2l, 1) := by decide +kernel
theorem dX6_prove_10 : decode cX6_prove 10 = .ok (.lconst 1, 1) := by decide +kernel
theorem dX6_prove_11 : decode cX6_prove 11 = .ok (.ldc2_w 274, 3) := by decide +kernel
theorem dX6_prove_14 : decode cX6_prove 14 = .ok (.invokestatic 60, 3) := by decide +kernel
theorem dX6_prove_17 : decode cX6_prove 17 = .ok (.ifCond .ne 5, 3) := by decide +kernel
theorem dX6_prove_20 : decode cX6_prove 20 = .ok (.iconst (-1), 1) := by decide +kernel
theorem dX6_prove_21 : decode cX6_prove 21 = .ok (.ireturn, 1) := by decide +kernel
theorem dX6_prove_22 : decode cX6_prove 22 = .ok (.aload_n 0, 1) := by decide +kernel
theorem dX6_prove_23 : decode cX6_prove 23 = .ok (.getfield 7, 3) := by decide +kernel
theorem dX6_prove_26 : decode cX6_prove 26 = .ok (.aload_n 0, 1) := by decide +kernel
theorem dX6_prove_27 : decode cX6_prove 27 = .ok (.getfield 16, 3) := by decide +kernel
theorem dX6_prove_30 : decode cX6_prove 30 = .ok (.invokestatic 146, 3) := by decide +kernel
theorem dX6_prove_33 : decode cX6_prove 33 = .ok (.iconst 0, 1) := by decide +kernel
theorem dX6_prove_34 : decode cX6_prove 34 = .ok (.istore_n 3, 1) := by decide +kernel
theorem dX6_prove_35 : decode cX6_prove 35 = .ok (.iload_n 3, 1) := by decide +kernel
theorem dX6_prove_36 : decode cX6_prove 36 = .ok (.iload_n 2, 1) := by decide +kernel
theorem dX6_prove_37 : decode cX6_prove 37 = .ok (.if_icmp .ge 57, 3) := by decide +kernel
theorem dX6_prove_40 : decode cX6_prove 40 = .ok (.aload_n 0, 1) := by decide +kernel
theorem dX6_prove_41 : decode cX6_prove 41 = .ok (.getfield 31, 3) := by decide +kernel
theorem dX6_prove_44 : decode cX6_prove 44 = .ok (.iconst 3, 1) := by decide +kernel
theorem dX6_prove_45 : decode cX6_prove 45 = .ok (.iload_n 3, 1) := by decide +kernel
theorem dX6_prove_46 : decode cX6_prove 46 = .ok (.imul, 1) := by decide +kernel
theorem dX6_prove_47 : decode cX6_prove 47 = .ok (.iconst 2, 1) := by decide +kernel
theorem dX6_prove_48 : decode cX6_prove 48 = .ok (.iadd, 1) := by decide +kernel
theorem dX6_prove_49 : decode cX6_prove 49 = .ok (.aload_n 0, 1) := by decide +kernel
theorem dX6_prove_50 : decode cX6_prove 50 = .ok (.invokevirtual 210, 3) := by decide +kernel
theorem dX6_prove_53 : decode cX6_prove 53 = .ok (.iload_n 1, 1) := by decide +kernel
theorem dX6_prove_54 : decode cX6_prove 54 = .ok (.ishr, 1) := by decide +kernel
theorem dX6_prove_55 : decode cX6_prove 55 = .ok (.iconst 1, 1) := by decide +kernel
theorem dX6_prove_56 : decode cX6_prove 56 = .ok (.iand, 1) := by decide +kernel
theorem dX6_prove_57 : decode cX6_prove 57 = .ok (.iastore, 1) := by decide +kernel
theorem dX6_prove_58 : decode cX6_prove 58 = .ok (.aload_n 0, 1) := by decide +kernel
theorem dX6_prove_59 : decode cX6_prove 59 = .ok (.getfield 31, 3) := by decide +kernel
theorem dX6_prove_62 : decode cX6_prove 62 = .ok (.iconst 3, 1) := by decide +kernel
theorem dX6_prove_63 : decode cX6_prove 63 = .ok (.iload_n 3, 1) := by decide +kernel
theorem dX6_prove_64 : decode cX6_prove 64 = .ok (.imul, 1) := by decide +kernel
theorem dX6_prove_65 : decode cX6_prove 65 = .ok (.aload_n 0, 1) := by decide +kernel
theorem dX6_prove_66 : decode cX6_prove 66 = .ok (.iload_n 1, 1) := by decide +kernel
theorem dX6_prove_67 : decode cX6_prove 67 = .ok (.iconst 2, 1) := by decide +kernel
theorem dX6_prove_68 : decode cX6_prove 68 = .ok (.invokevirtual 169, 3) := by decide +kernel
theorem dX6_prove_71 : decode cX6_prove 71 = .ok (.iastore, 1) := by decide +kernel
theorem dX6_prove_72 : decode cX6_prove 72 = .ok (.aload_n 0, 1) := by decide +kernel
theorem dX6_prove_73 : decode cX6_prove 73 = .ok (.getfield 31, 3) := by decide +kernel
theorem dX6_prove_76 : decode cX6_prove 76 = .ok (.iconst 3, 1) := by decide +kernel
theorem dX6_prove_77 : decode cX6_prove 77 = .ok (.iload_n 3, 1) := by decide +kernel
theorem dX6_prove_78 : decode cX6_prove 78 = .ok (.imul, 1) := by decide +kernel
theorem dX6_prove_79 : decode cX6_prove 79 = .ok (.iconst 1, 1) := by decide +kernel
theorem dX6_prove_80 : decode cX6_prove 80 = .ok (.iadd, 1) := by decide +kernel
theorem dX6_prove_81 : decode cX6_prove 81 = .ok (.aload_n 0, 1) := by decide +kernel
theorem dX6_prove_82 : decode cX6_prove 82 = .ok (.iload_n 1, 1) := by decide +kernel
theorem dX6_prove_83 : decode cX6_prove 83 = .ok (.iconst 1, 1) := by decide +kernel
theorem dX6_prove_84 : decode cX6_prove 84 = .ok (.invokevirtual 169, 3) := by decide +kernel
theorem dX6_prove_87 : decode cX6_prove 87 = .ok (.iastore, 1) := by decide +kernel
theorem dX6_prove_88 : decode cX6_prove 88 = .ok (.iinc 3 1, 3) := by decide +kernel
theorem dX6_prove_91 : decode cX6_prove 91 = .ok (.goto (-56), 3) := by decide +kernel
theorem dX6_prove_94 : decode cX6_prove 94 = .ok (.aload_n 0, 1) := by decide +kernel
theorem dX6_prove_95 : decode cX6_prove 95 = .ok (.getfield 16, 3) := by decide +kernel
theorem dX6_prove_98 : decode cX6_prove 98 = .ok (.aload_n 0, 1) := by decide +kernel
theorem dX6_prove_99 : decode cX6_prove 99 = .ok (.getfield 7, 3) := by decide +kernel
theorem dX6_prove_102 : decode cX6_prove 102 = .ok (.invokestatic 146, 3) := by decide +kernel
theorem dX6_prove_105 : decode cX6_prove 105 = .ok (.aload_n 0, 1) := by decide +kernel
theorem dX6_prove_106 : decode cX6_prove 106 = .ok (.iload_n 2, 1) := by decide +kernel
theorem dX6_prove_107 : decode cX6_prove 107 = .ok (.putfield 153, 3) := by decide +kernel
theorem dX6_prove_110 : decode cX6_prove 110 = .ok (.iload_n 2, 1) := by decide +kernel
theorem dX6_prove_111 : decode cX6_prove 111 = .ok (.ireturn, 1) := by decide +kernel
set_option maxRecDepth 20000 in
theorem ggX6_isRow_X6_isIn : GoodIn wsX6_isRow wsX6_isIn := goodIn_r _ [6] (by decide +kernel) (by decide +kernel)
set_option maxRecDepth 20000 in
theorem gX6_isRow_X6_isIn : GoodIn wsX6_isRow (va_wsS RX6 60 yX6_isIn wsX6_isIn) := goodIn_app (goodIn_of _ (by decide +kernel)) ggX6_isRow_X6_isIn
theorem dX6_isRow_0 : decode cX6_isRow 0 = .ok (.iload_n 1, 1) := by decide +kernel
theorem dX6_isRow_1 : decode cX6_isRow 1 = .ok (.i2l, 1) := by decide +kernel
theorem dX6_isRow_2 : decode cX6_isRow 2 = .ok (.lconst 0, 1) := by decide +kernel
theorem dX6_isRow_3 : decode cX6_isRow 3 = .ok (.aload_n 0, 1) := by decide +kernel
theorem dX6_isRow_4 : decode cX6_isRow 4 = .ok (.getfield 153, 3) := by decide +kernel
theorem dX6_isRow_7 : decode cX6_isRow 7 = .ok (.iconst 1, 1) := by decide +kernel
theorem dX6_isRow_8 : decode cX6_isRow 8 = .ok (.isub, 1) := by decide +kernel
theorem dX6_isRow_9 : decode cX6_isRow 9 = .ok (.i2l, 1) := by decide +kernel
theorem dX6_isRow_10 : decode cX6_isRow 10 = .ok (.invokestatic 60, 3) := by decide +kernel
theorem dX6_isRow_13 : decode cX6_isRow 13 = .ok (.ifCond .eq 19, 3) := by decide +kernel
theorem dX6_isRow_16 : decode cX6_isRow 16 = .ok (.iload_n 2, 1) := by decide +kernel
theorem dX6_isRow_17 : decode cX6_isRow 17 = .ok (.i2l, 1) := by decide +kernel
theorem dX6_isRow_18 : decode cX6_isRow 18 = .ok (.lconst 0, 1) := by decide +kernel
theorem dX6_isRow_19 : decode cX6_isRow 19 = .ok (.ldc2_w 276, 3) := by decide +kernel
theorem dX6_isRow_22 : decode cX6_isRow 22 = .ok (.invokestatic 60, 3) := by decide +kernel
theorem dX6_isRow_25 : decode cX6_isRow 25 = .ok (.ifCond .eq 7, 3) := by decide +kernel
theorem dX6_isRow_28 : decode cX6_isRow 28 = .ok (.iconst 1, 1) := by decide +kernel
theorem dX6_isRow_29 : decode cX6_isRow 29 = .ok (.goto 4, 3) := by decide +kernel
theorem dX6_isRow_32 : decode cX6_isRow 32 = .ok (.iconst 0, 1) := by decide +kernel
theorem dX6_isRow_33 : decode cX6_isRow 33 = .ok (.ireturn, 1) := by decide +kernel
set_option maxRecDepth 20000 in
theorem ggX6_row_X6_isRow : GoodIn wsX6_row wsX6_isRow := goodIn_r _ [6, 7, 8, 9, 10, 5, 11, 12, 13, 14, 15, 16, 17, 18, 19, 20, 21, 22, 23, 24, 25, 26, 27, 28, 29, 30, 31, 32, 33, 34, 35, 36, 37, 38, 39] (by decide +kernel) (by decide +kernel)
set_option maxRecDepth 20000 in
theorem gX6_row_X6_isRow : GoodIn wsX6_row (wsV RX6 278 RX6 yX6_isRow wsX6_isRow) := goodIn_app (goodIn_of _ (by decide +kernel)) ggX6_row_X6_isRow
theorem dX6_row_0 : decode cX6_row 0 = .ok (.aload_n 0, 1) := by decide +kernel
theorem dX6_row_1 : decode cX6_row 1 = .ok (.iload_n 1, 1) := by decide +kernel
theorem dX6_row_2 : decode cX6_row 2 = .ok (.iload_n 2, 1) := by decide +kernel
theorem dX6_row_3 : decode cX6_row 3 = .ok (.invokevirtual 278, 3) := by decide +kernel
theorem dX6_row_6 : decode cX6_row 6 = .ok (.ifCond .eq 16, 3) := by decide +kernel
theorem dX6_row_9 : decode cX6_row 9 = .ok (.aload_n 0, 1) := by decide +kernel
theorem dX6_row_10 : decode cX6_row 10 = .ok (.getfield 31, 3) := by decide +kernel
theorem dX6_row_13 : decode cX6_row 13 = .ok (.iconst 3, 1) := by decide +kernel
theorem dX6_row_14 : decode cX6_row 14 = .ok (.iload_n 1, 1) := by decide +kernel
theorem dX6_row_15 : decode cX6_row 15 = .ok (.imul, 1) := by decide +kernel
theorem dX6_row_16 : decode cX6_row 16 = .ok (.iload_n 2, 1) := by decide +kernel
theorem dX6_row_17 : decode cX6_row 17 = .ok (.iadd, 1) := by decide +kernel
theorem dX6_row_18 : decode cX6_row 18 = .ok (.iaload, 1) := by decide +kernel
theorem dX6_row_19 : decode cX6_row 19 = .ok (.goto 5, 3) := by decide +kernel
theorem dX6_row_22 : decode cX6_row 22 = .ok (.bipush (-9), 2) := by decide +kernel
theorem dX6_row_24 : decode cX6_row 24 = .ok (.ireturn, 1) := by decide +kernel
set_option maxRecDepth 20000 in
theorem ggX6_alterRow_X6_isRow : GoodIn wsX6_alterRow wsX6_isRow := goodIn_r _ [6, 7, 8, 9, 10, 5, 11, 12, 13, 14, 15, 16, 17, 18, 19, 20, 21, 22, 23, 24, 25, 26, 27, 28, 29, 30, 31, 32, 33, 34, 35, 36, 37, 38, 39] (by decide +kernel) (by decide +kernel)
set_option maxRecDepth 20000 in
theorem gX6_alterRow_X6_isRow : GoodIn wsX6_alterRow (wsV RX6 278 RX6 yX6_isRow wsX6_isRow) := goodIn_app (goodIn_of _ (by decide +kernel)) ggX6_alterRow_X6_isRow
theorem dX6_alterRow_0 : decode cX6_alterRow 0 = .ok (.aload_n 0, 1) := by decide +kernel
theorem dX6_alterRow_1 : decode cX6_alterRow 1 = .ok (.iload_n 1, 1) := by decide +kernel
theorem dX6_alterRow_2 : decode cX6_alterRow 2 = .ok (.iload_n 2, 1) := by decide +kernel
theorem dX6_alterRow_3 : decode cX6_alterRow 3 = .ok (.invokevirtual 278, 3) := by decide +kernel
theorem dX6_alterRow_6 : decode cX6_alterRow 6 = .ok (.ifCond .ne 6, 3) := by decide +kernel
theorem dX6_alterRow_9 : decode cX6_alterRow 9 = .ok (.bipush (-9), 2) := by decide +kernel
theorem dX6_alterRow_11 : decode cX6_alterRow 11 = .ok (.ireturn, 1) := by decide +kernel
theorem dX6_alterRow_12 : decode cX6_alterRow 12 = .ok (.aload_n 0, 1) := by decide +kernel
theorem dX6_alterRow_13 : decode cX6_alterRow 13 = .ok (.getfield 31, 3) := by decide +kernel
theorem dX6_alterRow_16 : decode cX6_alterRow 16 = .ok (.iconst 3, 1) := by decide +kernel
theorem dX6_alterRow_17 : decode cX6_alterRow 17 = .ok (.iload_n 1, 1) := by decide +kernel
theorem dX6_alterRow_18 : decode cX6_alterRow 18 = .ok (.imul, 1) := by decide +kernel
theorem dX6_alterRow_19 : decode cX6_alterRow 19 = .ok (.iload_n 2, 1) := by decide +kernel
theorem dX6_alterRow_20 : decode cX6_alterRow 20 = .ok (.iadd, 1) := by decide +kernel
theorem dX6_alterRow_21 : decode cX6_alterRow 21 = .ok (.iaload, 1) := by decide +kernel
theorem dX6_alterRow_22 : decode cX6_alterRow 22 = .ok (.istore 4, 2) := by decide +kernel
theorem dX6_alterRow_24 : decode cX6_alterRow 24 = .ok (.aload_n 0, 1) := by decide +kernel
theorem dX6_alterRow_25 : decode cX6_alterRow 25 = .ok (.getfield 31, 3) := by decide +kernel
theorem dX6_alterRow_28 : decode cX6_alterRow 28 = .ok (.iconst 3, 1) := by decide +kernel
theorem dX6_alterRow_29 : decode cX6_alterRow 29 = .ok (.iload_n 1, 1) := by decide +kernel
theorem dX6_alterRow_30 : decode cX6_alterRow 30 = .ok (.imul, 1) := by decide +kernel
theorem dX6_alterRow_31 : decode cX6_alterRow 31 = .ok (.iload_n 2, 1) := by decide +kernel
theorem dX6_alterRow_32 : decode cX6_alterRow 32 = .ok (.iadd, 1) := by decide +kernel
theorem dX6_alterRow_33 : decode cX6_alterRow 33 = .ok (.iload_n 3, 1) := by decide +kernel
theorem dX6_alterRow_34 : decode cX6_alterRow 34 = .ok (.iastore, 1) := by decide +kernel
theorem dX6_alterRow_35 : decode cX6_alterRow 35 = .ok (.iload 4, 2) := by decide +kernel
theorem dX6_alterRow_37 : decode cX6_alterRow 37 = .ok (.ireturn, 1) := by decide +kernel
set_option maxRecDepth 20000 in
theorem ggX6_judge_X6_isOne : GoodIn wsX6_judge wsX6_isOne := goodIn_r _ [9, 1, 51, 52, 53, 54, 55, 56, 57, 58, 59, 60, 61, 62, 63, 64, 65, 66, 67, 68, 69, 70, 71, 72, 73, 74, 75, 76, 77, 78] (by decide +kernel) (by decide +kernel)
set_option maxRecDepth 20000 in
theorem gX6_judge_X6_isOne : GoodIn wsX6_judge (wsV RX6 187 RX6 yX6_isOne wsX6_isOne) := goodIn_app (goodIn_of _ (by decide +kernel)) ggX6_judge_X6_isOne
set_option maxRecDepth 20000 in
theorem ggX6_judge_X6_copyRow : GoodIn wsX6_judge wsX6_copyRow := goodIn_r _ [12] (by decide +kernel) (by decide +kernel)
set_option maxRecDepth 20000 in
theorem gX6_judge_X6_copyRow : GoodIn wsX6_judge (va_wsS RX6 146 yX6_copyRow wsX6_copyRow) := goodIn_app (goodIn_of _ (by decide +kernel)) ggX6_judge_X6_copyRow
set_option maxRecDepth 20000 in
theorem ggX6_judge_X6_goesOn : GoodIn wsX6_judge wsX6_goesOn := goodIn_r _ [16, 1, 17, 18, 19, 8, 20, 21, 22, 23, 24, 25, 26, 27, 28, 29, 30, 31, 32, 33, 34, 35, 36, 37, 38, 39, 40, 41, 42, 43, 44, 45, 46, 47, 48, 49, 50, 51, 52, 53, 54, 55, 56, 57, 58, 59, 60, 61, 62, 63, 64, 65, 66, 67, 68, 69, 70, 71, 72, 73, 74, 75, 76, 77, 78] (by decide +kernel) (by decide +kernel)
set_option maxRecDepth 20000 in
theorem gX6_judge_X6_goesOn : GoodIn wsX6_judge (wsV RX6 210 RX6 yX6_goesOn wsX6_goesOn) := goodIn_app (goodIn_of _ (by decide +kernel)) ggX6_judge_X6_goesOn
set_option maxRecDepth 20000 in
theorem ggX6_judge_X6_its : GoodIn wsX6_judge wsX6_its := goodIn_r _ [28, 1, 51, 52, 53, 54, 55, 56, 57, 58, 59, 60, 61, 62, 63, 64, 65, 66, 67, 68, 69, 70, 71, 72, 73, 74, 75, 76, 77, 78] (by decide +kernel) (by decide +kernel)
set_option maxRecDepth 20000 in
theorem gX6_judge_X6_its : GoodIn wsX6_judge (wsV RX6 169 RX6 yX6_its wsX6_its) := goodIn_app (goodIn_of _ (by decide +kernel)) ggX6_judge_X6_its
theorem dX6_judge_0 : decode cX6_judge 0 = .ok (.aload_n 0, 1) := by decide +kernel
theorem dX6_judge_1 : decode cX6_judge 1 = .ok (.iload_n 1, 1) := by decide +kernel
theorem dX6_judge_2 : decode cX6_judge 2 = .ok (.invokevirtual 187, 3) := by decide +kernel
theorem dX6_judge_5 : decode cX6_judge 5 = .ok (.ifCond .ne 5, 3) := by decide +kernel
theorem dX6_judge_8 : decode cX6_judge 8 = .ok (.iconst (-1), 1) := by decide +kernel
theorem dX6_judge_9 : decode cX6_judge 9 = .ok (.ireturn, 1) := by decide +kernel
theorem dX6_judge_10 : decode cX6_judge 10 = .ok (.aload_n 0, 1) := by decide +kernel
theorem dX6_judge_11 : decode cX6_judge 11 = .ok (.getfield 7, 3) := by decide +kernel
theorem dX6_judge_14 : decode cX6_judge 14 = .ok (.aload_n 0, 1) := by decide +kernel
theorem dX6_judge_15 : decode cX6_judge 15 = .ok (.getfield 16, 3) := by decide +kernel
theorem dX6_judge_18 : decode cX6_judge 18 = .ok (.invokestatic 146, 3) := by decide +kernel
theorem dX6_judge_21 : decode cX6_judge 21 = .ok (.iconst 0, 1) := by decide +kernel
theorem dX6_judge_22 : decode cX6_judge 22 = .ok (.istore_n 2, 1) := by decide +kernel
theorem dX6_judge_23 : decode cX6_judge 23 = .ok (.iconst 1, 1) := by decide +kernel
theorem dX6_judge_24 : decode cX6_judge 24 = .ok (.istore_n 3, 1) := by decide +kernel
theorem dX6_judge_25 : decode cX6_judge 25 = .ok (.iload_n 2, 1) := by decide +kernel
theorem dX6_judge_26 : decode cX6_judge 26 = .ok (.aload_n 0, 1) := by decide +kernel
theorem dX6_judge_27 : decode cX6_judge 27 = .ok (.getfield 153, 3) := by decide +kernel
theorem dX6_judge_30 : decode cX6_judge 30 = .ok (.if_icmp .ge 76, 3) := by decide +kernel
theorem dX6_judge_33 : decode cX6_judge 33 = .ok (.iload_n 3, 1) := by decide +kernel
theorem dX6_judge_34 : decode cX6_judge 34 = .ok (.ifCond .eq 72, 3) := by decide +kernel
theorem dX6_judge_37 : decode cX6_judge 37 = .ok (.aload_n 0, 1) := by decide +kernel
theorem dX6_judge_38 : decode cX6_judge 38 = .ok (.getfield 31, 3) := by decide +kernel
theorem dX6_judge_41 : decode cX6_judge 41 = .ok (.iconst 3, 1) := by decide +kernel
theorem dX6_judge_42 : decode cX6_judge 42 = .ok (.iload_n 2, 1) := by decide +kernel
theorem dX6_judge_43 : decode cX6_judge 43 = .ok (.imul, 1) := by decide +kernel
theorem dX6_judge_44 : decode cX6_judge 44 = .ok (.iconst 2, 1) := by decide +kernel
theorem dX6_judge_45 : decode cX6_judge 45 = .ok (.iadd, 1) := by decide +kernel
theorem dX6_judge_46 : decode cX6_judge 46 = .ok (.iaload, 1) := by decide +kernel
theorem dX6_judge_47 : decode cX6_judge 47 = .ok (.aload_n 0, 1) := by decide +kernel
theorem dX6_judge_48 : decode cX6_judge 48 = .ok (.invokevirtual 210, 3) := by decide +kernel
theorem dX6_judge_51 : decode cX6_judge 51 = .ok (.iload_n 1, 1) := by decide +kernel
theorem dX6_judge_52 : decode cX6_judge 52 = .ok (.ishr, 1) := by decide +kernel
theorem dX6_judge_53 : decode cX6_judge 53 = .ok (.iconst 1, 1) := by decide +kernel
theorem dX6_judge_54 : decode cX6_judge 54 = .ok (.iand, 1) := by decide +kernel
theorem dX6_judge_55 : decode cX6_judge 55 = .ok (.if_icmp .ne 43, 3) := by decide +kernel
theorem dX6_judge_58 : decode cX6_judge 58 = .ok (.aload_n 0, 1) := by decide +kernel
theorem dX6_judge_59 : decode cX6_judge 59 = .ok (.getfield 31, 3) := by decide +kernel
theorem dX6_judge_62 : decode cX6_judge 62 = .ok (.iconst 3, 1) := by decide +kernel
theorem dX6_judge_63 : decode cX6_judge 63 = .ok (.iload_n 2, 1) := by decide +kernel
theorem dX6_judge_64 : decode cX6_judge 64 = .ok (.imul, 1) := by decide +kernel
theorem dX6_judge_65 : decode cX6_judge 65 = .ok (.iaload, 1) := by decide +kernel
theorem dX6_judge_66 : decode cX6_judge 66 = .ok (.aload_n 0, 1) := by decide +kernel
theorem dX6_judge_67 : decode cX6_judge 67 = .ok (.iload_n 1, 1) := by decide +kernel
theorem dX6_judge_68 : decode cX6_judge 68 = .ok (.iconst 2, 1) := by decide +kernel
theorem dX6_judge_69 : decode cX6_judge 69 = .ok (.invokevirtual 169, 3) := by decide +kernel
theorem dX6_judge_72 : decode cX6_judge 72 = .ok (.if_icmp .ne 26, 3) := by decide +kernel
theorem dX6_judge_75 : decode cX6_judge 75 = .ok (.aload_n 0, 1) := by decide +kernel
theorem dX6_judge_76 : decode cX6_judge 76 = .ok (.getfield 31, 3) := by decide +kernel
theorem dX6_judge_79 : decode cX6_judge 79 = .ok (.iconst 3, 1) := by decide +kernel
theorem dX6_judge_80 : decode cX6_judge 80 = .ok (.iload_n 2, 1) := by decide +kernel
theorem dX6_judge_81 : decode cX6_judge 81 = .ok (.imul, 1) := by decide +kernel
theorem dX6_judge_82 : decode cX6_judge 82 = .ok (.iconst 1, 1) := by decide +kernel
theorem dX6_judge_83 : decode cX6_judge 83 = .ok (.iadd, 1) := by decide +kernel
theorem dX6_judge_84 : decode cX6_judge 84 = .ok (.iaload, 1) := by decide +kernel
theorem dX6_judge_85 : decode cX6_judge 85 = .ok (.aload_n 0, 1) := by decide +kernel
theorem dX6_judge_86 : decode cX6_judge 86 = .ok (.iload_n 1, 1) := by decide +kernel
theorem dX6_judge_87 : decode cX6_judge 87 = .ok (.iconst 1, 1) := by decide +kernel
theorem dX6_judge_88 : decode cX6_judge 88 = .ok (.invokevirtual 169, 3) := by decide +kernel
theorem dX6_judge_91 : decode cX6_judge 91 = .ok (.if_icmp .ne 7, 3) := by decide +kernel
theorem dX6_judge_94 : decode cX6_judge 94 = .ok (.iconst 1, 1) := by decide +kernel
theorem dX6_judge_95 : decode cX6_judge 95 = .ok (.goto 4, 3) := by decide +kernel
theorem dX6_judge_98 : decode cX6_judge 98 = .ok (.iconst 0, 1) := by decide +kernel
theorem dX6_judge_99 : decode cX6_judge 99 = .ok (.istore_n 3, 1) := by decide +kernel
theorem dX6_judge_100 : decode cX6_judge 100 = .ok (.iinc 2 1, 3) := by decide +kernel
theorem dX6_judge_103 : decode cX6_judge 103 = .ok (.goto (-78), 3) := by decide +kernel
theorem dX6_judge_106 : decode cX6_judge 106 = .ok (.aload_n 0, 1) := by decide +kernel
theorem dX6_judge_107 : decode cX6_judge 107 = .ok (.getfield 16, 3) := by decide +kernel
theorem dX6_judge_110 : decode cX6_judge 110 = .ok (.aload_n 0, 1) := by decide +kernel
theorem dX6_judge_111 : decode cX6_judge 111 = .ok (.getfield 7, 3) := by decide +kernel
theorem dX6_judge_114 : decode cX6_judge 114 = .ok (.invokestatic 146, 3) := by decide +kernel
theorem dX6_judge_117 : decode cX6_judge 117 = .ok (.iload_n 3, 1) := by decide +kernel
theorem dX6_judge_118 : decode cX6_judge 118 = .ok (.ifCond .eq 7, 3) := by decide +kernel
theorem dX6_judge_121 : decode cX6_judge 121 = .ok (.iconst 0, 1) := by decide +kernel
theorem dX6_judge_122 : decode cX6_judge 122 = .ok (.goto 4, 3) := by decide +kernel
theorem dX6_judge_125 : decode cX6_judge 125 = .ok (.iload_n 2, 1) := by decide +kernel
theorem dX6_judge_126 : decode cX6_judge 126 = .ok (.ireturn, 1) := by decide +kernel
set_option maxRecDepth 20000 in
theorem ggX6_isSheet_X6_isIn : GoodIn wsX6_isSheet wsX6_isIn := goodIn_r _ [5] (by decide +kernel) (by decide +kernel)
set_option maxRecDepth 20000 in
theorem gX6_isSheet_X6_isIn : GoodIn wsX6_isSheet (va_wsS RX6 60 yX6_isIn wsX6_isIn) := goodIn_app (goodIn_of _ (by decide +kernel)) ggX6_isSheet_X6_isIn
theorem dX6_isSheet_0 : decode cX6_isSheet 0 = .ok (.iload_n 0, 1) := by decide +kernel
theorem dX6_isSheet_1 : decode cX6_isSheet 1 = .ok (.i2l, 1) := by decide +kernel
theorem dX6_isSheet_2 : decode cX6_isSheet 2 = .ok (.lconst 0, 1) := by decide +kernel
theorem dX6_isSheet_3 : decode cX6_isSheet 3 = .ok (.ldc2_w 156, 3) := by decide +kernel
theorem dX6_isSheet_6 : decode cX6_isSheet 6 = .ok (.invokestatic 60, 3) := by decide +kernel
theorem dX6_isSheet_9 : decode cX6_isSheet 9 = .ok (.ireturn, 1) := by decide +kernel
set_option maxRecDepth 20000 in
theorem ggX6_isShelf_X6_isIn : GoodIn wsX6_isShelf wsX6_isIn := goodIn_r _ [5] (by decide +kernel) (by decide +kernel)
set_option maxRecDepth 20000 in
theorem gX6_isShelf_X6_isIn : GoodIn wsX6_isShelf (va_wsS RX6 60 yX6_isIn wsX6_isIn) := goodIn_app (goodIn_of _ (by decide +kernel)) ggX6_isShelf_X6_isIn
theorem dX6_isShelf_0 : decode cX6_isShelf 0 = .ok (.iload_n 0, 1) := by decide +kernel
theorem dX6_isShelf_1 : decode cX6_isShelf 1 = .ok (.i2l, 1) := by decide +kernel
theorem dX6_isShelf_2 : decode cX6_isShelf 2 = .ok (.lconst 0, 1) := by decide +kernel
theorem dX6_isShelf_3 : decode cX6_isShelf 3 = .ok (.ldc2_w 156, 3) := by decide +kernel
theorem dX6_isShelf_6 : decode cX6_isShelf 6 = .ok (.invokestatic 60, 3) := by decide +kernel
theorem dX6_isShelf_9 : decode cX6_isShelf 9 = .ok (.ireturn, 1) := by decide +kernel
set_option maxRecDepth 20000 in
theorem ggX6_sheet_X6_isSheet : GoodIn wsX6_sheet wsX6_isSheet := goodIn_r _ [9, 2, 10, 11, 8, 12] (by decide +kernel) (by decide +kernel)
set_option maxRecDepth 20000 in
theorem gX6_sheet_X6_isSheet : GoodIn wsX6_sheet (va_wsS RX6 256 yX6_isSheet wsX6_isSheet) := goodIn_app (goodIn_of _ (by decide +kernel)) ggX6_sheet_X6_isSheet
set_option maxRecDepth 20000 in
theorem ggX6_sheet_X6_isIn : GoodIn wsX6_sheet wsX6_isIn := goodIn_r _ [12] (by decide +kernel) (by decide +kernel)
set_option maxRecDepth 20000 in
theorem gX6_sheet_X6_isIn : GoodIn wsX6_sheet (va_wsS RX6 60 yX6_isIn wsX6_isIn) := goodIn_app (goodIn_of _ (by decide +kernel)) ggX6_sheet_X6_isIn
theorem dX6_sheet_0 : decode cX6_sheet 0 = .ok (.iload_n 1, 1) := by decide +kernel
theorem dX6_sheet_1 : decode cX6_sheet 1 = .ok (.invokestatic 256, 3) := by decide +kernel
theorem dX6_sheet_4 : decode cX6_sheet 4 = .ok (.ifCond .eq 27, 3) := by decide +kernel
theorem dX6_sheet_7 : decode cX6_sheet 7 = .ok (.iload_n 2, 1) := by decide +kernel
theorem dX6_sheet_8 : decode cX6_sheet 8 = .ok (.i2l, 1) := by decide +kernel
theorem dX6_sheet_9 : decode cX6_sheet 9 = .ok (.ldc2_w 262, 3) := by decide +kernel
theorem dX6_sheet_12 : decode cX6_sheet 12 = .ok (.ldc2_w 156, 3) := by decide +kernel
theorem dX6_sheet_15 : decode cX6_sheet 15 = .ok (.invokestatic 60, 3) := by decide +kernel
theorem dX6_sheet_18 : decode cX6_sheet 18 = .ok (.ifCond .eq 13, 3) := by decide +kernel
theorem dX6_sheet_21 : decode cX6_sheet 21 = .ok (.iload_n 2, 1) := by decide +kernel
theorem dX6_sheet_22 : decode cX6_sheet 22 = .ok (.ifCond .lt 11, 3) := by decide +kernel
theorem dX6_sheet_25 : decode cX6_sheet 25 = .ok (.iload_n 3, 1) := by decide +kernel
theorem dX6_sheet_26 : decode cX6_sheet 26 = .ok (.bipush 40, 2) := by decide +kernel
theorem dX6_sheet_28 : decode cX6_sheet 28 = .ok (.if_icmp .le 5, 3) := by decide +kernel
theorem dX6_sheet_31 : decode cX6_sheet 31 = .ok (.iconst (-1), 1) := by decide +kernel
theorem dX6_sheet_32 : decode cX6_sheet 32 = .ok (.ireturn, 1) := by decide +kernel
theorem dX6_sheet_33 : decode cX6_sheet 33 = .ok (.iload_n 2, 1) := by decide +kernel
theorem dX6_sheet_34 : decode cX6_sheet 34 = .ok (.ifCond .lt 10, 3) := by decide +kernel
theorem dX6_sheet_37 : decode cX6_sheet 37 = .ok (.iload_n 3, 1) := by decide +kernel
theorem dX6_sheet_38 : decode cX6_sheet 38 = .ok (.ifCond .ge 6, 3) := by decide +kernel
theorem dX6_sheet_41 : decode cX6_sheet 41 = .ok (.bipush (-14), 2) := by decide +kernel
theorem dX6_sheet_43 : decode cX6_sheet 43 = .ok (.ireturn, 1) := by decide +kernel
theorem dX6_sheet_44 : decode cX6_sheet 44 = .ok (.aload_n 0, 1) := by decide +kernel
theorem dX6_sheet_45 : decode cX6_sheet 45 = .ok (.getfield 34, 3) := by decide +kernel
theorem dX6_sheet_48 : decode cX6_sheet 48 = .ok (.iload_n 1, 1) := by decide +kernel
theorem dX6_sheet_49 : decode cX6_sheet 49 = .ok (.iload_n 2, 1) := by decide +kernel
theorem dX6_sheet_50 : decode cX6_sheet 50 = .ok (.iastore, 1) := by decide +kernel
theorem dX6_sheet_51 : decode cX6_sheet 51 = .ok (.aload_n 0, 1) := by decide +kernel
theorem dX6_sheet_52 : decode cX6_sheet 52 = .ok (.getfield 37, 3) := by decide +kernel
theorem dX6_sheet_55 : decode cX6_sheet 55 = .ok (.iload_n 1, 1) := by decide +kernel
theorem dX6_sheet_56 : decode cX6_sheet 56 = .ok (.iload_n 2, 1) := by decide +kernel
theorem dX6_sheet_57 : decode cX6_sheet 57 = .ok (.ifCond .ge 7, 3) := by decide +kernel
theorem dX6_sheet_60 : decode cX6_sheet 60 = .ok (.iconst 0, 1) := by decide +kernel
theorem dX6_sheet_61 : decode cX6_sheet 61 = .ok (.goto 4, 3) := by decide +kernel
theorem dX6_sheet_64 : decode cX6_sheet 64 = .ok (.iload_n 3, 1) := by decide +kernel
theorem dX6_sheet_65 : decode cX6_sheet 65 = .ok (.iastore, 1) := by decide +kernel
theorem dX6_sheet_66 : decode cX6_sheet 66 = .ok (.iconst 0, 1) := by decide +kernel
theorem dX6_sheet_67 : decode cX6_sheet 67 = .ok (.istore 4, 2) := by decide +kernel
theorem dX6_sheet_69 : decode cX6_sheet 69 = .ok (.iload 4, 2) := by decide +kernel
theorem dX6_sheet_71 : decode cX6_sheet 71 = .ok (.bipush 40, 2) := by decide +kernel
theorem dX6_sheet_73 : decode cX6_sheet 73 = .ok (.if_icmp .ge 22, 3) := by decide +kernel
theorem dX6_sheet_76 : decode cX6_sheet 76 = .ok (.aload_n 0, 1) := by decide +kernel
theorem dX6_sheet_77 : decode cX6_sheet 77 = .ok (.getfield 40, 3) := by decide +kernel
theorem dX6_sheet_80 : decode cX6_sheet 80 = .ok (.bipush 40, 2) := by decide +kernel
theorem dX6_sheet_82 : decode cX6_sheet 82 = .ok (.iload_n 1, 1) := by decide +kernel
theorem dX6_sheet_83 : decode cX6_sheet 83 = .ok (.imul, 1) := by decide +kernel
theorem dX6_sheet_84 : decode cX6_sheet 84 = .ok (.iload 4, 2) := by decide +kernel
theorem dX6_sheet_86 : decode cX6_sheet 86 = .ok (.iadd, 1) := by decide +kernel
theorem dX6_sheet_87 : decode cX6_sheet 87 = .ok (.iconst 0, 1) := by decide +kernel
theorem dX6_sheet_88 : decode cX6_sheet 88 = .ok (.iastore, 1) := by decide +kernel
theorem dX6_sheet_89 : decode cX6_sheet 89 = .ok (.iinc 4 1, 3) := by decide +kernel
theorem dX6_sheet_92 : decode cX6_sheet 92 = .ok (.goto (-23), 3) := by decide +kernel
theorem dX6_sheet_95 : decode cX6_sheet 95 = .ok (.iconst 1, 1) := by decide +kernel
theorem dX6_sheet_96 : decode cX6_sheet 96 = .ok (.ireturn, 1) := by decide +kernel
set_option maxRecDepth 20000 in
theorem ggX6_put_X6_isSheet : GoodIn wsX6_put wsX6_isSheet := goodIn_r _ [7, 8, 9, 10, 6, 11] (by decide +kernel) (by decide +kernel)
set_option maxRecDepth 20000 in
theorem gX6_put_X6_isSheet : GoodIn wsX6_put (va_wsS RX6 256 yX6_isSheet wsX6_isSheet) := goodIn_app (goodIn_of _ (by decide +kernel)) ggX6_put_X6_isSheet
set_option maxRecDepth 20000 in
theorem ggX6_put_X6_isIn : GoodIn wsX6_put wsX6_isIn := goodIn_r _ [11] (by decide +kernel) (by decide +kernel)
set_option maxRecDepth 20000 in
theorem gX6_put_X6_isIn : GoodIn wsX6_put (va_wsS RX6 60 yX6_isIn wsX6_isIn) := goodIn_app (goodIn_of _ (by decide +kernel)) ggX6_put_X6_isIn
theorem dX6_put_0 : decode cX6_put 0 = .ok (.iload_n 1, 1) := by decide +kernel
theorem dX6_put_1 : decode cX6_put 1 = .ok (.invokestatic 256, 3) := by decide +kernel
theorem dX6_put_4 : decode cX6_put 4 = .ok (.ifCond .ne 5, 3) := by decide +kernel
theorem dX6_put_7 : decode cX6_put 7 = .ok (.iconst (-1), 1) := by decide +kernel
theorem dX6_put_8 : decode cX6_put 8 = .ok (.ireturn, 1) := by decide +kernel
theorem dX6_put_9 : decode cX6_put 9 = .ok (.aload_n 0, 1) := by decide +kernel
theorem dX6_put_10 : decode cX6_put 10 = .ok (.getfield 34, 3) := by decide +kernel
theorem dX6_put_13 : decode cX6_put 13 = .ok (.iload_n 1, 1) := by decide +kernel
theorem dX6_put_14 : decode cX6_put 14 = .ok (.iaload, 1) := by decide +kernel
theorem dX6_put_15 : decode cX6_put 15 = .ok (.ifCond .ge 6, 3) := by decide +kernel
theorem dX6_put_18 : decode cX6_put 18 = .ok (.bipush (-11), 2) := by decide +kernel
theorem dX6_put_20 : decode cX6_put 20 = .ok (.ireturn, 1) := by decide +kernel
theorem dX6_put_21 : decode cX6_put 21 = .ok (.iload_n 2, 1) := by decide +kernel
theorem dX6_put_22 : decode cX6_put 22 = .ok (.i2l, 1) := by decide +kernel
theorem dX6_put_23 : decode cX6_put 23 = .ok (.lconst 0, 1) := by decide +kernel
theorem dX6_put_24 : decode cX6_put 24 = .ok (.aload_n 0, 1) := by decide +kernel
theorem dX6_put_25 : decode cX6_put 25 = .ok (.getfield 37, 3) := by decide +kernel
theorem dX6_put_28 : decode cX6_put 28 = .ok (.iload_n 1, 1) := by decide +kernel
theorem dX6_put_29 : decode cX6_put 29 = .ok (.iaload, 1) := by decide +kernel
theorem dX6_put_30 : decode cX6_put 30 = .ok (.iconst 1, 1) := by decide +kernel
theorem dX6_put_31 : decode cX6_put 31 = .ok (.isub, 1) := by decide +kernel
theorem dX6_put_32 : decode cX6_put 32 = .ok (.i2l, 1) := by decide +kernel
theorem dX6_put_33 : decode cX6_put 33 = .ok (.invokestatic 60, 3) := by decide +kernel
theorem dX6_put_36 : decode cX6_put 36 = .ok (.ifCond .ne 6, 3) := by decide +kernel
theorem dX6_put_39 : decode cX6_put 39 = .ok (.bipush (-12), 2) := by decide +kernel
theorem dX6_put_41 : decode cX6_put 41 = .ok (.ireturn, 1) := by decide +kernel
theorem dX6_put_42 : decode cX6_put 42 = .ok (.aload_n 0, 1) := by decide +kernel
theorem dX6_put_43 : decode cX6_put 43 = .ok (.getfield 40, 3) := by decide +kernel
theorem dX6_put_46 : decode cX6_put 46 = .ok (.bipush 40, 2) := by decide +kernel
theorem dX6_put_48 : decode cX6_put 48 = .ok (.iload_n 1, 1) := by decide +kernel
theorem dX6_put_49 : decode cX6_put 49 = .ok (.imul, 1) := by decide +kernel
theorem dX6_put_50 : decode cX6_put 50 = .ok (.iload_n 2, 1) := by decide +kernel
theorem dX6_put_51 : decode cX6_put 51 = .ok (.iadd, 1) := by decide +kernel
theorem dX6_put_52 : decode cX6_put 52 = .ok (.aload_n 0, 1) := by decide +kernel
theorem dX6_put_53 : decode cX6_put 53 = .ok (.getfield 34, 3) := by decide +kernel
theorem dX6_put_56 : decode cX6_put 56 = .ok (.iload_n 1, 1) := by decide +kernel
theorem dX6_put_57 : decode cX6_put 57 = .ok (.iaload, 1) := by decide +kernel
theorem dX6_put_58 : decode cX6_put 58 = .ok (.ifCond .ne 8, 3) := by decide +kernel
theorem dX6_put_61 : decode cX6_put 61 = .ok (.iload_n 3, 1) := by decide +kernel
theorem dX6_put_62 : decode cX6_put 62 = .ok (.i2b, 1) := by decide +kernel
theorem dX6_put_63 : decode cX6_put 63 = .ok (.goto 19, 3) := by decide +kernel
theorem dX6_put_66 : decode cX6_put 66 = .ok (.aload_n 0, 1) := by decide +kernel
theorem dX6_put_67 : decode cX6_put 67 = .ok (.getfield 34, 3) := by decide +kernel
theorem dX6_put_70 : decode cX6_put 70 = .ok (.iload_n 1, 1) := by decide +kernel
theorem dX6_put_71 : decode cX6_put 71 = .ok (.iaload, 1) := by decide +kernel
theorem dX6_put_72 : decode cX6_put 72 = .ok (.iconst 1, 1) := by decide +kernel
theorem dX6_put_73 : decode cX6_put 73 = .ok (.if_icmp .ne 8, 3) := by decide +kernel
theorem dX6_put_76 : decode cX6_put 76 = .ok (.iload_n 3, 1) := by decide +kernel
theorem dX6_put_77 : decode cX6_put 77 = .ok (.i2s, 1) := by decide +kernel
theorem dX6_put_78 : decode cX6_put 78 = .ok (.goto 4, 3) := by decide +kernel
theorem dX6_put_81 : decode cX6_put 81 = .ok (.iload_n 3, 1) := by decide +kernel
theorem dX6_put_82 : decode cX6_put 82 = .ok (.iastore, 1) := by decide +kernel
theorem dX6_put_83 : decode cX6_put 83 = .ok (.iconst 1, 1) := by decide +kernel
theorem dX6_put_84 : decode cX6_put 84 = .ok (.ireturn, 1) := by decide +kernel
theorem dX6_lacks_0 : decode cX6_lacks 0 = .ok (.aload_n 0, 1) := by decide +kernel
theorem dX6_lacks_1 : decode cX6_lacks 1 = .ok (.getfield 34, 3) := by decide +kernel
theorem dX6_lacks_4 : decode cX6_lacks 4 = .ok (.iload_n 1, 1) := by decide +kernel
theorem dX6_lacks_5 : decode cX6_lacks 5 = .ok (.iaload, 1) := by decide +kernel
theorem dX6_lacks_6 : decode cX6_lacks 6 = .ok (.ifCond .ge 8, 3) := by decide +kernel
theorem dX6_lacks_9 : decode cX6_lacks 9 = .ok (.bipush (-11), 2) := by decide +kernel
theorem dX6_lacks_11 : decode cX6_lacks 11 = .ok (.goto 19, 3) := by decide +kernel
theorem dX6_lacks_14 : decode cX6_lacks 14 = .ok (.aload_n 0, 1) := by decide +kernel
theorem dX6_lacks_15 : decode cX6_lacks 15 = .ok (.getfield 34, 3) := by decide +kernel
theorem dX6_lacks_18 : decode cX6_lacks 18 = .ok (.iload_n 1, 1) := by decide +kernel
theorem dX6_lacks_19 : decode cX6_lacks 19 = .ok (.iaload, 1) := by decide +kernel
theorem dX6_lacks_20 : decode cX6_lacks 20 = .ok (.iload_n 2, 1) := by decide +kernel
theorem dX6_lacks_21 : decode cX6_lacks 21 = .ok (.if_icmp .eq 8, 3) := by decide +kernel
theorem dX6_lacks_24 : decode cX6_lacks 24 = .ok (.bipush (-13), 2) := by decide +kernel
theorem dX6_lacks_26 : decode cX6_lacks 26 = .ok (.goto 4, 3) := by decide +kernel
theorem dX6_lacks_29 : decode cX6_lacks 29 = .ok (.iconst 0, 1) := by decide +kernel
theorem dX6_lacks_30 : decode cX6_lacks 30 = .ok (.ireturn, 1) := by decide +kernel
set_option maxRecDepth 20000 in
theorem ggX6_item_X6_isSheet : GoodIn wsX6_item wsX6_isSheet := goodIn_r _ [7, 1, 8, 9, 6, 10] (by decide +kernel) (by decide +kernel)
set_option maxRecDepth 20000 in
theorem gX6_item_X6_isSheet : GoodIn wsX6_item (va_wsS RX6 256 yX6_isSheet wsX6_isSheet) := goodIn_app (goodIn_of _ (by decide +kernel)) ggX6_item_X6_isSheet
set_option maxRecDepth 20000 in
theorem ggX6_item_X6_isIn : GoodIn wsX6_item wsX6_isIn := goodIn_r _ [10] (by decide +kernel) (by decide +kernel)
set_option maxRecDepth 20000 in
theorem gX6_item_X6_isIn : GoodIn wsX6_item (va_wsS RX6 60 yX6_isIn wsX6_isIn) := goodIn_app (goodIn_of _ (by decide +kernel)) ggX6_item_X6_isIn
set_option maxRecDepth 20000 in
theorem ggX6_item_X6_lacks : GoodIn wsX6_item wsX6_lacks := goodIn_r _ [14, 15, 16, 17, 18, 19, 20, 21, 22, 23, 24, 25, 26, 27, 28, 29, 30, 31, 32, 33, 34, 35, 36, 37, 38, 39, 40, 41, 42, 43] (by decide +kernel) (by decide +kernel)
set_option maxRecDepth 20000 in
theorem gX6_item_X6_lacks : GoodIn wsX6_item (wsV RX6 281 RX6 yX6_lacks wsX6_lacks) := goodIn_app (goodIn_of _ (by decide +kernel)) ggX6_item_X6_lacks
theorem dX6_item_0 : decode cX6_item 0 = .ok (.iload_n 1, 1) := by decide +kernel
theorem dX6_item_1 : decode cX6_item 1 = .ok (.invokestatic 256, 3) := by decide +kernel
theorem dX6_item_4 : decode cX6_item 4 = .ok (.ifCond .eq 15, 3) := by decide +kernel
theorem dX6_item_7 : decode cX6_item 7 = .ok (.iload_n 2, 1) := by decide +kernel
theorem dX6_item_8 : decode cX6_item 8 = .ok (.i2l, 1) := by decide +kernel
theorem dX6_item_9 : decode cX6_item 9 = .ok (.lconst 0, 1) := by decide +kernel
theorem dX6_item_10 : decode cX6_item 10 = .ok (.ldc2_w 156, 3) := by decide +kernel
theorem dX6_item_13 : decode cX6_item 13 = .ok (.invokestatic 60, 3) := by decide +kernel
theorem dX6_item_16 : decode cX6_item 16 = .ok (.ifCond .ne 5, 3) := by decide +kernel
theorem dX6_item_19 : decode cX6_item 19 = .ok (.iconst (-1), 1) := by decide +kernel
theorem dX6_item_20 : decode cX6_item 20 = .ok (.ireturn, 1) := by decide +kernel
theorem dX6_item_21 : decode cX6_item 21 = .ok (.aload_n 0, 1) := by decide +kernel
theorem dX6_item_22 : decode cX6_item 22 = .ok (.iload_n 1, 1) := by decide +kernel
theorem dX6_item_23 : decode cX6_item 23 = .ok (.iload_n 2, 1) := by decide +kernel
theorem dX6_item_24 : decode cX6_item 24 = .ok (.invokevirtual 281, 3) := by decide +kernel
theorem dX6_item_27 : decode cX6_item 27 = .ok (.ifCond .eq 10, 3) := by decide +kernel
theorem dX6_item_30 : decode cX6_item 30 = .ok (.aload_n 0, 1) := by decide +kernel
theorem dX6_item_31 : decode cX6_item 31 = .ok (.iload_n 1, 1) := by decide +kernel
theorem dX6_item_32 : decode cX6_item 32 = .ok (.iload_n 2, 1) := by decide +kernel
theorem dX6_item_33 : decode cX6_item 33 = .ok (.invokevirtual 281, 3) := by decide +kernel
theorem dX6_item_36 : decode cX6_item 36 = .ok (.ireturn, 1) := by decide +kernel
theorem dX6_item_37 : decode cX6_item 37 = .ok (.iload_n 3, 1) := by decide +kernel
theorem dX6_item_38 : decode cX6_item 38 = .ok (.i2l, 1) := by decide +kernel
theorem dX6_item_39 : decode cX6_item 39 = .ok (.lconst 0, 1) := by decide +kernel
theorem dX6_item_40 : decode cX6_item 40 = .ok (.aload_n 0, 1) := by decide +kernel
theorem dX6_item_41 : decode cX6_item 41 = .ok (.getfield 37, 3) := by decide +kernel
theorem dX6_item_44 : decode cX6_item 44 = .ok (.iload_n 1, 1) := by decide +kernel
theorem dX6_item_45 : decode cX6_item 45 = .ok (.iaload, 1) := by decide +kernel
theorem dX6_item_46 : decode cX6_item 46 = .ok (.iconst 1, 1) := by decide +kernel
theorem dX6_item_47 : decode cX6_item 47 = .ok (.isub, 1) := by decide +kernel
theorem dX6_item_48 : decode cX6_item 48 = .ok (.i2l, 1) := by decide +kernel
theorem dX6_item_49 : decode cX6_item 49 = .ok (.invokestatic 60, 3) := by decide +kernel
theorem dX6_item_52 : decode cX6_item 52 = .ok (.ifCond .eq 17, 3) := by decide +kernel
theorem dX6_item_55 : decode cX6_item 55 = .ok (.aload_n 0, 1) := by decide +kernel
theorem dX6_item_56 : decode cX6_item 56 = .ok (.getfield 40, 3) := by decide +kernel
theorem dX6_item_59 : decode cX6_item 59 = .ok (.bipush 40, 2) := by decide +kernel
theorem dX6_item_61 : decode cX6_item 61 = .ok (.iload_n 1, 1) := by decide +kernel
theorem dX6_item_62 : decode cX6_item 62 = .ok (.imul, 1) := by decide +kernel
theorem dX6_item_63 : decode cX6_item 63 = .ok (.iload_n 3, 1) := by decide +kernel
theorem dX6_item_64 : decode cX6_item 64 = .ok (.iadd, 1) := by decide +kernel
theorem dX6_item_65 : decode cX6_item 65 = .ok (.iaload, 1) := by decide +kernel
theorem dX6_item_66 : decode cX6_item 66 = .ok (.goto 5, 3) := by decide +kernel
theorem dX6_item_69 : decode cX6_item 69 = .ok (.bipush (-12), 2) := by decide +kernel
theorem dX6_item_71 : decode cX6_item 71 = .ok (.ireturn, 1) := by decide +kernel
set_option maxRecDepth 20000 in
theorem ggX6_minds_X6_isSheet : GoodIn wsX6_minds wsX6_isSheet := goodIn_r _ [8, 9, 10, 11, 7, 12] (by decide +kernel) (by decide +kernel)
set_option maxRecDepth 20000 in
theorem gX6_minds_X6_isSheet : GoodIn wsX6_minds (va_wsS RX6 256 yX6_isSheet wsX6_isSheet) := goodIn_app (goodIn_of _ (by decide +kernel)) ggX6_minds_X6_isSheet
set_option maxRecDepth 20000 in
theorem ggX6_minds_X6_isOne : GoodIn wsX6_minds wsX6_isOne := goodIn_r _ [16, 2, 25, 26, 27, 28, 29, 30, 31, 32, 33, 34, 35, 36, 37, 38, 39, 40, 41, 42, 43, 44, 45, 46, 47, 48, 49, 50, 51, 52] (by decide +kernel) (by decide +kernel)
set_option maxRecDepth 20000 in
theorem gX6_minds_X6_isOne : GoodIn wsX6_minds (wsV RX6 187 RX6 yX6_isOne wsX6_isOne) := goodIn_app (goodIn_of _ (by decide +kernel)) ggX6_minds_X6_isOne
set_option maxRecDepth 20000 in
theorem ggX6_minds_X6_isIn : GoodIn wsX6_minds wsX6_isIn := goodIn_r _ [12] (by decide +kernel) (by decide +kernel)
set_option maxRecDepth 20000 in
theorem gX6_minds_X6_isIn : GoodIn wsX6_minds (va_wsS RX6 60 yX6_isIn wsX6_isIn) := goodIn_app (goodIn_of _ (by decide +kernel)) ggX6_minds_X6_isIn
set_option maxRecDepth 20000 in
theorem ggX6_minds_X6_lacks : GoodIn wsX6_minds wsX6_lacks := goodIn_r _ [20, 21, 25, 26, 27, 28, 29, 30, 31, 32, 33, 34, 35, 36, 37, 38, 39, 40, 41, 42, 43, 44, 45, 46, 47, 48, 49, 50, 51, 52] (by decide +kernel) (by decide +kernel)
set_option maxRecDepth 20000 in
theorem gX6_minds_X6_lacks : GoodIn wsX6_minds (wsV RX6 281 RX6 yX6_lacks wsX6_lacks) := goodIn_app (goodIn_of _ (by decide +kernel)) ggX6_minds_X6_lacks
set_option maxRecDepth 20000 in
theorem ggX6_minds_X6_within : GoodIn wsX6_minds wsX6_within := goodIn_r _ [24] (by decide +kernel) (by decide +kernel)
set_option maxRecDepth 20000 in
theorem gX6_minds_X6_within : GoodIn wsX6_minds (va_wsS RX6 204 yX6_within wsX6_within) := goodIn_app (goodIn_of _ (by decide +kernel)) ggX6_minds_X6_within
theorem dX6_minds_0 : decode cX6_minds 0 = .ok (.iload_n 1, 1) := by decide +kernel
theorem dX6_minds_1 : decode cX6_minds 1 = .ok (.invokestatic 256, 3) := by decide +kernel
theorem dX6_minds_4 : decode cX6_minds 4 = .ok (.ifCond .eq 37, 3) := by decide +kernel
theorem dX6_minds_7 : decode cX6_minds 7 = .ok (.aload_n 0, 1) := by decide +kernel
theorem dX6_minds_8 : decode cX6_minds 8 = .ok (.iload_n 3, 1) := by decide +kernel
theorem dX6_minds_9 : decode cX6_minds 9 = .ok (.invokevirtual 187, 3) := by decide +kernel
theorem dX6_minds_12 : decode cX6_minds 12 = .ok (.ifCond .eq 29, 3) := by decide +kernel
theorem dX6_minds_15 : decode cX6_minds 15 = .ok (.iload 4, 2) := by decide +kernel
theorem dX6_minds_17 : decode cX6_minds 17 = .ok (.i2l, 1) := by decide +kernel
theorem dX6_minds_18 : decode cX6_minds 18 = .ok (.lconst 0, 1) := by decide +kernel
theorem dX6_minds_19 : decode cX6_minds 19 = .ok (.ldc2_w 58, 3) := by decide +kernel
theorem dX6_minds_22 : decode cX6_minds 22 = .ok (.invokestatic 60, 3) := by decide +kernel
theorem dX6_minds_25 : decode cX6_minds 25 = .ok (.ifCond .eq 16, 3) := by decide +kernel
theorem dX6_minds_28 : decode cX6_minds 28 = .ok (.iload_n 3, 1) := by decide +kernel
theorem dX6_minds_29 : decode cX6_minds 29 = .ok (.iload 4, 2) := by decide +kernel
theorem dX6_minds_31 : decode cX6_minds 31 = .ok (.iadd, 1) := by decide +kernel
theorem dX6_minds_32 : decode cX6_minds 32 = .ok (.aload_n 0, 1) := by decide +kernel
theorem dX6_minds_33 : decode cX6_minds 33 = .ok (.getfield 7, 3) := by decide +kernel
theorem dX6_minds_36 : decode cX6_minds 36 = .ok (.iconst 0, 1) := by decide +kernel
theorem dX6_minds_37 : decode cX6_minds 37 = .ok (.iaload, 1) := by decide +kernel
theorem dX6_minds_38 : decode cX6_minds 38 = .ok (.if_icmp .le 5, 3) := by decide +kernel
theorem dX6_minds_41 : decode cX6_minds 41 = .ok (.iconst (-1), 1) := by decide +kernel
theorem dX6_minds_42 : decode cX6_minds 42 = .ok (.ireturn, 1) := by decide +kernel
theorem dX6_minds_43 : decode cX6_minds 43 = .ok (.aload_n 0, 1) := by decide +kernel
theorem dX6_minds_44 : decode cX6_minds 44 = .ok (.iload_n 1, 1) := by decide +kernel
theorem dX6_minds_45 : decode cX6_minds 45 = .ok (.iconst 0, 1) := by decide +kernel
theorem dX6_minds_46 : decode cX6_minds 46 = .ok (.invokevirtual 281, 3) := by decide +kernel
theorem dX6_minds_49 : decode cX6_minds 49 = .ok (.ifCond .eq 10, 3) := by decide +kernel
theorem dX6_minds_52 : decode cX6_minds 52 = .ok (.aload_n 0, 1) := by decide +kernel
theorem dX6_minds_53 : decode cX6_minds 53 = .ok (.iload_n 1, 1) := by decide +kernel
theorem dX6_minds_54 : decode cX6_minds 54 = .ok (.iconst 0, 1) := by decide +kernel
theorem dX6_minds_55 : decode cX6_minds 55 = .ok (.invokevirtual 281, 3) := by decide +kernel
theorem dX6_minds_58 : decode cX6_minds 58 = .ok (.ireturn, 1) := by decide +kernel
theorem dX6_minds_59 : decode cX6_minds 59 = .ok (.iload_n 2, 1) := by decide +kernel
theorem dX6_minds_60 : decode cX6_minds 60 = .ok (.i2l, 1) := by decide +kernel
theorem dX6_minds_61 : decode cX6_minds 61 = .ok (.lconst 0, 1) := by decide +kernel
theorem dX6_minds_62 : decode cX6_minds 62 = .ok (.aload_n 0, 1) := by decide +kernel
theorem dX6_minds_63 : decode cX6_minds 63 = .ok (.getfield 37, 3) := by decide +kernel
theorem dX6_minds_66 : decode cX6_minds 66 = .ok (.iload_n 1, 1) := by decide +kernel
theorem dX6_minds_67 : decode cX6_minds 67 = .ok (.iaload, 1) := by decide +kernel
theorem dX6_minds_68 : decode cX6_minds 68 = .ok (.i2l, 1) := by decide +kernel
theorem dX6_minds_69 : decode cX6_minds 69 = .ok (.invokestatic 60, 3) := by decide +kernel
theorem dX6_minds_72 : decode cX6_minds 72 = .ok (.ifCond .eq 20, 3) := by decide +kernel
theorem dX6_minds_75 : decode cX6_minds 75 = .ok (.iload_n 2, 1) := by decide +kernel
theorem dX6_minds_76 : decode cX6_minds 76 = .ok (.i2l, 1) := by decide +kernel
theorem dX6_minds_77 : decode cX6_minds 77 = .ok (.iload 4, 2) := by decide +kernel
theorem dX6_minds_79 : decode cX6_minds 79 = .ok (.i2l, 1) := by decide +kernel
theorem dX6_minds_80 : decode cX6_minds 80 = .ok (.ladd, 1) := by decide +kernel
theorem dX6_minds_81 : decode cX6_minds 81 = .ok (.aload_n 0, 1) := by decide +kernel
theorem dX6_minds_82 : decode cX6_minds 82 = .ok (.getfield 37, 3) := by decide +kernel
theorem dX6_minds_85 : decode cX6_minds 85 = .ok (.iload_n 1, 1) := by decide +kernel
theorem dX6_minds_86 : decode cX6_minds 86 = .ok (.iaload, 1) := by decide +kernel
theorem dX6_minds_87 : decode cX6_minds 87 = .ok (.i2l, 1) := by decide +kernel
theorem dX6_minds_88 : decode cX6_minds 88 = .ok (.lcmp, 1) := by decide +kernel
theorem dX6_minds_89 : decode cX6_minds 89 = .ok (.ifCond .le 6, 3) := by decide +kernel
theorem dX6_minds_92 : decode cX6_minds 92 = .ok (.bipush (-12), 2) := by decide +kernel
theorem dX6_minds_94 : decode cX6_minds 94 = .ok (.ireturn, 1) := by decide +kernel
theorem dX6_minds_95 : decode cX6_minds 95 = .ok (.iconst 0, 1) := by decide +kernel
theorem dX6_minds_96 : decode cX6_minds 96 = .ok (.istore 5, 2) := by decide +kernel
theorem dX6_minds_98 : decode cX6_minds 98 = .ok (.iload 5, 2) := by decide +kernel
theorem dX6_minds_100 : decode cX6_minds 100 = .ok (.iload 4, 2) := by decide +kernel
theorem dX6_minds_102 : decode cX6_minds 102 = .ok (.if_icmp .ge 42, 3) := by decide +kernel
theorem dX6_minds_105 : decode cX6_minds 105 = .ok (.aload_n 0, 1) := by decide +kernel
theorem dX6_minds_106 : decode cX6_minds 106 = .ok (.getfield 7, 3) := by decide +kernel
theorem dX6_minds_109 : decode cX6_minds 109 = .ok (.bipush 19, 2) := by decide +kernel
theorem dX6_minds_111 : decode cX6_minds 111 = .ok (.iconst 3, 1) := by decide +kernel
theorem dX6_minds_112 : decode cX6_minds 112 = .ok (.iload_n 3, 1) := by decide +kernel
theorem dX6_minds_113 : decode cX6_minds 113 = .ok (.iload 5, 2) := by decide +kernel
theorem dX6_minds_115 : decode cX6_minds 115 = .ok (.iadd, 1) := by decide +kernel
theorem dX6_minds_116 : decode cX6_minds 116 = .ok (.imul, 1) := by decide +kernel
theorem dX6_minds_117 : decode cX6_minds 117 = .ok (.iadd, 1) := by decide +kernel
theorem dX6_minds_118 : decode cX6_minds 118 = .ok (.iconst 1, 1) := by decide +kernel
theorem dX6_minds_119 : decode cX6_minds 119 = .ok (.iadd, 1) := by decide +kernel
theorem dX6_minds_120 : decode cX6_minds 120 = .ok (.aload_n 0, 1) := by decide +kernel
theorem dX6_minds_121 : decode cX6_minds 121 = .ok (.getfield 40, 3) := by decide +kernel
theorem dX6_minds_124 : decode cX6_minds 124 = .ok (.bipush 40, 2) := by decide +kernel
theorem dX6_minds_126 : decode cX6_minds 126 = .ok (.iload_n 1, 1) := by decide +kernel
theorem dX6_minds_127 : decode cX6_minds 127 = .ok (.imul, 1) := by decide +kernel
theorem dX6_minds_128 : decode cX6_minds 128 = .ok (.iload_n 2, 1) := by decide +kernel
theorem dX6_minds_129 : decode cX6_minds 129 = .ok (.iadd, 1) := by decide +kernel
theorem dX6_minds_130 : decode cX6_minds 130 = .ok (.iload 5, 2) := by decide +kernel
theorem dX6_minds_132 : decode cX6_minds 132 = .ok (.iadd, 1) := by decide +kernel
theorem dX6_minds_133 : decode cX6_minds 133 = .ok (.iaload, 1) := by decide +kernel
theorem dX6_minds_134 : decode cX6_minds 134 = .ok (.invokestatic 204, 3) := by decide +kernel
theorem dX6_minds_137 : decode cX6_minds 137 = .ok (.iastore, 1) := by decide +kernel
theorem dX6_minds_138 : decode cX6_minds 138 = .ok (.iinc 5 1, 3) := by decide +kernel
theorem dX6_minds_141 : decode cX6_minds 141 = .ok (.goto (-43), 3) := by decide +kernel
theorem dX6_minds_144 : decode cX6_minds 144 = .ok (.iload 4, 2) := by decide +kernel
theorem dX6_minds_146 : decode cX6_minds 146 = .ok (.ireturn, 1) := by decide +kernel
set_option maxRecDepth 20000 in
theorem ggX6_shelf_X6_isShelf : GoodIn wsX6_shelf wsX6_isShelf := goodIn_r _ [10, 11, 12, 13, 9, 14] (by decide +kernel) (by decide +kernel)
set_option maxRecDepth 20000 in
theorem gX6_shelf_X6_isShelf : GoodIn wsX6_shelf (va_wsS RX6 284 yX6_isShelf wsX6_isShelf) := goodIn_app (goodIn_of _ (by decide +kernel)) ggX6_shelf_X6_isShelf
set_option maxRecDepth 20000 in
theorem ggX6_shelf_X6_isIn : GoodIn wsX6_shelf wsX6_isIn := goodIn_r _ [14] (by decide +kernel) (by decide +kernel)
set_option maxRecDepth 20000 in
theorem gX6_shelf_X6_isIn : GoodIn wsX6_shelf (va_wsS RX6 60 yX6_isIn wsX6_isIn) := goodIn_app (goodIn_of _ (by decide +kernel)) ggX6_shelf_X6_isIn
set_option maxRecDepth 20000 in
theorem ggX6_shelf_X6_isOne : GoodIn wsX6_shelf wsX6_isOne := goodIn_r _ [18, 19, 23, 24, 25, 26, 27, 28, 29, 30, 31, 32, 33, 34, 35, 36, 37, 38, 39, 40, 41, 42, 43, 44, 45, 46, 47, 48, 49, 50] (by decide +kernel) (by decide +kernel)
set_option maxRecDepth 20000 in
theorem gX6_shelf_X6_isOne : GoodIn wsX6_shelf (wsV RX6 187 RX6 yX6_isOne wsX6_isOne) := goodIn_app (goodIn_of _ (by decide +kernel)) ggX6_shelf_X6_isOne
set_option maxRecDepth 20000 in
theorem ggX6_shelf_X6_isSheet : GoodIn wsX6_shelf wsX6_isSheet := goodIn_r _ [22, 11, 12, 13, 9, 14] (by decide +kernel) (by decide +kernel)
set_option maxRecDepth 20000 in
theorem gX6_shelf_X6_isSheet : GoodIn wsX6_shelf (va_wsS RX6 256 yX6_isSheet wsX6_isSheet) := goodIn_app (goodIn_of _ (by decide +kernel)) ggX6_shelf_X6_isSheet
theorem dX6_shelf_0 : decode cX6_shelf 0 = .ok (.iload_n 1, 1) := by decide +kernel
theorem dX6_shelf_1 : decode cX6_shelf 1 = .ok (.invokestatic 284, 3) := by decide +kernel
theorem dX6_shelf_4 : decode cX6_shelf 4 = .ok (.ifCond .eq 39, 3) := by decide +kernel
theorem dX6_shelf_7 : decode cX6_shelf 7 = .ok (.iload_n 2, 1) := by decide +kernel
theorem dX6_shelf_8 : decode cX6_shelf 8 = .ok (.i2l, 1) := by decide +kernel
theorem dX6_shelf_9 : decode cX6_shelf 9 = .ok (.lconst 0, 1) := by decide +kernel
theorem dX6_shelf_10 : decode cX6_shelf 10 = .ok (.ldc2_w 276, 3) := by decide +kernel
theorem dX6_shelf_13 : decode cX6_shelf 13 = .ok (.invokestatic 60, 3) := by decide +kernel
theorem dX6_shelf_16 : decode cX6_shelf 16 = .ok (.ifCond .eq 27, 3) := by decide +kernel
theorem dX6_shelf_19 : decode cX6_shelf 19 = .ok (.iload_n 2, 1) := by decide +kernel
theorem dX6_shelf_20 : decode cX6_shelf 20 = .ok (.ifCond .ne 11, 3) := by decide +kernel
theorem dX6_shelf_23 : decode cX6_shelf 23 = .ok (.aload_n 0, 1) := by decide +kernel
theorem dX6_shelf_24 : decode cX6_shelf 24 = .ok (.iload_n 3, 1) := by decide +kernel
theorem dX6_shelf_25 : decode cX6_shelf 25 = .ok (.invokevirtual 187, 3) := by decide +kernel
theorem dX6_shelf_28 : decode cX6_shelf 28 = .ok (.ifCond .eq 15, 3) := by decide +kernel
theorem dX6_shelf_31 : decode cX6_shelf 31 = .ok (.iload_n 2, 1) := by decide +kernel
theorem dX6_shelf_32 : decode cX6_shelf 32 = .ok (.iconst 1, 1) := by decide +kernel
theorem dX6_shelf_33 : decode cX6_shelf 33 = .ok (.if_icmp .ne 12, 3) := by decide +kernel
theorem dX6_shelf_36 : decode cX6_shelf 36 = .ok (.iload_n 3, 1) := by decide +kernel
theorem dX6_shelf_37 : decode cX6_shelf 37 = .ok (.invokestatic 256, 3) := by decide +kernel
theorem dX6_shelf_40 : decode cX6_shelf 40 = .ok (.ifCond .ne 5, 3) := by decide +kernel
theorem dX6_shelf_43 : decode cX6_shelf 43 = .ok (.iconst (-1), 1) := by decide +kernel
theorem dX6_shelf_44 : decode cX6_shelf 44 = .ok (.ireturn, 1) := by decide +kernel
theorem dX6_shelf_45 : decode cX6_shelf 45 = .ok (.iload_n 2, 1) := by decide +kernel
theorem dX6_shelf_46 : decode cX6_shelf 46 = .ok (.iconst 1, 1) := by decide +kernel
theorem dX6_shelf_47 : decode cX6_shelf 47 = .ok (.if_icmp .ne 16, 3) := by decide +kernel
theorem dX6_shelf_50 : decode cX6_shelf 50 = .ok (.aload_n 0, 1) := by decide +kernel
theorem dX6_shelf_51 : decode cX6_shelf 51 = .ok (.getfield 34, 3) := by decide +kernel
theorem dX6_shelf_54 : decode cX6_shelf 54 = .ok (.iload_n 3, 1) := by decide +kernel
theorem dX6_shelf_55 : decode cX6_shelf 55 = .ok (.iaload, 1) := by decide +kernel
theorem dX6_shelf_56 : decode cX6_shelf 56 = .ok (.ifCond .lt 7, 3) := by decide +kernel
theorem dX6_shelf_59 : decode cX6_shelf 59 = .ok (.iconst 1, 1) := by decide +kernel
theorem dX6_shelf_60 : decode cX6_shelf 60 = .ok (.goto 4, 3) := by decide +kernel
theorem dX6_shelf_63 : decode cX6_shelf 63 = .ok (.iconst 0, 1) := by decide +kernel
theorem dX6_shelf_64 : decode cX6_shelf 64 = .ok (.istore 4, 2) := by decide +kernel
theorem dX6_shelf_66 : decode cX6_shelf 66 = .ok (.aload_n 0, 1) := by decide +kernel
theorem dX6_shelf_67 : decode cX6_shelf 67 = .ok (.getfield 43, 3) := by decide +kernel
theorem dX6_shelf_70 : decode cX6_shelf 70 = .ok (.iload_n 1, 1) := by decide +kernel
theorem dX6_shelf_71 : decode cX6_shelf 71 = .ok (.iload_n 2, 1) := by decide +kernel
theorem dX6_shelf_72 : decode cX6_shelf 72 = .ok (.ifCond .ne 7, 3) := by decide +kernel
theorem dX6_shelf_75 : decode cX6_shelf 75 = .ok (.iconst 1, 1) := by decide +kernel
theorem dX6_shelf_76 : decode cX6_shelf 76 = .ok (.goto 13, 3) := by decide +kernel
theorem dX6_shelf_79 : decode cX6_shelf 79 = .ok (.iload 4, 2) := by decide +kernel
theorem dX6_shelf_81 : decode cX6_shelf 81 = .ok (.ifCond .eq 7, 3) := by decide +kernel
theorem dX6_shelf_84 : decode cX6_shelf 84 = .ok (.iconst 2, 1) := by decide +kernel
theorem dX6_shelf_85 : decode cX6_shelf 85 = .ok (.goto 4, 3) := by decide +kernel
theorem dX6_shelf_88 : decode cX6_shelf 88 = .ok (.iconst 0, 1) := by decide +kernel
theorem dX6_shelf_89 : decode cX6_shelf 89 = .ok (.iastore, 1) := by decide +kernel
theorem dX6_shelf_90 : decode cX6_shelf 90 = .ok (.aload_n 0, 1) := by decide +kernel
theorem dX6_shelf_91 : decode cX6_shelf 91 = .ok (.getfield 46, 3) := by decide +kernel
theorem dX6_shelf_94 : decode cX6_shelf 94 = .ok (.iload_n 1, 1) := by decide +kernel
theorem dX6_shelf_95 : decode cX6_shelf 95 = .ok (.iload_n 2, 1) := by decide +kernel
theorem dX6_shelf_96 : decode cX6_shelf 96 = .ok (.ifCond .ne 7, 3) := by decide +kernel
theorem dX6_shelf_99 : decode cX6_shelf 99 = .ok (.iload_n 3, 1) := by decide +kernel
theorem dX6_shelf_100 : decode cX6_shelf 100 = .ok (.goto 18, 3) := by decide +kernel
theorem dX6_shelf_103 : decode cX6_shelf 103 = .ok (.iload 4, 2) := by decide +kernel
theorem dX6_shelf_105 : decode cX6_shelf 105 = .ok (.ifCond .eq 12, 3) := by decide +kernel
theorem dX6_shelf_108 : decode cX6_shelf 108 = .ok (.aload_n 0, 1) := by decide +kernel
theorem dX6_shelf_109 : decode cX6_shelf 109 = .ok (.getfield 34, 3) := by decide +kernel
theorem dX6_shelf_112 : decode cX6_shelf 112 = .ok (.iload_n 3, 1) := by decide +kernel
theorem dX6_shelf_113 : decode cX6_shelf 113 = .ok (.iaload, 1) := by decide +kernel
theorem dX6_shelf_114 : decode cX6_shelf 114 = .ok (.goto 4, 3) := by decide +kernel
theorem dX6_shelf_117 : decode cX6_shelf 117 = .ok (.iconst 0, 1) := by decide +kernel
theorem dX6_shelf_118 : decode cX6_shelf 118 = .ok (.iastore, 1) := by decide +kernel
theorem dX6_shelf_119 : decode cX6_shelf 119 = .ok (.aload_n 0, 1) := by decide +kernel
theorem dX6_shelf_120 : decode cX6_shelf 120 = .ok (.getfield 49, 3) := by decide +kernel
theorem dX6_shelf_123 : decode cX6_shelf 123 = .ok (.iload_n 1, 1) := by decide +kernel
theorem dX6_shelf_124 : decode cX6_shelf 124 = .ok (.iload 4, 2) := by decide +kernel
theorem dX6_shelf_126 : decode cX6_shelf 126 = .ok (.ifCond .eq 12, 3) := by decide +kernel
theorem dX6_shelf_129 : decode cX6_shelf 129 = .ok (.aload_n 0, 1) := by decide +kernel
theorem dX6_shelf_130 : decode cX6_shelf 130 = .ok (.getfield 37, 3) := by decide +kernel
theorem dX6_shelf_133 : decode cX6_shelf 133 = .ok (.iload_n 3, 1) := by decide +kernel
theorem dX6_shelf_134 : decode cX6_shelf 134 = .ok (.iaload, 1) := by decide +kernel
theorem dX6_shelf_135 : decode cX6_shelf 135 = .ok (.goto 4, 3) := by decide +kernel
theorem dX6_shelf_138 : decode cX6_shelf 138 = .ok (.iconst 0, 1) := by decide +kernel
theorem dX6_shelf_139 : decode cX6_shelf 139 = .ok (.iastore, 1) := by decide +kernel
theorem dX6_shelf_140 : decode cX6_shelf 140 = .ok (.iconst 1, 1) := by decide +kernel
theorem dX6_shelf_141 : decode cX6_shelf 141 = .ok (.ireturn, 1) := by decide +kernel
set_option maxRecDepth 20000 in
theorem ggX6_heldOn_X6_isOne : GoodIn wsX6_heldOn wsX6_isOne := goodIn_r _ [7, 8, 9, 10, 11, 12, 13, 14, 15, 16, 17, 18, 19, 20, 21, 22, 23, 24, 25, 26, 27, 28, 29, 30, 31, 32, 33, 34, 35, 36] (by decide +kernel) (by decide +kernel)
set_option maxRecDepth 20000 in
theorem gX6_heldOn_X6_isOne : GoodIn wsX6_heldOn (wsV RX6 187 RX6 yX6_isOne wsX6_isOne) := goodIn_app (goodIn_of _ (by decide +kernel)) ggX6_heldOn_X6_isOne
theorem dX6_heldOn_0 : decode cX6_heldOn 0 = .ok (.aload_n 0, 1) := by decide +kernel
theorem dX6_heldOn_1 : decode cX6_heldOn 1 = .ok (.getfield 43, 3) := by decide +kernel
theorem dX6_heldOn_4 : decode cX6_heldOn 4 = .ok (.iload_n 1, 1) := by decide +kernel
theorem dX6_heldOn_5 : decode cX6_heldOn 5 = .ok (.iaload, 1) := by decide +kernel
theorem dX6_heldOn_6 : decode cX6_heldOn 6 = .ok (.iconst 1, 1) := by decide +kernel
theorem dX6_heldOn_7 : decode cX6_heldOn 7 = .ok (.if_icmp .ne 20, 3) := by decide +kernel
theorem dX6_heldOn_10 : decode cX6_heldOn 10 = .ok (.aload_n 0, 1) := by decide +kernel
theorem dX6_heldOn_11 : decode cX6_heldOn 11 = .ok (.aload_n 0, 1) := by decide +kernel
theorem dX6_heldOn_12 : decode cX6_heldOn 12 = .ok (.getfield 46, 3) := by decide +kernel
theorem dX6_heldOn_15 : decode cX6_heldOn 15 = .ok (.iload_n 1, 1) := by decide +kernel
theorem dX6_heldOn_16 : decode cX6_heldOn 16 = .ok (.iaload, 1) := by decide +kernel
theorem dX6_heldOn_17 : decode cX6_heldOn 17 = .ok (.invokevirtual 187, 3) := by decide +kernel
theorem dX6_heldOn_20 : decode cX6_heldOn 20 = .ok (.ifCond .ne 7, 3) := by decide +kernel
theorem dX6_heldOn_23 : decode cX6_heldOn 23 = .ok (.iconst 0, 1) := by decide +kernel
theorem dX6_heldOn_24 : decode cX6_heldOn 24 = .ok (.goto 9, 3) := by decide +kernel
theorem dX6_heldOn_27 : decode cX6_heldOn 27 = .ok (.aload_n 0, 1) := by decide +kernel
theorem dX6_heldOn_28 : decode cX6_heldOn 28 = .ok (.getfield 43, 3) := by decide +kernel
theorem dX6_heldOn_31 : decode cX6_heldOn 31 = .ok (.iload_n 1, 1) := by decide +kernel
theorem dX6_heldOn_32 : decode cX6_heldOn 32 = .ok (.iaload, 1) := by decide +kernel
theorem dX6_heldOn_33 : decode cX6_heldOn 33 = .ok (.ireturn, 1) := by decide +kernel
set_option maxRecDepth 20000 in
theorem ggX6_taken_X6_isShelf : GoodIn wsX6_taken wsX6_isShelf := goodIn_r _ [9, 10, 11, 12, 8, 13] (by decide +kernel) (by decide +kernel)
set_option maxRecDepth 20000 in
theorem gX6_taken_X6_isShelf : GoodIn wsX6_taken (va_wsS RX6 284 yX6_isShelf wsX6_isShelf) := goodIn_app (goodIn_of _ (by decide +kernel)) ggX6_taken_X6_isShelf
set_option maxRecDepth 20000 in
theorem ggX6_taken_X6_isIn : GoodIn wsX6_taken wsX6_isIn := goodIn_r _ [13] (by decide +kernel) (by decide +kernel)
set_option maxRecDepth 20000 in
theorem gX6_taken_X6_isIn : GoodIn wsX6_taken (va_wsS RX6 60 yX6_isIn wsX6_isIn) := goodIn_app (goodIn_of _ (by decide +kernel)) ggX6_taken_X6_isIn
set_option maxRecDepth 20000 in
theorem ggX6_taken_X6_heldOn : GoodIn wsX6_taken wsX6_heldOn := goodIn_r _ [17, 18, 4, 19, 20, 21, 8, 22, 23, 31, 32, 33, 34, 35, 36, 37, 38, 39, 40, 41, 42, 43, 44, 45, 46, 47, 48, 49, 50, 51, 52, 53, 54, 55, 56, 57, 58] (by decide +kernel) (by decide +kernel)
set_option maxRecDepth 20000 in
theorem gX6_taken_X6_heldOn : GoodIn wsX6_taken (wsV RX6 293 RX6 yX6_heldOn wsX6_heldOn) := goodIn_app (goodIn_of _ (by decide +kernel)) ggX6_taken_X6_heldOn
set_option maxRecDepth 20000 in
theorem ggX6_taken_X6_its : GoodIn wsX6_taken wsX6_its := goodIn_r _ [27, 23, 31, 32, 33, 34, 35, 36, 37, 38, 39, 40, 41, 42, 43, 44, 45, 46, 47, 48, 49, 50, 51, 52, 53, 54, 55, 56, 57, 58] (by decide +kernel) (by decide +kernel)
set_option maxRecDepth 20000 in
theorem gX6_taken_X6_its : GoodIn wsX6_taken (wsV RX6 169 RX6 yX6_its wsX6_its) := goodIn_app (goodIn_of _ (by decide +kernel)) ggX6_taken_X6_its
set_option maxRecDepth 20000 in
theorem ggX6_taken_X6_isUnder : GoodIn wsX6_taken wsX6_isUnder := goodIn_r _ [30] (by decide +kernel) (by decide +kernel)
set_option maxRecDepth 20000 in
theorem gX6_taken_X6_isUnder : GoodIn wsX6_taken (va_wsS RX6 296 yX6_isUnder wsX6_isUnder) := goodIn_app (goodIn_of _ (by decide +kernel)) ggX6_taken_X6_isUnder
theorem dX6_taken_0 : decode cX6_taken 0 = .ok (.iload_n 1, 1) := by decide +kernel
theorem dX6_taken_1 : decode cX6_taken 1 = .ok (.invokestatic 284, 3) := by decide +kernel
theorem dX6_taken_4 : decode cX6_taken 4 = .ok (.ifCond .eq 29, 3) := by decide +kernel
theorem dX6_taken_7 : decode cX6_taken 7 = .ok (.iload_n 2, 1) := by decide +kernel
theorem dX6_taken_8 : decode cX6_taken 8 = .ok (.i2l, 1) := by decide +kernel
theorem dX6_taken_9 : decode cX6_taken 9 = .ok (.lconst 0, 1) := by decide +kernel
theorem dX6_taken_10 : decode cX6_taken 10 = .ok (.ldc2_w 287, 3) := by decide +kernel
theorem dX6_taken_13 : decode cX6_taken 13 = .ok (.invokestatic 60, 3) := by decide +kernel
theorem dX6_taken_16 : decode cX6_taken 16 = .ok (.ifCond .eq 17, 3) := by decide +kernel
theorem dX6_taken_19 : decode cX6_taken 19 = .ok (.iload_n 2, 1) := by decide +kernel
theorem dX6_taken_20 : decode cX6_taken 20 = .ok (.i2l, 1) := by decide +kernel
theorem dX6_taken_21 : decode cX6_taken 21 = .ok (.ldc2_w 289, 3) := by decide +kernel
theorem dX6_taken_24 : decode cX6_taken 24 = .ok (.ldc2_w 291, 3) := by decide +kernel
theorem dX6_taken_27 : decode cX6_taken 27 = .ok (.invokestatic 60, 3) := by decide +kernel
theorem dX6_taken_30 : decode cX6_taken 30 = .ok (.ifCond .eq 5, 3) := by decide +kernel
theorem dX6_taken_33 : decode cX6_taken 33 = .ok (.iconst (-1), 1) := by decide +kernel
theorem dX6_taken_34 : decode cX6_taken 34 = .ok (.ireturn, 1) := by decide +kernel
theorem dX6_taken_35 : decode cX6_taken 35 = .ok (.aload_n 0, 1) := by decide +kernel
theorem dX6_taken_36 : decode cX6_taken 36 = .ok (.iload_n 1, 1) := by decide +kernel
theorem dX6_taken_37 : decode cX6_taken 37 = .ok (.invokevirtual 293, 3) := by decide +kernel
theorem dX6_taken_40 : decode cX6_taken 40 = .ok (.istore_n 3, 1) := by decide +kernel
theorem dX6_taken_41 : decode cX6_taken 41 = .ok (.iload_n 3, 1) := by decide +kernel
theorem dX6_taken_42 : decode cX6_taken 42 = .ok (.ifCond .ne 6, 3) := by decide +kernel
theorem dX6_taken_45 : decode cX6_taken 45 = .ok (.bipush (-11), 2) := by decide +kernel
theorem dX6_taken_47 : decode cX6_taken 47 = .ok (.ireturn, 1) := by decide +kernel
theorem dX6_taken_48 : decode cX6_taken 48 = .ok (.iload_n 2, 1) := by decide +kernel
theorem dX6_taken_49 : decode cX6_taken 49 = .ok (.bipush 10, 2) := by decide +kernel
theorem dX6_taken_51 : decode cX6_taken 51 = .ok (.if_icmp .ge 38, 3) := by decide +kernel
theorem dX6_taken_54 : decode cX6_taken 54 = .ok (.iload_n 3, 1) := by decide +kernel
theorem dX6_taken_55 : decode cX6_taken 55 = .ok (.iconst 1, 1) := by decide +kernel
theorem dX6_taken_56 : decode cX6_taken 56 = .ok (.if_icmp .ne 30, 3) := by decide +kernel
theorem dX6_taken_59 : decode cX6_taken 59 = .ok (.aload_n 0, 1) := by decide +kernel
theorem dX6_taken_60 : decode cX6_taken 60 = .ok (.aload_n 0, 1) := by decide +kernel
theorem dX6_taken_61 : decode cX6_taken 61 = .ok (.getfield 46, 3) := by decide +kernel
theorem dX6_taken_64 : decode cX6_taken 64 = .ok (.iload_n 1, 1) := by decide +kernel
theorem dX6_taken_65 : decode cX6_taken 65 = .ok (.iaload, 1) := by decide +kernel
theorem dX6_taken_66 : decode cX6_taken 66 = .ok (.iconst 0, 1) := by decide +kernel
theorem dX6_taken_67 : decode cX6_taken 67 = .ok (.invokevirtual 169, 3) := by decide +kernel
theorem dX6_taken_70 : decode cX6_taken 70 = .ok (.iload_n 2, 1) := by decide +kernel
theorem dX6_taken_71 : decode cX6_taken 71 = .ok (.invokestatic 296, 3) := by decide +kernel
theorem dX6_taken_74 : decode cX6_taken 74 = .ok (.ifCond .eq 12, 3) := by decide +kernel
theorem dX6_taken_77 : decode cX6_taken 77 = .ok (.aload_n 0, 1) := by decide +kernel
theorem dX6_taken_78 : decode cX6_taken 78 = .ok (.getfield 46, 3) := by decide +kernel
theorem dX6_taken_81 : decode cX6_taken 81 = .ok (.iload_n 1, 1) := by decide +kernel
theorem dX6_taken_82 : decode cX6_taken 82 = .ok (.iaload, 1) := by decide +kernel
theorem dX6_taken_83 : decode cX6_taken 83 = .ok (.goto 5, 3) := by decide +kernel
theorem dX6_taken_86 : decode cX6_taken 86 = .ok (.bipush (-13), 2) := by decide +kernel
theorem dX6_taken_88 : decode cX6_taken 88 = .ok (.ireturn, 1) := by decide +kernel
theorem dX6_taken_89 : decode cX6_taken 89 = .ok (.iload_n 3, 1) := by decide +kernel
theorem dX6_taken_90 : decode cX6_taken 90 = .ok (.iconst 2, 1) := by decide +kernel
theorem dX6_taken_91 : decode cX6_taken 91 = .ok (.if_icmp .ne 25, 3) := by decide +kernel
theorem dX6_taken_94 : decode cX6_taken 94 = .ok (.aload_n 0, 1) := by decide +kernel
theorem dX6_taken_95 : decode cX6_taken 95 = .ok (.getfield 46, 3) := by decide +kernel
theorem dX6_taken_98 : decode cX6_taken 98 = .ok (.iload_n 1, 1) := by decide +kernel
theorem dX6_taken_99 : decode cX6_taken 99 = .ok (.iaload, 1) := by decide +kernel
theorem dX6_taken_100 : decode cX6_taken 100 = .ok (.iload_n 2, 1) := by decide +kernel
theorem dX6_taken_101 : decode cX6_taken 101 = .ok (.bipush 10, 2) := by decide +kernel
theorem dX6_taken_103 : decode cX6_taken 103 = .ok (.isub, 1) := by decide +kernel
theorem dX6_taken_104 : decode cX6_taken 104 = .ok (.if_icmp .ne 12, 3) := by decide +kernel
theorem dX6_taken_107 : decode cX6_taken 107 = .ok (.aload_n 0, 1) := by decide +kernel
theorem dX6_taken_108 : decode cX6_taken 108 = .ok (.getfield 49, 3) := by decide +kernel
theorem dX6_taken_111 : decode cX6_taken 111 = .ok (.iload_n 1, 1) := by decide +kernel
theorem dX6_taken_112 : decode cX6_taken 112 = .ok (.iaload, 1) := by decide +kernel
theorem dX6_taken_113 : decode cX6_taken 113 = .ok (.goto 5, 3) := by decide +kernel
theorem dX6_taken_116 : decode cX6_taken 116 = .ok (.bipush (-13), 2) := by decide +kernel
theorem dX6_taken_118 : decode cX6_taken 118 = .ok (.ireturn, 1) := by decide +kernel
theorem dX6_runs_0 : decode cX6_runs 0 = .ok (.aload_n 0, 1) := by decide +kernel
theorem dX6_runs_1 : decode cX6_runs 1 = .ok (.getfield 299, 3) := by decide +kernel
theorem dX6_runs_4 : decode cX6_runs 4 = .ok (.bipush 30, 2) := by decide +kernel
theorem dX6_runs_6 : decode cX6_runs 6 = .ok (.if_icmp .ge 23, 3) := by decide +kernel
theorem dX6_runs_9 : decode cX6_runs 9 = .ok (.aload_n 0, 1) := by decide +kernel
theorem dX6_runs_10 : decode cX6_runs 10 = .ok (.getfield 52, 3) := by decide +kernel
theorem dX6_runs_13 : decode cX6_runs 13 = .ok (.aload_n 0, 1) := by decide +kernel
theorem dX6_runs_14 : decode cX6_runs 14 = .ok (.getfield 299, 3) := by decide +kernel
theorem dX6_runs_17 : decode cX6_runs 17 = .ok (.iload_n 1, 1) := by decide +kernel
theorem dX6_runs_18 : decode cX6_runs 18 = .ok (.iastore, 1) := by decide +kernel
theorem dX6_runs_19 : decode cX6_runs 19 = .ok (.aload_n 0, 1) := by decide +kernel
theorem dX6_runs_20 : decode cX6_runs 20 = .ok (.dup, 1) := by decide +kernel
theorem dX6_runs_21 : decode cX6_runs 21 = .ok (.getfield 299, 3) := by decide +kernel
theorem dX6_runs_24 : decode cX6_runs 24 = .ok (.iconst 1, 1) := by decide +kernel
theorem dX6_runs_25 : decode cX6_runs 25 = .ok (.iadd, 1) := by decide +kernel
theorem dX6_runs_26 : decode cX6_runs 26 = .ok (.putfield 299, 3) := by decide +kernel
theorem dX6_runs_29 : decode cX6_runs 29 = .ok (.return_, 1) := by decide +kernel
set_option maxRecDepth 20000 in
theorem ggX6_itchesPlain_X6_runs : GoodIn wsX6_itchesPlain wsX6_runs := goodIn_r _ [6, 7, 8, 9, 10, 11, 12, 13, 14, 15, 16, 17, 18, 19, 20, 21, 22, 23, 24, 25, 26, 27, 28, 29, 30, 31, 32, 33, 34, 35, 36] (by decide +kernel) (by decide +kernel)
set_option maxRecDepth 20000 in
theorem gX6_itchesPlain_X6_runs : GoodIn wsX6_itchesPlain (wsV RX6 302 RX6 yX6_runs wsX6_runs) := goodIn_app (goodIn_of _ (by decide +kernel)) ggX6_itchesPlain_X6_runs
theorem dX6_itchesPlain_0 : decode cX6_itchesPlain 0 = .ok (.aload_n 0, 1) := by decide +kernel
theorem dX6_itchesPlain_1 : decode cX6_itchesPlain 1 = .ok (.bipush 10, 2) := by decide +kernel
theorem dX6_itchesPlain_3 : decode cX6_itchesPlain 3 = .ok (.invokevirtual 302, 3) := by decide +kernel
theorem dX6_itchesPlain_6 : decode cX6_itchesPlain 6 = .ok (.iload_n 1, 1) := by decide +kernel
theorem dX6_itchesPlain_7 : decode cX6_itchesPlain 7 = .ok (.iconst 3, 1) := by decide +kernel
theorem dX6_itchesPlain_8 : decode cX6_itchesPlain 8 = .ok (.imul, 1) := by decide +kernel
theorem dX6_itchesPlain_9 : decode cX6_itchesPlain 9 = .ok (.aload_n 0, 1) := by decide +kernel
theorem dX6_itchesPlain_10 : decode cX6_itchesPlain 10 = .ok (.getfield 305, 3) := by decide +kernel
theorem dX6_itchesPlain_13 : decode cX6_itchesPlain 13 = .ok (.iconst 2, 1) := by decide +kernel
theorem dX6_itchesPlain_14 : decode cX6_itchesPlain 14 = .ok (.imul, 1) := by decide +kernel
theorem dX6_itchesPlain_15 : decode cX6_itchesPlain 15 = .ok (.iadd, 1) := by decide +kernel
theorem dX6_itchesPlain_16 : decode cX6_itchesPlain 16 = .ok (.ireturn, 1) := by decide +kernel
set_option maxRecDepth 20000 in
theorem ggX6_itchesOfSnake_X6_runs : GoodIn wsX6_itchesOfSnake wsX6_runs := goodIn_r _ [5, 6, 7, 13, 14, 15, 16, 17, 18, 19, 20, 21, 22, 23, 24, 25, 26, 27, 28, 29, 30, 31, 32, 33, 34, 35, 36, 37, 38, 39, 40] (by decide +kernel) (by decide +kernel)
set_option maxRecDepth 20000 in
theorem gX6_itchesOfSnake_X6_runs : GoodIn wsX6_itchesOfSnake (wsV RX6 302 RX6 yX6_runs wsX6_runs) := goodIn_app (goodIn_of _ (by decide +kernel)) ggX6_itchesOfSnake_X6_runs
set_option maxRecDepth 20000 in
theorem ggX6_itchesOfSnake_X6_itchesPlain : GoodIn wsX6_itchesOfSnake wsX6_itchesPlain := goodIn_r _ [11, 12, 1, 2, 3, 4, 5, 6, 7, 13, 14, 15, 16, 17, 18, 19, 20, 21, 22, 23, 24, 25, 26, 27, 28, 29, 30, 31, 32, 33, 34, 35, 36, 37, 38, 39, 40] (by decide +kernel) (by decide +kernel)
set_option maxRecDepth 20000 in
theorem gX6_itchesOfSnake_X6_itchesPlain : GoodIn wsX6_itchesOfSnake (wsV RX6 308 RX6 yX6_itchesPlain wsX6_itchesPlain) := goodIn_app (goodIn_of _ (by decide +kernel)) ggX6_itchesOfSnake_X6_itchesPlain
theorem dX6_itchesOfSnake_0 : decode cX6_itchesOfSnake 0 = .ok (.aload_n 0, 1) := by decide +kernel
theorem dX6_itchesOfSnake_1 : decode cX6_itchesOfSnake 1 = .ok (.bipush 30, 2) := by decide +kernel
theorem dX6_itchesOfSnake_3 : decode cX6_itchesOfSnake 3 = .ok (.invokevirtual 302, 3) := by decide +kernel
theorem dX6_itchesOfSnake_6 : decode cX6_itchesOfSnake 6 = .ok (.iconst 0, 1) := by decide +kernel
theorem dX6_itchesOfSnake_7 : decode cX6_itchesOfSnake 7 = .ok (.aload_n 0, 1) := by decide +kernel
theorem dX6_itchesOfSnake_8 : decode cX6_itchesOfSnake 8 = .ok (.iload_n 1, 1) := by decide +kernel
theorem dX6_itchesOfSnake_9 : decode cX6_itchesOfSnake 9 = .ok (.invokevirtual 308, 3) := by decide +kernel
theorem dX6_itchesOfSnake_12 : decode cX6_itchesOfSnake 12 = .ok (.isub, 1) := by decide +kernel
theorem dX6_itchesOfSnake_13 : decode cX6_itchesOfSnake 13 = .ok (.ireturn, 1) := by decide +kernel
set_option maxRecDepth 20000 in
theorem ggX6_itches_X6_itchesOfSnake : GoodIn wsX6_itches wsX6_itchesOfSnake := goodIn_r _ [7, 8, 9, 10, 6, 11, 12, 13, 14, 15, 16, 17, 18, 19, 20, 21, 22, 23, 24, 25, 26, 27, 28, 29, 30, 31, 32, 33, 34, 35, 36, 37, 38, 39, 40, 41, 42, 43, 44, 45, 46] (by decide +kernel) (by decide +kernel)
set_option maxRecDepth 20000 in
theorem gX6_itches_X6_itchesOfSnake : GoodIn wsX6_itches (wsV RX6 314 RX6 yX6_itchesOfSnake wsX6_itchesOfSnake) := goodIn_app (goodIn_of _ (by decide +kernel)) ggX6_itches_X6_itchesOfSnake
set_option maxRecDepth 20000 in
theorem ggX6_itches_X6_runs : GoodIn wsX6_itches wsX6_runs := goodIn_r _ [11, 12, 13, 19, 20, 21, 22, 23, 24, 25, 26, 27, 28, 29, 30, 31, 32, 33, 34, 35, 36, 37, 38, 39, 40, 41, 42, 43, 44, 45, 46] (by decide +kernel) (by decide +kernel)
set_option maxRecDepth 20000 in
theorem gX6_itches_X6_runs : GoodIn wsX6_itches (wsV RX6 302 RX6 yX6_runs wsX6_runs) := goodIn_app (goodIn_of _ (by decide +kernel)) ggX6_itches_X6_runs
set_option maxRecDepth 20000 in
theorem ggX6_itches_X6_itchesPlain : GoodIn wsX6_itches wsX6_itchesPlain := goodIn_r _ [17, 18, 8, 9, 10, 6, 11, 12, 13, 19, 20, 21, 22, 23, 24, 25, 26, 27, 28, 29, 30, 31, 32, 33, 34, 35, 36, 37, 38, 39, 40, 41, 42, 43, 44, 45, 46] (by decide +kernel) (by decide +kernel)
set_option maxRecDepth 20000 in
theorem gX6_itches_X6_itchesPlain : GoodIn wsX6_itches (wsV RX6 308 RX6 yX6_itchesPlain wsX6_itchesPlain) := goodIn_app (goodIn_of _ (by decide +kernel)) ggX6_itches_X6_itchesPlain
theorem dX6_itches_0 : decode cX6_itches 0 = .ok (.aload_n 0, 1) := by decide +kernel
theorem dX6_itches_1 : decode cX6_itches 1 = .ok (.getfield 311, 3) := by decide +kernel
theorem dX6_itches_4 : decode cX6_itches 4 = .ok (.tableswitch 66 2 4 #[28, 49, 34], 28) := by decide +kernel
theorem dX6_itches_32 : decode cX6_itches 32 = .ok (.aload_n 0, 1) := by decide +kernel
theorem dX6_itches_33 : decode cX6_itches 33 = .ok (.iload_n 1, 1) := by decide +kernel
theorem dX6_itches_34 : decode cX6_itches 34 = .ok (.invokevirtual 314, 3) := by decide +kernel
theorem dX6_itches_37 : decode cX6_itches 37 = .ok (.ireturn, 1) := by decide +kernel
theorem dX6_itches_38 : decode cX6_itches 38 = .ok (.aload_n 0, 1) := by decide +kernel
theorem dX6_itches_39 : decode cX6_itches 39 = .ok (.bipush 40, 2) := by decide +kernel
theorem dX6_itches_41 : decode cX6_itches 41 = .ok (.invokevirtual 302, 3) := by decide +kernel
theorem dX6_itches_44 : decode cX6_itches 44 = .ok (.aload_n 0, 1) := by decide +kernel
theorem dX6_itches_45 : decode cX6_itches 45 = .ok (.iload_n 1, 1) := by decide +kernel
theorem dX6_itches_46 : decode cX6_itches 46 = .ok (.invokevirtual 314, 3) := by decide +kernel
theorem dX6_itches_49 : decode cX6_itches 49 = .ok (.bipush 9, 2) := by decide +kernel
theorem dX6_itches_51 : decode cX6_itches 51 = .ok (.ixor, 1) := by decide +kernel
theorem dX6_itches_52 : decode cX6_itches 52 = .ok (.ireturn, 1) := by decide +kernel
theorem dX6_itches_53 : decode cX6_itches 53 = .ok (.aload_n 0, 1) := by decide +kernel
theorem dX6_itches_54 : decode cX6_itches 54 = .ok (.bipush 51, 2) := by decide +kernel
theorem dX6_itches_56 : decode cX6_itches 56 = .ok (.invokevirtual 302, 3) := by decide +kernel
theorem dX6_itches_59 : decode cX6_itches 59 = .ok (.aload_n 0, 1) := by decide +kernel
theorem dX6_itches_60 : decode cX6_itches 60 = .ok (.iload_n 1, 1) := by decide +kernel
theorem dX6_itches_61 : decode cX6_itches 61 = .ok (.invokevirtual 308, 3) := by decide +kernel
theorem dX6_itches_64 : decode cX6_itches 64 = .ok (.aload_n 0, 1) := by decide +kernel
theorem dX6_itches_65 : decode cX6_itches 65 = .ok (.getfield 317, 3) := by decide +kernel
theorem dX6_itches_68 : decode cX6_itches 68 = .ok (.iadd, 1) := by decide +kernel
theorem dX6_itches_69 : decode cX6_itches 69 = .ok (.ireturn, 1) := by decide +kernel
theorem dX6_itches_70 : decode cX6_itches 70 = .ok (.aload_n 0, 1) := by decide +kernel
theorem dX6_itches_71 : decode cX6_itches 71 = .ok (.iload_n 1, 1) := by decide +kernel
theorem dX6_itches_72 : decode cX6_itches 72 = .ok (.invokevirtual 308, 3) := by decide +kernel
theorem dX6_itches_75 : decode cX6_itches 75 = .ok (.ireturn, 1) := by decide +kernel
set_option maxRecDepth 20000 in
theorem ggX6_crawlsPlain_X6_runs : GoodIn wsX6_crawlsPlain wsX6_runs := goodIn_r _ [6, 7, 8, 23, 24, 25, 26, 27, 28, 29, 30, 31, 32, 33, 34, 35, 36, 37, 38, 39, 40, 41, 42, 43, 44, 45, 46, 47, 48, 49, 50] (by decide +kernel) (by decide +kernel)
set_option maxRecDepth 20000 in
theorem gX6_crawlsPlain_X6_runs : GoodIn wsX6_crawlsPlain (wsV RX6 302 RX6 yX6_runs wsX6_runs) := goodIn_app (goodIn_of _ (by decide +kernel)) ggX6_crawlsPlain_X6_runs
set_option maxRecDepth 20000 in
theorem ggX6_crawlsPlain_X6_itches : GoodIn wsX6_crawlsPlain wsX6_itches := goodIn_r _ [12, 13, 1, 14, 15, 16, 5, 17, 2, 3, 4, 6, 7, 8, 18, 19, 20, 21, 22, 23, 24, 25, 26, 27, 28, 29, 30, 31, 32, 33, 34, 35, 36, 37, 38, 39, 40, 41, 42, 43, 44, 45, 46, 47, 48, 49, 50] (by decide +kernel) (by decide +kernel)
set_option maxRecDepth 20000 in
theorem gX6_crawlsPlain_X6_itches : GoodIn wsX6_crawlsPlain (wsV RX6 320 RX6 yX6_itches wsX6_itches) := goodIn_app (goodIn_of _ (by decide +kernel)) ggX6_crawlsPlain_X6_itches
theorem dX6_crawlsPlain_0 : decode cX6_crawlsPlain 0 = .ok (.aload_n 0, 1) := by decide +kernel
theorem dX6_crawlsPlain_1 : decode cX6_crawlsPlain 1 = .ok (.bipush 11, 2) := by decide +kernel
theorem dX6_crawlsPlain_3 : decode cX6_crawlsPlain 3 = .ok (.invokevirtual 302, 3) := by decide +kernel
theorem dX6_crawlsPlain_6 : decode cX6_crawlsPlain 6 = .ok (.aload_n 0, 1) := by decide +kernel
theorem dX6_crawlsPlain_7 : decode cX6_crawlsPlain 7 = .ok (.iload_n 1, 1) := by decide +kernel
theorem dX6_crawlsPlain_8 : decode cX6_crawlsPlain 8 = .ok (.invokevirtual 320, 3) := by decide +kernel
theorem dX6_crawlsPlain_11 : decode cX6_crawlsPlain 11 = .ok (.aload_n 0, 1) := by decide +kernel
theorem dX6_crawlsPlain_12 : decode cX6_crawlsPlain 12 = .ok (.getfield 317, 3) := by decide +kernel
theorem dX6_crawlsPlain_15 : decode cX6_crawlsPlain 15 = .ok (.isub, 1) := by decide +kernel
theorem dX6_crawlsPlain_16 : decode cX6_crawlsPlain 16 = .ok (.ireturn, 1) := by decide +kernel
set_option maxRecDepth 20000 in
theorem ggX6_crawls_X6_runs : GoodIn wsX6_crawls wsX6_runs := goodIn_r _ [7, 8, 9, 27, 28, 29, 30, 31, 32, 33, 34, 35, 36, 37, 38, 39, 40, 41, 42, 43, 44, 45, 46, 47, 48, 49, 50, 51, 52, 53, 54] (by decide +kernel) (by decide +kernel)
set_option maxRecDepth 20000 in
theorem gX6_crawls_X6_runs : GoodIn wsX6_crawls (wsV RX6 302 RX6 yX6_runs wsX6_runs) := goodIn_app (goodIn_of _ (by decide +kernel)) ggX6_crawls_X6_runs
set_option maxRecDepth 20000 in
theorem ggX6_crawls_X6_crawlsPlain : GoodIn wsX6_crawls wsX6_crawlsPlain := goodIn_r _ [13, 2, 3, 4, 5, 6, 7, 8, 9, 14, 15, 16, 17, 1, 18, 19, 20, 21, 22, 23, 24, 25, 26, 27, 28, 29, 30, 31, 32, 33, 34, 35, 36, 37, 38, 39, 40, 41, 42, 43, 44, 45, 46, 47, 48, 49, 50, 51, 52, 53, 54] (by decide +kernel) (by decide +kernel)
set_option maxRecDepth 20000 in
theorem gX6_crawls_X6_crawlsPlain : GoodIn wsX6_crawls (wsV RX6 323 RX6 yX6_crawlsPlain wsX6_crawlsPlain) := goodIn_app (goodIn_of _ (by decide +kernel)) ggX6_crawls_X6_crawlsPlain
set_option maxRecDepth 20000 in
theorem ggX6_crawls_X6_itches : GoodIn wsX6_crawls wsX6_itches := goodIn_r _ [17, 1, 2, 18, 19, 20, 6, 21, 3, 4, 5, 7, 8, 9, 22, 23, 24, 25, 26, 27, 28, 29, 30, 31, 32, 33, 34, 35, 36, 37, 38, 39, 40, 41, 42, 43, 44, 45, 46, 47, 48, 49, 50, 51, 52, 53, 54] (by decide +kernel) (by decide +kernel)
set_option maxRecDepth 20000 in
theorem gX6_crawls_X6_itches : GoodIn wsX6_crawls (wsV RX6 320 RX6 yX6_itches wsX6_itches) := goodIn_app (goodIn_of _ (by decide +kernel)) ggX6_crawls_X6_itches
theorem dX6_crawls_0 : decode cX6_crawls 0 = .ok (.aload_n 0, 1) := by decide +kernel
theorem dX6_crawls_1 : decode cX6_crawls 1 = .ok (.getfield 311, 3) := by decide +kernel
theorem dX6_crawls_4 : decode cX6_crawls 4 = .ok (.iconst 1, 1) := by decide +kernel
theorem dX6_crawls_5 : decode cX6_crawls 5 = .ok (.if_icmp .eq 11, 3) := by decide +kernel
theorem dX6_crawls_8 : decode cX6_crawls 8 = .ok (.aload_n 0, 1) := by decide +kernel
theorem dX6_crawls_9 : decode cX6_crawls 9 = .ok (.getfield 311, 3) := by decide +kernel
theorem dX6_crawls_12 : decode cX6_crawls 12 = .ok (.iconst 3, 1) := by decide +kernel
theorem dX6_crawls_13 : decode cX6_crawls 13 = .ok (.if_icmp .ne 17, 3) := by decide +kernel
theorem dX6_crawls_16 : decode cX6_crawls 16 = .ok (.aload_n 0, 1) := by decide +kernel
theorem dX6_crawls_17 : decode cX6_crawls 17 = .ok (.bipush 20, 2) := by decide +kernel
theorem dX6_crawls_19 : decode cX6_crawls 19 = .ok (.invokevirtual 302, 3) := by decide +kernel
theorem dX6_crawls_22 : decode cX6_crawls 22 = .ok (.aload_n 0, 1) := by decide +kernel
theorem dX6_crawls_23 : decode cX6_crawls 23 = .ok (.iload_n 1, 1) := by decide +kernel
theorem dX6_crawls_24 : decode cX6_crawls 24 = .ok (.invokevirtual 323, 3) := by decide +kernel
theorem dX6_crawls_27 : decode cX6_crawls 27 = .ok (.iconst 4, 1) := by decide +kernel
theorem dX6_crawls_28 : decode cX6_crawls 28 = .ok (.imul, 1) := by decide +kernel
theorem dX6_crawls_29 : decode cX6_crawls 29 = .ok (.ireturn, 1) := by decide +kernel
theorem dX6_crawls_30 : decode cX6_crawls 30 = .ok (.aload_n 0, 1) := by decide +kernel
theorem dX6_crawls_31 : decode cX6_crawls 31 = .ok (.getfield 311, 3) := by decide +kernel
theorem dX6_crawls_34 : decode cX6_crawls 34 = .ok (.iconst 4, 1) := by decide +kernel
theorem dX6_crawls_35 : decode cX6_crawls 35 = .ok (.if_icmp .ne 26, 3) := by decide +kernel
theorem dX6_crawls_38 : decode cX6_crawls 38 = .ok (.aload_n 0, 1) := by decide +kernel
theorem dX6_crawls_39 : decode cX6_crawls 39 = .ok (.bipush 41, 2) := by decide +kernel
theorem dX6_crawls_41 : decode cX6_crawls 41 = .ok (.invokevirtual 302, 3) := by decide +kernel
theorem dX6_crawls_44 : decode cX6_crawls 44 = .ok (.aload_n 0, 1) := by decide +kernel
theorem dX6_crawls_45 : decode cX6_crawls 45 = .ok (.iload_n 1, 1) := by decide +kernel
theorem dX6_crawls_46 : decode cX6_crawls 46 = .ok (.invokevirtual 323, 3) := by decide +kernel
theorem dX6_crawls_49 : decode cX6_crawls 49 = .ok (.istore_n 2, 1) := by decide +kernel
theorem dX6_crawls_50 : decode cX6_crawls 50 = .ok (.iload_n 2, 1) := by decide +kernel
theorem dX6_crawls_51 : decode cX6_crawls 51 = .ok (.aload_n 0, 1) := by decide +kernel
theorem dX6_crawls_52 : decode cX6_crawls 52 = .ok (.aload_n 0, 1) := by decide +kernel
theorem dX6_crawls_53 : decode cX6_crawls 53 = .ok (.getfield 317, 3) := by decide +kernel
theorem dX6_crawls_56 : decode cX6_crawls 56 = .ok (.invokevirtual 320, 3) := by decide +kernel
theorem dX6_crawls_59 : decode cX6_crawls 59 = .ok (.iadd, 1) := by decide +kernel
theorem dX6_crawls_60 : decode cX6_crawls 60 = .ok (.ireturn, 1) := by decide +kernel
theorem dX6_crawls_61 : decode cX6_crawls 61 = .ok (.aload_n 0, 1) := by decide +kernel
theorem dX6_crawls_62 : decode cX6_crawls 62 = .ok (.iload_n 1, 1) := by decide +kernel
theorem dX6_crawls_63 : decode cX6_crawls 63 = .ok (.invokevirtual 323, 3) := by decide +kernel
theorem dX6_crawls_66 : decode cX6_crawls 66 = .ok (.ireturn, 1) := by decide +kernel
set_option maxRecDepth 20000 in
theorem ggX6_partsPlain_X6_runs : GoodIn wsX6_partsPlain wsX6_runs := goodIn_r _ [8, 9, 10, 11, 12, 13, 14, 15, 16, 17, 18, 19, 20, 21, 22, 23, 24, 25, 26, 27, 28, 29, 30, 31, 32, 33, 34, 35, 36, 37, 38] (by decide +kernel) (by decide +kernel)
set_option maxRecDepth 20000 in
theorem gX6_partsPlain_X6_runs : GoodIn wsX6_partsPlain (wsV RX6 302 RX6 yX6_runs wsX6_runs) := goodIn_app (goodIn_of _ (by decide +kernel)) ggX6_partsPlain_X6_runs
theorem dX6_partsPlain_0 : decode cX6_partsPlain 0 = .ok (.aload_n 0, 1) := by decide +kernel
theorem dX6_partsPlain_1 : decode cX6_partsPlain 1 = .ok (.bipush 12, 2) := by decide +kernel
theorem dX6_partsPlain_3 : decode cX6_partsPlain 3 = .ok (.invokevirtual 302, 3) := by decide +kernel
theorem dX6_partsPlain_6 : decode cX6_partsPlain 6 = .ok (.aload_n 0, 1) := by decide +kernel
theorem dX6_partsPlain_7 : decode cX6_partsPlain 7 = .ok (.aload_n 0, 1) := by decide +kernel
theorem dX6_partsPlain_8 : decode cX6_partsPlain 8 = .ok (.getfield 326, 3) := by decide +kernel
theorem dX6_partsPlain_11 : decode cX6_partsPlain 11 = .ok (.ifCond .ne 14, 3) := by decide +kernel
theorem dX6_partsPlain_14 : decode cX6_partsPlain 14 = .ok (.aload_n 0, 1) := by decide +kernel
theorem dX6_partsPlain_15 : decode cX6_partsPlain 15 = .ok (.getfield 305, 3) := by decide +kernel
theorem dX6_partsPlain_18 : decode cX6_partsPlain 18 = .ok (.aload_n 0, 1) := by decide +kernel
theorem dX6_partsPlain_19 : decode cX6_partsPlain 19 = .ok (.getfield 317, 3) := by decide +kernel
theorem dX6_partsPlain_22 : decode cX6_partsPlain 22 = .ok (.if_icmp .ne 7, 3) := by decide +kernel
theorem dX6_partsPlain_25 : decode cX6_partsPlain 25 = .ok (.iconst 1, 1) := by decide +kernel
theorem dX6_partsPlain_26 : decode cX6_partsPlain 26 = .ok (.goto 4, 3) := by decide +kernel
theorem dX6_partsPlain_29 : decode cX6_partsPlain 29 = .ok (.iconst 0, 1) := by decide +kernel
theorem dX6_partsPlain_30 : decode cX6_partsPlain 30 = .ok (.putfield 326, 3) := by decide +kernel
theorem dX6_partsPlain_33 : decode cX6_partsPlain 33 = .ok (.aload_n 0, 1) := by decide +kernel
theorem dX6_partsPlain_34 : decode cX6_partsPlain 34 = .ok (.getfield 326, 3) := by decide +kernel
theorem dX6_partsPlain_37 : decode cX6_partsPlain 37 = .ok (.ifCond .eq 7, 3) := by decide +kernel
theorem dX6_partsPlain_40 : decode cX6_partsPlain 40 = .ok (.iconst 0, 1) := by decide +kernel
theorem dX6_partsPlain_41 : decode cX6_partsPlain 41 = .ok (.goto 14, 3) := by decide +kernel
theorem dX6_partsPlain_44 : decode cX6_partsPlain 44 = .ok (.iload_n 1, 1) := by decide +kernel
theorem dX6_partsPlain_45 : decode cX6_partsPlain 45 = .ok (.aload_n 0, 1) := by decide +kernel
theorem dX6_partsPlain_46 : decode cX6_partsPlain 46 = .ok (.getfield 317, 3) := by decide +kernel
theorem dX6_partsPlain_49 : decode cX6_partsPlain 49 = .ok (.aload_n 0, 1) := by decide +kernel
theorem dX6_partsPlain_50 : decode cX6_partsPlain 50 = .ok (.getfield 305, 3) := by decide +kernel
theorem dX6_partsPlain_53 : decode cX6_partsPlain 53 = .ok (.isub, 1) := by decide +kernel
theorem dX6_partsPlain_54 : decode cX6_partsPlain 54 = .ok (.idiv, 1) := by decide +kernel
theorem dX6_partsPlain_55 : decode cX6_partsPlain 55 = .ok (.ireturn, 1) := by decide +kernel
set_option maxRecDepth 20000 in
theorem ggX6_parts_X6_runs : GoodIn wsX6_parts wsX6_runs := goodIn_r _ [8, 9, 10, 28, 29, 30, 31, 32, 33, 34, 35, 36, 37, 38, 39, 40, 41, 42, 43, 44, 45, 46, 47, 48, 49, 50, 51, 52, 53, 54, 55] (by decide +kernel) (by decide +kernel)
set_option maxRecDepth 20000 in
theorem gX6_parts_X6_runs : GoodIn wsX6_parts (wsV RX6 302 RX6 yX6_runs wsX6_runs) := goodIn_app (goodIn_of _ (by decide +kernel)) ggX6_parts_X6_runs
set_option maxRecDepth 20000 in
theorem ggX6_parts_X6_partsPlain : GoodIn wsX6_parts wsX6_partsPlain := goodIn_r _ [14, 2, 3, 15, 4, 5, 6, 7, 8, 9, 10, 28, 29, 30, 31, 32, 33, 34, 35, 36, 37, 38, 39, 40, 41, 42, 43, 44, 45, 46, 47, 48, 49, 50, 51, 52, 53, 54, 55] (by decide +kernel) (by decide +kernel)
set_option maxRecDepth 20000 in
theorem gX6_parts_X6_partsPlain : GoodIn wsX6_parts (wsV RX6 329 RX6 yX6_partsPlain wsX6_partsPlain) := goodIn_app (goodIn_of _ (by decide +kernel)) ggX6_parts_X6_partsPlain
set_option maxRecDepth 20000 in
theorem ggX6_parts_X6_itches : GoodIn wsX6_parts wsX6_itches := goodIn_r _ [19, 1, 15, 20, 21, 22, 7, 23, 4, 5, 6, 8, 9, 10, 24, 25, 26, 27, 3, 28, 29, 30, 31, 32, 33, 34, 35, 36, 37, 38, 39, 40, 41, 42, 43, 44, 45, 46, 47, 48, 49, 50, 51, 52, 53, 54, 55] (by decide +kernel) (by decide +kernel)
set_option maxRecDepth 20000 in
theorem gX6_parts_X6_itches : GoodIn wsX6_parts (wsV RX6 320 RX6 yX6_itches wsX6_itches) := goodIn_app (goodIn_of _ (by decide +kernel)) ggX6_parts_X6_itches
theorem dX6_parts_0 : decode cX6_parts 0 = .ok (.aload_n 0, 1) := by decide +kernel
theorem dX6_parts_1 : decode cX6_parts 1 = .ok (.getfield 311, 3) := by decide +kernel
theorem dX6_parts_4 : decode cX6_parts 4 = .ok (.iconst 3, 1) := by decide +kernel
theorem dX6_parts_5 : decode cX6_parts 5 = .ok (.if_icmp .ne 19, 3) := by decide +kernel
theorem dX6_parts_8 : decode cX6_parts 8 = .ok (.aload_n 0, 1) := by decide +kernel
theorem dX6_parts_9 : decode cX6_parts 9 = .ok (.bipush 50, 2) := by decide +kernel
theorem dX6_parts_11 : decode cX6_parts 11 = .ok (.invokevirtual 302, 3) := by decide +kernel
theorem dX6_parts_14 : decode cX6_parts 14 = .ok (.aload_n 0, 1) := by decide +kernel
theorem dX6_parts_15 : decode cX6_parts 15 = .ok (.iload_n 1, 1) := by decide +kernel
theorem dX6_parts_16 : decode cX6_parts 16 = .ok (.iconst 2, 1) := by decide +kernel
theorem dX6_parts_17 : decode cX6_parts 17 = .ok (.imul, 1) := by decide +kernel
theorem dX6_parts_18 : decode cX6_parts 18 = .ok (.invokevirtual 329, 3) := by decide +kernel
theorem dX6_parts_21 : decode cX6_parts 21 = .ok (.iconst 3, 1) := by decide +kernel
theorem dX6_parts_22 : decode cX6_parts 22 = .ok (.isub, 1) := by decide +kernel
theorem dX6_parts_23 : decode cX6_parts 23 = .ok (.ireturn, 1) := by decide +kernel
theorem dX6_parts_24 : decode cX6_parts 24 = .ok (.aload_n 0, 1) := by decide +kernel
theorem dX6_parts_25 : decode cX6_parts 25 = .ok (.getfield 311, 3) := by decide +kernel
theorem dX6_parts_28 : decode cX6_parts 28 = .ok (.iconst 5, 1) := by decide +kernel
theorem dX6_parts_29 : decode cX6_parts 29 = .ok (.if_icmp .ne 37, 3) := by decide +kernel
theorem dX6_parts_32 : decode cX6_parts 32 = .ok (.aload_n 0, 1) := by decide +kernel
theorem dX6_parts_33 : decode cX6_parts 33 = .ok (.bipush 61, 2) := by decide +kernel
theorem dX6_parts_35 : decode cX6_parts 35 = .ok (.invokevirtual 302, 3) := by decide +kernel
theorem dX6_parts_38 : decode cX6_parts 38 = .ok (.aload_n 0, 1) := by decide +kernel
theorem dX6_parts_39 : decode cX6_parts 39 = .ok (.iload_n 1, 1) := by decide +kernel
theorem dX6_parts_40 : decode cX6_parts 40 = .ok (.invokevirtual 329, 3) := by decide +kernel
theorem dX6_parts_43 : decode cX6_parts 43 = .ok (.istore_n 2, 1) := by decide +kernel
theorem dX6_parts_44 : decode cX6_parts 44 = .ok (.aload_n 0, 1) := by decide +kernel
theorem dX6_parts_45 : decode cX6_parts 45 = .ok (.getfield 326, 3) := by decide +kernel
theorem dX6_parts_48 : decode cX6_parts 48 = .ok (.ifCond .eq 7, 3) := by decide +kernel
theorem dX6_parts_51 : decode cX6_parts 51 = .ok (.iconst 0, 1) := by decide +kernel
theorem dX6_parts_52 : decode cX6_parts 52 = .ok (.goto 13, 3) := by decide +kernel
theorem dX6_parts_55 : decode cX6_parts 55 = .ok (.iload_n 2, 1) := by decide +kernel
theorem dX6_parts_56 : decode cX6_parts 56 = .ok (.aload_n 0, 1) := by decide +kernel
theorem dX6_parts_57 : decode cX6_parts 57 = .ok (.aload_n 0, 1) := by decide +kernel
theorem dX6_parts_58 : decode cX6_parts 58 = .ok (.getfield 305, 3) := by decide +kernel
theorem dX6_parts_61 : decode cX6_parts 61 = .ok (.invokevirtual 320, 3) := by decide +kernel
theorem dX6_parts_64 : decode cX6_parts 64 = .ok (.isub, 1) := by decide +kernel
theorem dX6_parts_65 : decode cX6_parts 65 = .ok (.ireturn, 1) := by decide +kernel
theorem dX6_parts_66 : decode cX6_parts 66 = .ok (.aload_n 0, 1) := by decide +kernel
theorem dX6_parts_67 : decode cX6_parts 67 = .ok (.iload_n 1, 1) := by decide +kernel
theorem dX6_parts_68 : decode cX6_parts 68 = .ok (.invokevirtual 329, 3) := by decide +kernel
theorem dX6_parts_71 : decode cX6_parts 71 = .ok (.ireturn, 1) := by decide +kernel
set_option maxRecDepth 20000 in
theorem ggX6_bitesPlain_X6_runs : GoodIn wsX6_bitesPlain wsX6_runs := goodIn_r _ [5, 6, 7, 31, 32, 33, 34, 35, 36, 37, 38, 39, 40, 41, 42, 43, 44, 45, 46, 47, 48, 49, 50, 51, 52, 53, 54, 55, 56, 57, 58] (by decide +kernel) (by decide +kernel)
set_option maxRecDepth 20000 in
theorem gX6_bitesPlain_X6_runs : GoodIn wsX6_bitesPlain (wsV RX6 302 RX6 yX6_runs wsX6_runs) := goodIn_app (goodIn_of _ (by decide +kernel)) ggX6_bitesPlain_X6_runs
set_option maxRecDepth 20000 in
theorem ggX6_bitesPlain_X6_crawls : GoodIn wsX6_bitesPlain wsX6_crawls := goodIn_r _ [11, 12, 13, 1, 2, 3, 4, 5, 6, 7, 14, 15, 16, 17, 18, 19, 20, 21, 22, 23, 24, 25, 26, 27, 28, 29, 30, 31, 32, 33, 34, 35, 36, 37, 38, 39, 40, 41, 42, 43, 44, 45, 46, 47, 48, 49, 50, 51, 52, 53, 54, 55, 56, 57, 58] (by decide +kernel) (by decide +kernel)
set_option maxRecDepth 20000 in
theorem gX6_bitesPlain_X6_crawls : GoodIn wsX6_bitesPlain (wsV RX6 332 RX6 yX6_crawls wsX6_crawls) := goodIn_app (goodIn_of _ (by decide +kernel)) ggX6_bitesPlain_X6_crawls
theorem dX6_bitesPlain_0 : decode cX6_bitesPlain 0 = .ok (.aload_n 0, 1) := by decide +kernel
theorem dX6_bitesPlain_1 : decode cX6_bitesPlain 1 = .ok (.bipush 13, 2) := by decide +kernel
theorem dX6_bitesPlain_3 : decode cX6_bitesPlain 3 = .ok (.invokevirtual 302, 3) := by decide +kernel
theorem dX6_bitesPlain_6 : decode cX6_bitesPlain 6 = .ok (.aload_n 0, 1) := by decide +kernel
theorem dX6_bitesPlain_7 : decode cX6_bitesPlain 7 = .ok (.iload_n 1, 1) := by decide +kernel
theorem dX6_bitesPlain_8 : decode cX6_bitesPlain 8 = .ok (.invokevirtual 332, 3) := by decide +kernel
theorem dX6_bitesPlain_11 : decode cX6_bitesPlain 11 = .ok (.bipush 120, 2) := by decide +kernel
theorem dX6_bitesPlain_13 : decode cX6_bitesPlain 13 = .ok (.ixor, 1) := by decide +kernel
theorem dX6_bitesPlain_14 : decode cX6_bitesPlain 14 = .ok (.ireturn, 1) := by decide +kernel
set_option maxRecDepth 20000 in
theorem ggX6_bites_X6_runs : GoodIn wsX6_bites wsX6_runs := goodIn_r _ [7, 8, 9, 44, 45, 46, 47, 48, 49, 50, 51, 52, 53, 54, 55, 56, 57, 58, 59, 60, 61, 62, 63, 64, 65, 66, 67, 68, 69, 70, 71] (by decide +kernel) (by decide +kernel)
set_option maxRecDepth 20000 in
theorem gX6_bites_X6_runs : GoodIn wsX6_bites (wsV RX6 302 RX6 yX6_runs wsX6_runs) := goodIn_app (goodIn_of _ (by decide +kernel)) ggX6_bites_X6_runs
set_option maxRecDepth 20000 in
theorem ggX6_bites_X6_bitesPlain : GoodIn wsX6_bites wsX6_bitesPlain := goodIn_r _ [13, 3, 4, 5, 6, 7, 8, 9, 14, 15, 16, 17, 1, 18, 19, 20, 21, 22, 23, 24, 25, 26, 27, 28, 29, 30, 31, 32, 33, 34, 2, 44, 45, 46, 47, 48, 49, 50, 51, 52, 53, 54, 55, 56, 57, 58, 59, 60, 61, 62, 63, 64, 65, 66, 67, 68, 69, 70, 71] (by decide +kernel) (by decide +kernel)
set_option maxRecDepth 20000 in
theorem gX6_bites_X6_bitesPlain : GoodIn wsX6_bites (wsV RX6 335 RX6 yX6_bitesPlain wsX6_bitesPlain) := goodIn_app (goodIn_of _ (by decide +kernel)) ggX6_bites_X6_bitesPlain
set_option maxRecDepth 20000 in
theorem ggX6_bites_X6_parts : GoodIn wsX6_bites wsX6_parts := goodIn_r _ [38, 1, 39, 2, 3, 4, 5, 6, 7, 8, 9, 40, 41, 42, 43, 18, 23, 24, 25, 26, 27, 28, 29, 30, 31, 32, 33, 34, 44, 45, 46, 47, 48, 49, 50, 51, 52, 53, 54, 55, 56, 57, 58, 59, 60, 61, 62, 63, 64, 65, 66, 67, 68, 69, 70, 71] (by decide +kernel) (by decide +kernel)
set_option maxRecDepth 20000 in
theorem gX6_bites_X6_parts : GoodIn wsX6_bites (wsV RX6 338 RX6 yX6_parts wsX6_parts) := goodIn_app (goodIn_of _ (by decide +kernel)) ggX6_bites_X6_parts
theorem dX6_bites_0 : decode cX6_bites 0 = .ok (.aload_n 0, 1) := by decide +kernel
theorem dX6_bites_1 : decode cX6_bites 1 = .ok (.getfield 311, 3) := by decide +kernel
theorem dX6_bites_4 : decode cX6_bites 4 = .ok (.iconst 2, 1) := by decide +kernel
theorem dX6_bites_5 : decode cX6_bites 5 = .ok (.if_icmp .eq 11, 3) := by decide +kernel
theorem dX6_bites_8 : decode cX6_bites 8 = .ok (.aload_n 0, 1) := by decide +kernel
theorem dX6_bites_9 : decode cX6_bites 9 = .ok (.getfield 311, 3) := by decide +kernel
theorem dX6_bites_12 : decode cX6_bites 12 = .ok (.iconst 4, 1) := by decide +kernel
theorem dX6_bites_13 : decode cX6_bites 13 = .ok (.if_icmp .ne 26, 3) := by decide +kernel
theorem dX6_bites_16 : decode cX6_bites 16 = .ok (.aload_n 0, 1) := by decide +kernel
theorem dX6_bites_17 : decode cX6_bites 17 = .ok (.bipush 31, 2) := by decide +kernel
theorem dX6_bites_19 : decode cX6_bites 19 = .ok (.invokevirtual 302, 3) := by decide +kernel
theorem dX6_bites_22 : decode cX6_bites 22 = .ok (.aload_n 0, 1) := by decide +kernel
theorem dX6_bites_23 : decode cX6_bites 23 = .ok (.iload_n 1, 1) := by decide +kernel
theorem dX6_bites_24 : decode cX6_bites 24 = .ok (.invokevirtual 335, 3) := by decide +kernel
theorem dX6_bites_27 : decode cX6_bites 27 = .ok (.istore_n 2, 1) := by decide +kernel
theorem dX6_bites_28 : decode cX6_bites 28 = .ok (.iload_n 2, 1) := by decide +kernel
theorem dX6_bites_29 : decode cX6_bites 29 = .ok (.aload_n 0, 1) := by decide +kernel
theorem dX6_bites_30 : decode cX6_bites 30 = .ok (.aload_n 0, 1) := by decide +kernel
theorem dX6_bites_31 : decode cX6_bites 31 = .ok (.getfield 305, 3) := by decide +kernel
theorem dX6_bites_34 : decode cX6_bites 34 = .ok (.invokevirtual 338, 3) := by decide +kernel
theorem dX6_bites_37 : decode cX6_bites 37 = .ok (.iadd, 1) := by decide +kernel
theorem dX6_bites_38 : decode cX6_bites 38 = .ok (.ireturn, 1) := by decide +kernel
theorem dX6_bites_39 : decode cX6_bites 39 = .ok (.aload_n 0, 1) := by decide +kernel
theorem dX6_bites_40 : decode cX6_bites 40 = .ok (.getfield 311, 3) := by decide +kernel
theorem dX6_bites_43 : decode cX6_bites 43 = .ok (.iconst 5, 1) := by decide +kernel
theorem dX6_bites_44 : decode cX6_bites 44 = .ok (.if_icmp .ne 18, 3) := by decide +kernel
theorem dX6_bites_47 : decode cX6_bites 47 = .ok (.aload_n 0, 1) := by decide +kernel
theorem dX6_bites_48 : decode cX6_bites 48 = .ok (.bipush 60, 2) := by decide +kernel
theorem dX6_bites_50 : decode cX6_bites 50 = .ok (.invokevirtual 302, 3) := by decide +kernel
theorem dX6_bites_53 : decode cX6_bites 53 = .ok (.bipush 7, 2) := by decide +kernel
theorem dX6_bites_55 : decode cX6_bites 55 = .ok (.aload_n 0, 1) := by decide +kernel
theorem dX6_bites_56 : decode cX6_bites 56 = .ok (.iload_n 1, 1) := by decide +kernel
theorem dX6_bites_57 : decode cX6_bites 57 = .ok (.invokevirtual 335, 3) := by decide +kernel
theorem dX6_bites_60 : decode cX6_bites 60 = .ok (.isub, 1) := by decide +kernel
theorem dX6_bites_61 : decode cX6_bites 61 = .ok (.ireturn, 1) := by decide +kernel
theorem dX6_bites_62 : decode cX6_bites 62 = .ok (.aload_n 0, 1) := by decide +kernel
theorem dX6_bites_63 : decode cX6_bites 63 = .ok (.iload_n 1, 1) := by decide +kernel
theorem dX6_bites_64 : decode cX6_bites 64 = .ok (.invokevirtual 335, 3) := by decide +kernel
theorem dX6_bites_67 : decode cX6_bites 67 = .ok (.ireturn, 1) := by decide +kernel
set_option maxRecDepth 20000 in
theorem ggX6_act_X6_isShelf : GoodIn wsX6_act wsX6_isShelf := goodIn_r _ [11, 2, 12, 13, 10, 14] (by decide +kernel) (by decide +kernel)
set_option maxRecDepth 20000 in
theorem gX6_act_X6_isShelf : GoodIn wsX6_act (va_wsS RX6 284 yX6_isShelf wsX6_isShelf) := goodIn_app (goodIn_of _ (by decide +kernel)) ggX6_act_X6_isShelf
set_option maxRecDepth 20000 in
theorem ggX6_act_X6_isIn : GoodIn wsX6_act wsX6_isIn := goodIn_r _ [14] (by decide +kernel) (by decide +kernel)
set_option maxRecDepth 20000 in
theorem gX6_act_X6_isIn : GoodIn wsX6_act (va_wsS RX6 60 yX6_isIn wsX6_isIn) := goodIn_app (goodIn_of _ (by decide +kernel)) ggX6_act_X6_isIn
set_option maxRecDepth 20000 in
theorem ggX6_act_X6_heldOn : GoodIn wsX6_act wsX6_heldOn := goodIn_r _ [18, 19, 4, 20, 21, 22, 10, 23, 24, 70, 71, 72, 73, 74, 75, 76, 77, 78, 79, 80, 81, 82, 83, 84, 85, 86, 87, 88, 89, 90, 91, 92, 93, 94, 95, 96, 97] (by decide +kernel) (by decide +kernel)
set_option maxRecDepth 20000 in
theorem gX6_act_X6_heldOn : GoodIn wsX6_act (wsV RX6 293 RX6 yX6_heldOn wsX6_heldOn) := goodIn_app (goodIn_of _ (by decide +kernel)) ggX6_act_X6_heldOn
set_option maxRecDepth 20000 in
theorem ggX6_act_X6_its : GoodIn wsX6_act wsX6_its := goodIn_r _ [28, 24, 70, 71, 72, 73, 74, 75, 76, 77, 78, 79, 80, 81, 82, 83, 84, 85, 86, 87, 88, 89, 90, 91, 92, 93, 94, 95, 96, 97] (by decide +kernel) (by decide +kernel)
set_option maxRecDepth 20000 in
theorem gX6_act_X6_its : GoodIn wsX6_act (wsV RX6 169 RX6 yX6_its wsX6_its) := goodIn_app (goodIn_of _ (by decide +kernel)) ggX6_act_X6_its
set_option maxRecDepth 20000 in
theorem ggX6_act_X6_itches : GoodIn wsX6_act wsX6_itches := goodIn_r _ [32, 5, 7, 33, 34, 35, 10, 36, 37, 38, 39, 40, 1, 41, 42, 43, 44, 45, 6, 70, 71, 72, 73, 74, 75, 76, 77, 78, 79, 80, 81, 82, 83, 84, 85, 86, 87, 88, 89, 90, 91, 92, 93, 94, 95, 96, 97] (by decide +kernel) (by decide +kernel)
set_option maxRecDepth 20000 in
theorem gX6_act_X6_itches : GoodIn wsX6_act (wsV RX6 320 RX6 yX6_itches wsX6_itches) := goodIn_app (goodIn_of _ (by decide +kernel)) ggX6_act_X6_itches
set_option maxRecDepth 20000 in
theorem ggX6_act_X6_crawls : GoodIn wsX6_act wsX6_crawls := goodIn_r _ [49, 5, 7, 37, 38, 39, 10, 40, 1, 41, 50, 51, 52, 53, 29, 30, 31, 32, 33, 34, 35, 36, 42, 43, 44, 45, 6, 70, 71, 72, 73, 74, 75, 76, 77, 78, 79, 80, 81, 82, 83, 84, 85, 86, 87, 88, 89, 90, 91, 92, 93, 94, 95, 96, 97] (by decide +kernel) (by decide +kernel)
set_option maxRecDepth 20000 in
theorem gX6_act_X6_crawls : GoodIn wsX6_act (wsV RX6 332 RX6 yX6_crawls wsX6_crawls) := goodIn_app (goodIn_of _ (by decide +kernel)) ggX6_act_X6_crawls
set_option maxRecDepth 20000 in
theorem ggX6_act_X6_parts : GoodIn wsX6_act wsX6_parts := goodIn_r _ [57, 5, 3, 6, 37, 38, 39, 10, 40, 1, 41, 58, 59, 60, 61, 7, 29, 30, 31, 32, 33, 34, 35, 36, 42, 43, 44, 45, 70, 71, 72, 73, 74, 75, 76, 77, 78, 79, 80, 81, 82, 83, 84, 85, 86, 87, 88, 89, 90, 91, 92, 93, 94, 95, 96, 97] (by decide +kernel) (by decide +kernel)
set_option maxRecDepth 20000 in
theorem gX6_act_X6_parts : GoodIn wsX6_act (wsV RX6 338 RX6 yX6_parts wsX6_parts) := goodIn_app (goodIn_of _ (by decide +kernel)) ggX6_act_X6_parts
set_option maxRecDepth 20000 in
theorem ggX6_act_X6_bites : GoodIn wsX6_act wsX6_bites := goodIn_r _ [65, 5, 6, 37, 38, 39, 10, 40, 1, 41, 66, 67, 68, 69, 46, 47, 48, 49, 7, 50, 51, 52, 53, 29, 30, 31, 32, 33, 34, 35, 36, 42, 43, 44, 45, 54, 55, 56, 57, 3, 58, 59, 60, 61, 70, 71, 72, 73, 74, 75, 76, 77, 78, 79, 80, 81, 82, 83, 84, 85, 86, 87, 88, 89, 90, 91, 92, 93, 94, 95, 96, 97] (by decide +kernel) (by decide +kernel)
set_option maxRecDepth 20000 in
theorem gX6_act_X6_bites : GoodIn wsX6_act (wsV RX6 341 RX6 yX6_bites wsX6_bites) := goodIn_app (goodIn_of _ (by decide +kernel)) ggX6_act_X6_bites
theorem dX6_act_0 : decode cX6_act 0 = .ok (.aload_n 0, 1) := by decide +kernel
theorem dX6_act_1 : decode cX6_act 1 = .ok (.iconst 0, 1) := by decide +kernel
theorem dX6_act_2 : decode cX6_act 2 = .ok (.putfield 299, 3) := by decide +kernel
theorem dX6_act_5 : decode cX6_act 5 = .ok (.iload_n 1, 1) := by decide +kernel
theorem dX6_act_6 : decode cX6_act 6 = .ok (.invokestatic 284, 3) := by decide +kernel
theorem dX6_act_9 : decode cX6_act 9 = .ok (.ifCond .eq 24, 3) := by decide +kernel
theorem dX6_act_12 : decode cX6_act 12 = .ok (.iload_n 2, 1) := by decide +kernel
theorem dX6_act_13 : decode cX6_act 13 = .ok (.i2l, 1) := by decide +kernel
theorem dX6_act_14 : decode cX6_act 14 = .ok (.lconst 0, 1) := by decide +kernel
theorem dX6_act_15 : decode cX6_act 15 = .ok (.ldc2_w 156, 3) := by decide +kernel
theorem dX6_act_18 : decode cX6_act 18 = .ok (.invokestatic 60, 3) := by decide +kernel
theorem dX6_act_21 : decode cX6_act 21 = .ok (.ifCond .eq 12, 3) := by decide +kernel
theorem dX6_act_24 : decode cX6_act 24 = .ok (.aload_n 0, 1) := by decide +kernel
theorem dX6_act_25 : decode cX6_act 25 = .ok (.iload_n 1, 1) := by decide +kernel
theorem dX6_act_26 : decode cX6_act 26 = .ok (.invokevirtual 293, 3) := by decide +kernel
theorem dX6_act_29 : decode cX6_act 29 = .ok (.iconst 1, 1) := by decide +kernel
theorem dX6_act_30 : decode cX6_act 30 = .ok (.if_icmp .eq 5, 3) := by decide +kernel
theorem dX6_act_33 : decode cX6_act 33 = .ok (.iconst 0, 1) := by decide +kernel
theorem dX6_act_34 : decode cX6_act 34 = .ok (.ireturn, 1) := by decide +kernel
theorem dX6_act_35 : decode cX6_act 35 = .ok (.aload_n 0, 1) := by decide +kernel
theorem dX6_act_36 : decode cX6_act 36 = .ok (.iconst 0, 1) := by decide +kernel
theorem dX6_act_37 : decode cX6_act 37 = .ok (.putfield 326, 3) := by decide +kernel
theorem dX6_act_40 : decode cX6_act 40 = .ok (.aload_n 0, 1) := by decide +kernel
theorem dX6_act_41 : decode cX6_act 41 = .ok (.aload_n 0, 1) := by decide +kernel
theorem dX6_act_42 : decode cX6_act 42 = .ok (.aload_n 0, 1) := by decide +kernel
theorem dX6_act_43 : decode cX6_act 43 = .ok (.getfield 46, 3) := by decide +kernel
theorem dX6_act_46 : decode cX6_act 46 = .ok (.iload_n 1, 1) := by decide +kernel
theorem dX6_act_47 : decode cX6_act 47 = .ok (.iaload, 1) := by decide +kernel
theorem dX6_act_48 : decode cX6_act 48 = .ok (.iconst 0, 1) := by decide +kernel
theorem dX6_act_49 : decode cX6_act 49 = .ok (.invokevirtual 169, 3) := by decide +kernel
theorem dX6_act_52 : decode cX6_act 52 = .ok (.putfield 311, 3) := by decide +kernel
theorem dX6_act_55 : decode cX6_act 55 = .ok (.aload_n 0, 1) := by decide +kernel
theorem dX6_act_56 : decode cX6_act 56 = .ok (.aload_n 0, 1) := by decide +kernel
theorem dX6_act_57 : decode cX6_act 57 = .ok (.getfield 46, 3) := by decide +kernel
theorem dX6_act_60 : decode cX6_act 60 = .ok (.iload_n 1, 1) := by decide +kernel
theorem dX6_act_61 : decode cX6_act 61 = .ok (.iaload, 1) := by decide +kernel
theorem dX6_act_62 : decode cX6_act 62 = .ok (.putfield 305, 3) := by decide +kernel
theorem dX6_act_65 : decode cX6_act 65 = .ok (.aload_n 0, 1) := by decide +kernel
theorem dX6_act_66 : decode cX6_act 66 = .ok (.aload_n 0, 1) := by decide +kernel
theorem dX6_act_67 : decode cX6_act 67 = .ok (.aload_n 0, 1) := by decide +kernel
theorem dX6_act_68 : decode cX6_act 68 = .ok (.getfield 46, 3) := by decide +kernel
theorem dX6_act_71 : decode cX6_act 71 = .ok (.iload_n 1, 1) := by decide +kernel
theorem dX6_act_72 : decode cX6_act 72 = .ok (.iaload, 1) := by decide +kernel
theorem dX6_act_73 : decode cX6_act 73 = .ok (.iconst 2, 1) := by decide +kernel
theorem dX6_act_74 : decode cX6_act 74 = .ok (.invokevirtual 169, 3) := by decide +kernel
theorem dX6_act_77 : decode cX6_act 77 = .ok (.putfield 317, 3) := by decide +kernel
theorem dX6_act_80 : decode cX6_act 80 = .ok (.iload_n 2, 1) := by decide +kernel
theorem dX6_act_81 : decode cX6_act 81 = .ok (.ifCond .ne 11, 3) := by decide +kernel
theorem dX6_act_84 : decode cX6_act 84 = .ok (.aload_n 0, 1) := by decide +kernel
theorem dX6_act_85 : decode cX6_act 85 = .ok (.iload_n 3, 1) := by decide +kernel
theorem dX6_act_86 : decode cX6_act 86 = .ok (.invokevirtual 320, 3) := by decide +kernel
theorem dX6_act_89 : decode cX6_act 89 = .ok (.goto 34, 3) := by decide +kernel
theorem dX6_act_92 : decode cX6_act 92 = .ok (.iload_n 2, 1) := by decide +kernel
theorem dX6_act_93 : decode cX6_act 93 = .ok (.iconst 1, 1) := by decide +kernel
theorem dX6_act_94 : decode cX6_act 94 = .ok (.if_icmp .ne 11, 3) := by decide +kernel
theorem dX6_act_97 : decode cX6_act 97 = .ok (.aload_n 0, 1) := by decide +kernel
theorem dX6_act_98 : decode cX6_act 98 = .ok (.iload_n 3, 1) := by decide +kernel
theorem dX6_act_99 : decode cX6_act 99 = .ok (.invokevirtual 332, 3) := by decide +kernel
theorem dX6_act_102 : decode cX6_act 102 = .ok (.goto 21, 3) := by decide +kernel
theorem dX6_act_105 : decode cX6_act 105 = .ok (.iload_n 2, 1) := by decide +kernel
theorem dX6_act_106 : decode cX6_act 106 = .ok (.iconst 2, 1) := by decide +kernel
theorem dX6_act_107 : decode cX6_act 107 = .ok (.if_icmp .ne 11, 3) := by decide +kernel
theorem dX6_act_110 : decode cX6_act 110 = .ok (.aload_n 0, 1) := by decide +kernel
theorem dX6_act_111 : decode cX6_act 111 = .ok (.iload_n 3, 1) := by decide +kernel
theorem dX6_act_112 : decode cX6_act 112 = .ok (.invokevirtual 338, 3) := by decide +kernel
theorem dX6_act_115 : decode cX6_act 115 = .ok (.goto 8, 3) := by decide +kernel
theorem dX6_act_118 : decode cX6_act 118 = .ok (.aload_n 0, 1) := by decide +kernel
theorem dX6_act_119 : decode cX6_act 119 = .ok (.iload_n 3, 1) := by decide +kernel
theorem dX6_act_120 : decode cX6_act 120 = .ok (.invokevirtual 341, 3) := by decide +kernel
theorem dX6_act_123 : decode cX6_act 123 = .ok (.istore 4, 2) := by decide +kernel
theorem dX6_act_125 : decode cX6_act 125 = .ok (.aload_n 0, 1) := by decide +kernel
theorem dX6_act_126 : decode cX6_act 126 = .ok (.getfield 326, 3) := by decide +kernel
theorem dX6_act_129 : decode cX6_act 129 = .ok (.ifCond .eq 8, 3) := by decide +kernel
theorem dX6_act_132 : decode cX6_act 132 = .ok (.bipush (-15), 2) := by decide +kernel
theorem dX6_act_134 : decode cX6_act 134 = .ok (.goto 5, 3) := by decide +kernel
theorem dX6_act_137 : decode cX6_act 137 = .ok (.iload 4, 2) := by decide +kernel
theorem dX6_act_139 : decode cX6_act 139 = .ok (.ireturn, 1) := by decide +kernel
set_option maxRecDepth 20000 in
theorem ggX6_trace_X6_isIn : GoodIn wsX6_trace wsX6_isIn := goodIn_r _ [6] (by decide +kernel) (by decide +kernel)
set_option maxRecDepth 20000 in
theorem gX6_trace_X6_isIn : GoodIn wsX6_trace (va_wsS RX6 60 yX6_isIn wsX6_isIn) := goodIn_app (goodIn_of _ (by decide +kernel)) ggX6_trace_X6_isIn
theorem dX6_trace_0 : decode cX6_trace 0 = .ok (.iload_n 1, 1) := by decide +kernel
theorem dX6_trace_1 : decode cX6_trace 1 = .ok (.i2l, 1) := by decide +kernel
theorem dX6_trace_2 : decode cX6_trace 2 = .ok (.lconst 0, 1) := by decide +kernel
theorem dX6_trace_3 : decode cX6_trace 3 = .ok (.aload_n 0, 1) := by decide +kernel
theorem dX6_trace_4 : decode cX6_trace 4 = .ok (.getfield 299, 3) := by decide +kernel
theorem dX6_trace_7 : decode cX6_trace 7 = .ok (.iconst 1, 1) := by decide +kernel
theorem dX6_trace_8 : decode cX6_trace 8 = .ok (.isub, 1) := by decide +kernel
theorem dX6_trace_9 : decode cX6_trace 9 = .ok (.i2l, 1) := by decide +kernel
theorem dX6_trace_10 : decode cX6_trace 10 = .ok (.invokestatic 60, 3) := by decide +kernel
theorem dX6_trace_13 : decode cX6_trace 13 = .ok (.ifCond .eq 12, 3) := by decide +kernel
theorem dX6_trace_16 : decode cX6_trace 16 = .ok (.aload_n 0, 1) := by decide +kernel
theorem dX6_trace_17 : decode cX6_trace 17 = .ok (.getfield 52, 3) := by decide +kernel
theorem dX6_trace_20 : decode cX6_trace 20 = .ok (.iload_n 1, 1) := by decide +kernel
theorem dX6_trace_21 : decode cX6_trace 21 = .ok (.iaload, 1) := by decide +kernel
theorem dX6_trace_22 : decode cX6_trace 22 = .ok (.goto 5, 3) := by decide +kernel
theorem dX6_trace_25 : decode cX6_trace 25 = .ok (.bipush (-3), 2) := by decide +kernel
theorem dX6_trace_27 : decode cX6_trace 27 = .ok (.ireturn, 1) := by decide +kernel
set_option maxRecDepth 20000 in
theorem ggX6_many_X6_dryOnes : GoodIn wsX6_many wsX6_dryOnes := goodIn_r _ [9, 1, 10, 11, 12, 8, 13, 21, 22, 23, 24, 25, 26, 27, 28, 29, 30, 31, 32, 33, 34, 35, 36, 37, 38, 39, 40, 41, 42, 43, 44, 45, 46, 47, 48] (by decide +kernel) (by decide +kernel)
set_option maxRecDepth 20000 in
theorem gX6_many_X6_dryOnes : GoodIn wsX6_many (wsV RX6 239 RX6 yX6_dryOnes wsX6_dryOnes) := goodIn_app (goodIn_of _ (by decide +kernel)) ggX6_many_X6_dryOnes
set_option maxRecDepth 20000 in
theorem ggX6_many_X6_size : GoodIn wsX6_many wsX6_size := goodIn_r _ [16] (by decide +kernel) (by decide +kernel)
set_option maxRecDepth 20000 in
theorem gX6_many_X6_size : GoodIn wsX6_many (va_wsS RX6 175 yX6_size wsX6_size) := goodIn_app (goodIn_of _ (by decide +kernel)) ggX6_many_X6_size
set_option maxRecDepth 20000 in
theorem ggX6_many_X6_marked : GoodIn wsX6_many wsX6_marked := goodIn_r _ [20, 1, 10, 11, 12, 8, 13, 21, 22, 23, 24, 25, 26, 27, 28, 29, 30, 31, 32, 33, 34, 35, 36, 37, 38, 39, 40, 41, 42, 43, 44, 45, 46, 47, 48] (by decide +kernel) (by decide +kernel)
set_option maxRecDepth 20000 in
theorem gX6_many_X6_marked : GoodIn wsX6_many (wsV RX6 218 RX6 yX6_marked wsX6_marked) := goodIn_app (goodIn_of _ (by decide +kernel)) ggX6_many_X6_marked
theorem dX6_many_0 : decode cX6_many 0 = .ok (.iconst 0, 1) := by decide +kernel
theorem dX6_many_1 : decode cX6_many 1 = .ok (.istore_n 2, 1) := by decide +kernel
theorem dX6_many_2 : decode cX6_many 2 = .ok (.iload_n 1, 1) := by decide +kernel
theorem dX6_many_3 : decode cX6_many 3 = .ok (.tableswitch 122 0 6 #[41, 48, 63, 71, 107, 112, 117], 41) := by decide +kernel
theorem dX6_many_44 : decode cX6_many 44 = .ok (.aload_n 0, 1) := by decide +kernel
theorem dX6_many_45 : decode cX6_many 45 = .ok (.getfield 7, 3) := by decide +kernel
theorem dX6_many_48 : decode cX6_many 48 = .ok (.iconst 0, 1) := by decide +kernel
theorem dX6_many_49 : decode cX6_many 49 = .ok (.iaload, 1) := by decide +kernel
theorem dX6_many_50 : decode cX6_many 50 = .ok (.ireturn, 1) := by decide +kernel
theorem dX6_many_51 : decode cX6_many 51 = .ok (.aload_n 0, 1) := by decide +kernel
theorem dX6_many_52 : decode cX6_many 52 = .ok (.getfield 7, 3) := by decide +kernel
theorem dX6_many_55 : decode cX6_many 55 = .ok (.iconst 0, 1) := by decide +kernel
theorem dX6_many_56 : decode cX6_many 56 = .ok (.iaload, 1) := by decide +kernel
theorem dX6_many_57 : decode cX6_many 57 = .ok (.aload_n 0, 1) := by decide +kernel
theorem dX6_many_58 : decode cX6_many 58 = .ok (.invokevirtual 239, 3) := by decide +kernel
theorem dX6_many_61 : decode cX6_many 61 = .ok (.invokestatic 175, 3) := by decide +kernel
theorem dX6_many_64 : decode cX6_many 64 = .ok (.isub, 1) := by decide +kernel
theorem dX6_many_65 : decode cX6_many 65 = .ok (.ireturn, 1) := by decide +kernel
theorem dX6_many_66 : decode cX6_many 66 = .ok (.aload_n 0, 1) := by decide +kernel
theorem dX6_many_67 : decode cX6_many 67 = .ok (.invokevirtual 218, 3) := by decide +kernel
theorem dX6_many_70 : decode cX6_many 70 = .ok (.invokestatic 175, 3) := by decide +kernel
theorem dX6_many_73 : decode cX6_many 73 = .ok (.ireturn, 1) := by decide +kernel
theorem dX6_many_74 : decode cX6_many 74 = .ok (.iconst 0, 1) := by decide +kernel
theorem dX6_many_75 : decode cX6_many 75 = .ok (.istore_n 3, 1) := by decide +kernel
theorem dX6_many_76 : decode cX6_many 76 = .ok (.iload_n 3, 1) := by decide +kernel
theorem dX6_many_77 : decode cX6_many 77 = .ok (.bipush 6, 2) := by decide +kernel
theorem dX6_many_79 : decode cX6_many 79 = .ok (.if_icmp .ge 29, 3) := by decide +kernel
theorem dX6_many_82 : decode cX6_many 82 = .ok (.iload_n 2, 1) := by decide +kernel
theorem dX6_many_83 : decode cX6_many 83 = .ok (.aload_n 0, 1) := by decide +kernel
theorem dX6_many_84 : decode cX6_many 84 = .ok (.getfield 7, 3) := by decide +kernel
theorem dX6_many_87 : decode cX6_many 87 = .ok (.bipush 7, 2) := by decide +kernel
theorem dX6_many_89 : decode cX6_many 89 = .ok (.iload_n 3, 1) := by decide +kernel
theorem dX6_many_90 : decode cX6_many 90 = .ok (.iadd, 1) := by decide +kernel
theorem dX6_many_91 : decode cX6_many 91 = .ok (.iaload, 1) := by decide +kernel
theorem dX6_many_92 : decode cX6_many 92 = .ok (.ifCond .ne 7, 3) := by decide +kernel
theorem dX6_many_95 : decode cX6_many 95 = .ok (.iconst 0, 1) := by decide +kernel
theorem dX6_many_96 : decode cX6_many 96 = .ok (.goto 4, 3) := by decide +kernel
theorem dX6_many_99 : decode cX6_many 99 = .ok (.iconst 1, 1) := by decide +kernel
theorem dX6_many_100 : decode cX6_many 100 = .ok (.iadd, 1) := by decide +kernel
theorem dX6_many_101 : decode cX6_many 101 = .ok (.istore_n 2, 1) := by decide +kernel
theorem dX6_many_102 : decode cX6_many 102 = .ok (.iinc 3 1, 3) := by decide +kernel
theorem dX6_many_105 : decode cX6_many 105 = .ok (.goto (-29), 3) := by decide +kernel
theorem dX6_many_108 : decode cX6_many 108 = .ok (.iload_n 2, 1) := by decide +kernel
theorem dX6_many_109 : decode cX6_many 109 = .ok (.ireturn, 1) := by decide +kernel
theorem dX6_many_110 : decode cX6_many 110 = .ok (.aload_n 0, 1) := by decide +kernel
theorem dX6_many_111 : decode cX6_many 111 = .ok (.getfield 153, 3) := by decide +kernel
theorem dX6_many_114 : decode cX6_many 114 = .ok (.ireturn, 1) := by decide +kernel
theorem dX6_many_115 : decode cX6_many 115 = .ok (.aload_n 0, 1) := by decide +kernel
theorem dX6_many_116 : decode cX6_many 116 = .ok (.getfield 64, 3) := by decide +kernel
theorem dX6_many_119 : decode cX6_many 119 = .ok (.ireturn, 1) := by decide +kernel
theorem dX6_many_120 : decode cX6_many 120 = .ok (.aload_n 0, 1) := by decide +kernel
theorem dX6_many_121 : decode cX6_many 121 = .ok (.getfield 299, 3) := by decide +kernel
theorem dX6_many_124 : decode cX6_many 124 = .ok (.ireturn, 1) := by decide +kernel
theorem dX6_many_125 : decode cX6_many 125 = .ok (.iconst (-1), 1) := by decide +kernel
theorem dX6_many_126 : decode cX6_many 126 = .ok (.ireturn, 1) := by decide +kernel
theorem dX6_keep_0 : decode cX6_keep 0 = .ok (.iconst 0, 1) := by decide +kernel
theorem dX6_keep_1 : decode cX6_keep 1 = .ok (.istore_n 1, 1) := by decide +kernel
theorem dX6_keep_2 : decode cX6_keep 2 = .ok (.iload_n 1, 1) := by decide +kernel
theorem dX6_keep_3 : decode cX6_keep 3 = .ok (.bipush 43, 2) := by decide +kernel
theorem dX6_keep_5 : decode cX6_keep 5 = .ok (.if_icmp .ge 21, 3) := by decide +kernel
theorem dX6_keep_8 : decode cX6_keep 8 = .ok (.aload_n 0, 1) := by decide +kernel
theorem dX6_keep_9 : decode cX6_keep 9 = .ok (.getfield 13, 3) := by decide +kernel
theorem dX6_keep_12 : decode cX6_keep 12 = .ok (.iload_n 1, 1) := by decide +kernel
theorem dX6_keep_13 : decode cX6_keep 13 = .ok (.aload_n 0, 1) := by decide +kernel
theorem dX6_keep_14 : decode cX6_keep 14 = .ok (.getfield 7, 3) := by decide +kernel
theorem dX6_keep_17 : decode cX6_keep 17 = .ok (.iload_n 1, 1) := by decide +kernel
theorem dX6_keep_18 : decode cX6_keep 18 = .ok (.iaload, 1) := by decide +kernel
theorem dX6_keep_19 : decode cX6_keep 19 = .ok (.iastore, 1) := by decide +kernel
theorem dX6_keep_20 : decode cX6_keep 20 = .ok (.iinc 1 1, 3) := by decide +kernel
theorem dX6_keep_23 : decode cX6_keep 23 = .ok (.goto (-21), 3) := by decide +kernel
theorem dX6_keep_26 : decode cX6_keep 26 = .ok (.aload_n 0, 1) := by decide +kernel
theorem dX6_keep_27 : decode cX6_keep 27 = .ok (.iconst 1, 1) := by decide +kernel
theorem dX6_keep_28 : decode cX6_keep 28 = .ok (.putfield 344, 3) := by decide +kernel
theorem dX6_keep_31 : decode cX6_keep 31 = .ok (.iconst 1, 1) := by decide +kernel
theorem dX6_keep_32 : decode cX6_keep 32 = .ok (.ireturn, 1) := by decide +kernel
theorem dX6_again_0 : decode cX6_again 0 = .ok (.aload_n 0, 1) := by decide +kernel
theorem dX6_again_1 : decode cX6_again 1 = .ok (.getfield 344, 3) := by decide +kernel
theorem dX6_again_4 : decode cX6_again 4 = .ok (.ifCond .ne 6, 3) := by decide +kernel
theorem dX6_again_7 : decode cX6_again 7 = .ok (.bipush (-3), 2) := by decide +kernel
theorem dX6_again_9 : decode cX6_again 9 = .ok (.ireturn, 1) := by decide +kernel
theorem dX6_again_10 : decode cX6_again 10 = .ok (.iconst 0, 1) := by decide +kernel
theorem dX6_again_11 : decode cX6_again 11 = .ok (.istore_n 1, 1) := by decide +kernel
theorem dX6_again_12 : decode cX6_again 12 = .ok (.iload_n 1, 1) := by decide +kernel
theorem dX6_again_13 : decode cX6_again 13 = .ok (.bipush 43, 2) := by decide +kernel
theorem dX6_again_15 : decode cX6_again 15 = .ok (.if_icmp .ge 21, 3) := by decide +kernel
theorem dX6_again_18 : decode cX6_again 18 = .ok (.aload_n 0, 1) := by decide +kernel
theorem dX6_again_19 : decode cX6_again 19 = .ok (.getfield 7, 3) := by decide +kernel
theorem dX6_again_22 : decode cX6_again 22 = .ok (.iload_n 1, 1) := by decide +kernel
theorem dX6_again_23 : decode cX6_again 23 = .ok (.aload_n 0, 1) := by decide +kernel
theorem dX6_again_24 : decode cX6_again 24 = .ok (.getfield 13, 3) := by decide +kernel
theorem dX6_again_27 : decode cX6_again 27 = .ok (.iload_n 1, 1) := by decide +kernel
theorem dX6_again_28 : decode cX6_again 28 = .ok (.iaload, 1) := by decide +kernel
theorem dX6_again_29 : decode cX6_again 29 = .ok (.iastore, 1) := by decide +kernel
theorem dX6_again_30 : decode cX6_again 30 = .ok (.iinc 1 1, 3) := by decide +kernel
theorem dX6_again_33 : decode cX6_again 33 = .ok (.goto (-21), 3) := by decide +kernel
theorem dX6_again_36 : decode cX6_again 36 = .ok (.aload_n 0, 1) := by decide +kernel
theorem dX6_again_37 : decode cX6_again 37 = .ok (.getfield 7, 3) := by decide +kernel
theorem dX6_again_40 : decode cX6_again 40 = .ok (.iconst 0, 1) := by decide +kernel
theorem dX6_again_41 : decode cX6_again 41 = .ok (.iaload, 1) := by decide +kernel
theorem dX6_again_42 : decode cX6_again 42 = .ok (.ireturn, 1) := by decide +kernel
