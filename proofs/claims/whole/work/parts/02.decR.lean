theorem dX8_init_0 : decode cX8_init 0 = .ok (.aload_n 0, 1) := by decide +kernel
theorem dX8_init_1 : decode cX8_init 1 = .ok (.invokespecial 1, 3) := by decide +kernel
theorem dX8_init_4 : decode cX8_init 4 = .ok (.aload_n 0, 1) := by decide +kernel
theorem dX8_init_5 : decode cX8_init 5 = .ok (.bipush 13, 2) := by decide +kernel
theorem dX8_init_7 : decode cX8_init 7 = .ok (.newarray .int, 2) := by decide +kernel
theorem dX8_init_9 : decode cX8_init 9 = .ok (.dup, 1) := by decide +kernel
theorem dX8_init_10 : decode cX8_init 10 = .ok (.iconst 0, 1) := by decide +kernel
theorem dX8_init_11 : decode cX8_init 11 = .ok (.iconst (-1), 1) := by decide +kernel
theorem dX8_init_12 : decode cX8_init 12 = .ok (.iastore, 1) := by decide +kernel
theorem dX8_init_13 : decode cX8_init 13 = .ok (.dup, 1) := by decide +kernel
theorem dX8_init_14 : decode cX8_init 14 = .ok (.iconst 1, 1) := by decide +kernel
theorem dX8_init_15 : decode cX8_init 15 = .ok (.iconst 0, 1) := by decide +kernel
theorem dX8_init_16 : decode cX8_init 16 = .ok (.iastore, 1) := by decide +kernel
theorem dX8_init_17 : decode cX8_init 17 = .ok (.dup, 1) := by decide +kernel
theorem dX8_init_18 : decode cX8_init 18 = .ok (.iconst 2, 1) := by decide +kernel
theorem dX8_init_19 : decode cX8_init 19 = .ok (.iconst 1, 1) := by decide +kernel
theorem dX8_init_20 : decode cX8_init 20 = .ok (.iastore, 1) := by decide +kernel
theorem dX8_init_21 : decode cX8_init 21 = .ok (.dup, 1) := by decide +kernel
theorem dX8_init_22 : decode cX8_init 22 = .ok (.iconst 3, 1) := by decide +kernel
theorem dX8_init_23 : decode cX8_init 23 = .ok (.iconst 2, 1) := by decide +kernel
theorem dX8_init_24 : decode cX8_init 24 = .ok (.iastore, 1) := by decide +kernel
theorem dX8_init_25 : decode cX8_init 25 = .ok (.dup, 1) := by decide +kernel
theorem dX8_init_26 : decode cX8_init 26 = .ok (.iconst 4, 1) := by decide +kernel
theorem dX8_init_27 : decode cX8_init 27 = .ok (.iconst 3, 1) := by decide +kernel
theorem dX8_init_28 : decode cX8_init 28 = .ok (.iastore, 1) := by decide +kernel
theorem dX8_init_29 : decode cX8_init 29 = .ok (.dup, 1) := by decide +kernel
theorem dX8_init_30 : decode cX8_init 30 = .ok (.iconst 5, 1) := by decide +kernel
theorem dX8_init_31 : decode cX8_init 31 = .ok (.iconst 0, 1) := by decide +kernel
theorem dX8_init_32 : decode cX8_init 32 = .ok (.iastore, 1) := by decide +kernel
theorem dX8_init_33 : decode cX8_init 33 = .ok (.dup, 1) := by decide +kernel
theorem dX8_init_34 : decode cX8_init 34 = .ok (.bipush 6, 2) := by decide +kernel
theorem dX8_init_36 : decode cX8_init 36 = .ok (.iconst 5, 1) := by decide +kernel
theorem dX8_init_37 : decode cX8_init 37 = .ok (.iastore, 1) := by decide +kernel
theorem dX8_init_38 : decode cX8_init 38 = .ok (.dup, 1) := by decide +kernel
theorem dX8_init_39 : decode cX8_init 39 = .ok (.bipush 7, 2) := by decide +kernel
theorem dX8_init_41 : decode cX8_init 41 = .ok (.bipush 6, 2) := by decide +kernel
theorem dX8_init_43 : decode cX8_init 43 = .ok (.iastore, 1) := by decide +kernel
theorem dX8_init_44 : decode cX8_init 44 = .ok (.dup, 1) := by decide +kernel
theorem dX8_init_45 : decode cX8_init 45 = .ok (.bipush 8, 2) := by decide +kernel
theorem dX8_init_47 : decode cX8_init 47 = .ok (.bipush 7, 2) := by decide +kernel
theorem dX8_init_49 : decode cX8_init 49 = .ok (.iastore, 1) := by decide +kernel
theorem dX8_init_50 : decode cX8_init 50 = .ok (.dup, 1) := by decide +kernel
theorem dX8_init_51 : decode cX8_init 51 = .ok (.bipush 9, 2) := by decide +kernel
theorem dX8_init_53 : decode cX8_init 53 = .ok (.iconst 0, 1) := by decide +kernel
theorem dX8_init_54 : decode cX8_init 54 = .ok (.iastore, 1) := by decide +kernel
theorem dX8_init_55 : decode cX8_init 55 = .ok (.dup, 1) := by decide +kernel
theorem dX8_init_56 : decode cX8_init 56 = .ok (.bipush 10, 2) := by decide +kernel
theorem dX8_init_58 : decode cX8_init 58 = .ok (.bipush 9, 2) := by decide +kernel
theorem dX8_init_60 : decode cX8_init 60 = .ok (.iastore, 1) := by decide +kernel
theorem dX8_init_61 : decode cX8_init 61 = .ok (.dup, 1) := by decide +kernel
theorem dX8_init_62 : decode cX8_init 62 = .ok (.bipush 11, 2) := by decide +kernel
theorem dX8_init_64 : decode cX8_init 64 = .ok (.bipush 12, 2) := by decide +kernel
theorem dX8_init_66 : decode cX8_init 66 = .ok (.iastore, 1) := by decide +kernel
theorem dX8_init_67 : decode cX8_init 67 = .ok (.dup, 1) := by decide +kernel
theorem dX8_init_68 : decode cX8_init 68 = .ok (.bipush 12, 2) := by decide +kernel
theorem dX8_init_70 : decode cX8_init 70 = .ok (.iconst (-1), 1) := by decide +kernel
theorem dX8_init_71 : decode cX8_init 71 = .ok (.iastore, 1) := by decide +kernel
theorem dX8_init_72 : decode cX8_init 72 = .ok (.putfield 7, 3) := by decide +kernel
theorem dX8_init_75 : decode cX8_init 75 = .ok (.aload_n 0, 1) := by decide +kernel
theorem dX8_init_76 : decode cX8_init 76 = .ok (.bipush 8, 2) := by decide +kernel
theorem dX8_init_78 : decode cX8_init 78 = .ok (.newarray .int, 2) := by decide +kernel
theorem dX8_init_80 : decode cX8_init 80 = .ok (.dup, 1) := by decide +kernel
theorem dX8_init_81 : decode cX8_init 81 = .ok (.iconst 0, 1) := by decide +kernel
theorem dX8_init_82 : decode cX8_init 82 = .ok (.iconst 0, 1) := by decide +kernel
theorem dX8_init_83 : decode cX8_init 83 = .ok (.iastore, 1) := by decide +kernel
theorem dX8_init_84 : decode cX8_init 84 = .ok (.dup, 1) := by decide +kernel
theorem dX8_init_85 : decode cX8_init 85 = .ok (.iconst 1, 1) := by decide +kernel
theorem dX8_init_86 : decode cX8_init 86 = .ok (.iconst 1, 1) := by decide +kernel
theorem dX8_init_87 : decode cX8_init 87 = .ok (.iastore, 1) := by decide +kernel
theorem dX8_init_88 : decode cX8_init 88 = .ok (.dup, 1) := by decide +kernel
theorem dX8_init_89 : decode cX8_init 89 = .ok (.iconst 2, 1) := by decide +kernel
theorem dX8_init_90 : decode cX8_init 90 = .ok (.iconst 2, 1) := by decide +kernel
theorem dX8_init_91 : decode cX8_init 91 = .ok (.iastore, 1) := by decide +kernel
theorem dX8_init_92 : decode cX8_init 92 = .ok (.dup, 1) := by decide +kernel
theorem dX8_init_93 : decode cX8_init 93 = .ok (.iconst 3, 1) := by decide +kernel
theorem dX8_init_94 : decode cX8_init 94 = .ok (.bipush 7, 2) := by decide +kernel
theorem dX8_init_96 : decode cX8_init 96 = .ok (.iastore, 1) := by decide +kernel
theorem dX8_init_97 : decode cX8_init 97 = .ok (.dup, 1) := by decide +kernel
theorem dX8_init_98 : decode cX8_init 98 = .ok (.iconst 4, 1) := by decide +kernel
theorem dX8_init_99 : decode cX8_init 99 = .ok (.bipush 12, 2) := by decide +kernel
theorem dX8_init_101 : decode cX8_init 101 = .ok (.iastore, 1) := by decide +kernel
theorem dX8_init_102 : decode cX8_init 102 = .ok (.dup, 1) := by decide +kernel
theorem dX8_init_103 : decode cX8_init 103 = .ok (.iconst 5, 1) := by decide +kernel
theorem dX8_init_104 : decode cX8_init 104 = .ok (.bipush 10, 2) := by decide +kernel
theorem dX8_init_106 : decode cX8_init 106 = .ok (.iastore, 1) := by decide +kernel
theorem dX8_init_107 : decode cX8_init 107 = .ok (.dup, 1) := by decide +kernel
theorem dX8_init_108 : decode cX8_init 108 = .ok (.bipush 6, 2) := by decide +kernel
theorem dX8_init_110 : decode cX8_init 110 = .ok (.iconst 0, 1) := by decide +kernel
theorem dX8_init_111 : decode cX8_init 111 = .ok (.iastore, 1) := by decide +kernel
theorem dX8_init_112 : decode cX8_init 112 = .ok (.dup, 1) := by decide +kernel
theorem dX8_init_113 : decode cX8_init 113 = .ok (.bipush 7, 2) := by decide +kernel
theorem dX8_init_115 : decode cX8_init 115 = .ok (.iconst 2, 1) := by decide +kernel
theorem dX8_init_116 : decode cX8_init 116 = .ok (.iastore, 1) := by decide +kernel
theorem dX8_init_117 : decode cX8_init 117 = .ok (.putfield 13, 3) := by decide +kernel
theorem dX8_init_120 : decode cX8_init 120 = .ok (.aload_n 0, 1) := by decide +kernel
theorem dX8_init_121 : decode cX8_init 121 = .ok (.sipush 557, 3) := by decide +kernel
theorem dX8_init_124 : decode cX8_init 124 = .ok (.newarray .int, 2) := by decide +kernel
theorem dX8_init_126 : decode cX8_init 126 = .ok (.putfield 16, 3) := by decide +kernel
theorem dX8_init_129 : decode cX8_init 129 = .ok (.aload_n 0, 1) := by decide +kernel
theorem dX8_init_130 : decode cX8_init 130 = .ok (.sipush 720, 3) := by decide +kernel
theorem dX8_init_133 : decode cX8_init 133 = .ok (.newarray .long, 2) := by decide +kernel
theorem dX8_init_135 : decode cX8_init 135 = .ok (.putfield 19, 3) := by decide +kernel
theorem dX8_init_138 : decode cX8_init 138 = .ok (.aload_n 0, 1) := by decide +kernel
theorem dX8_init_139 : decode cX8_init 139 = .ok (.sipush 557, 3) := by decide +kernel
theorem dX8_init_142 : decode cX8_init 142 = .ok (.newarray .int, 2) := by decide +kernel
theorem dX8_init_144 : decode cX8_init 144 = .ok (.putfield 23, 3) := by decide +kernel
theorem dX8_init_147 : decode cX8_init 147 = .ok (.aload_n 0, 1) := by decide +kernel
theorem dX8_init_148 : decode cX8_init 148 = .ok (.sipush 720, 3) := by decide +kernel
theorem dX8_init_151 : decode cX8_init 151 = .ok (.newarray .long, 2) := by decide +kernel
theorem dX8_init_153 : decode cX8_init 153 = .ok (.putfield 26, 3) := by decide +kernel
theorem dX8_init_156 : decode cX8_init 156 = .ok (.aload_n 0, 1) := by decide +kernel
theorem dX8_init_157 : decode cX8_init 157 = .ok (.sipush 3078, 3) := by decide +kernel
theorem dX8_init_160 : decode cX8_init 160 = .ok (.newarray .int, 2) := by decide +kernel
theorem dX8_init_162 : decode cX8_init 162 = .ok (.putfield 29, 3) := by decide +kernel
theorem dX8_init_165 : decode cX8_init 165 = .ok (.aload_n 0, 1) := by decide +kernel
theorem dX8_init_166 : decode cX8_init 166 = .ok (.sipush 513, 3) := by decide +kernel
theorem dX8_init_169 : decode cX8_init 169 = .ok (.newarray .long, 2) := by decide +kernel
theorem dX8_init_171 : decode cX8_init 171 = .ok (.putfield 32, 3) := by decide +kernel
theorem dX8_init_174 : decode cX8_init 174 = .ok (.aload_n 0, 1) := by decide +kernel
theorem dX8_init_175 : decode cX8_init 175 = .ok (.sipush 3078, 3) := by decide +kernel
theorem dX8_init_178 : decode cX8_init 178 = .ok (.newarray .int, 2) := by decide +kernel
theorem dX8_init_180 : decode cX8_init 180 = .ok (.putfield 35, 3) := by decide +kernel
theorem dX8_init_183 : decode cX8_init 183 = .ok (.aload_n 0, 1) := by decide +kernel
theorem dX8_init_184 : decode cX8_init 184 = .ok (.sipush 513, 3) := by decide +kernel
theorem dX8_init_187 : decode cX8_init 187 = .ok (.newarray .long, 2) := by decide +kernel
theorem dX8_init_189 : decode cX8_init 189 = .ok (.putfield 38, 3) := by decide +kernel
theorem dX8_init_192 : decode cX8_init 192 = .ok (.aload_n 0, 1) := by decide +kernel
theorem dX8_init_193 : decode cX8_init 193 = .ok (.bipush 12, 2) := by decide +kernel
theorem dX8_init_195 : decode cX8_init 195 = .ok (.newarray .long, 2) := by decide +kernel
theorem dX8_init_197 : decode cX8_init 197 = .ok (.putfield 41, 3) := by decide +kernel
theorem dX8_init_200 : decode cX8_init 200 = .ok (.aload_n 0, 1) := by decide +kernel
theorem dX8_init_201 : decode cX8_init 201 = .ok (.bipush 6, 2) := by decide +kernel
theorem dX8_init_203 : decode cX8_init 203 = .ok (.newarray .int, 2) := by decide +kernel
theorem dX8_init_205 : decode cX8_init 205 = .ok (.putfield 44, 3) := by decide +kernel
theorem dX8_init_208 : decode cX8_init 208 = .ok (.return_, 1) := by decide +kernel
theorem dX8_isPartUnder_0 : decode cX8_isPartUnder 0 = .ok (.iload_n 1, 1) := by decide +kernel
theorem dX8_isPartUnder_1 : decode cX8_isPartUnder 1 = .ok (.bipush 10, 2) := by decide +kernel
theorem dX8_isPartUnder_3 : decode cX8_isPartUnder 3 = .ok (.if_icmp .ne 11, 3) := by decide +kernel
theorem dX8_isPartUnder_6 : decode cX8_isPartUnder 6 = .ok (.iload_n 2, 1) := by decide +kernel
theorem dX8_isPartUnder_7 : decode cX8_isPartUnder 7 = .ok (.bipush 12, 2) := by decide +kernel
theorem dX8_isPartUnder_9 : decode cX8_isPartUnder 9 = .ok (.if_icmp .ne 5, 3) := by decide +kernel
theorem dX8_isPartUnder_12 : decode cX8_isPartUnder 12 = .ok (.iconst 1, 1) := by decide +kernel
theorem dX8_isPartUnder_13 : decode cX8_isPartUnder 13 = .ok (.ireturn, 1) := by decide +kernel
theorem dX8_isPartUnder_14 : decode cX8_isPartUnder 14 = .ok (.iload_n 1, 1) := by decide +kernel
theorem dX8_isPartUnder_15 : decode cX8_isPartUnder 15 = .ok (.istore_n 3, 1) := by decide +kernel
theorem dX8_isPartUnder_16 : decode cX8_isPartUnder 16 = .ok (.iconst 0, 1) := by decide +kernel
theorem dX8_isPartUnder_17 : decode cX8_isPartUnder 17 = .ok (.istore 4, 2) := by decide +kernel
theorem dX8_isPartUnder_19 : decode cX8_isPartUnder 19 = .ok (.iload 4, 2) := by decide +kernel
theorem dX8_isPartUnder_21 : decode cX8_isPartUnder 21 = .ok (.bipush 6, 2) := by decide +kernel
theorem dX8_isPartUnder_23 : decode cX8_isPartUnder 23 = .ok (.if_icmp .ge 27, 3) := by decide +kernel
theorem dX8_isPartUnder_26 : decode cX8_isPartUnder 26 = .ok (.iload_n 3, 1) := by decide +kernel
theorem dX8_isPartUnder_27 : decode cX8_isPartUnder 27 = .ok (.ifCond .lt 23, 3) := by decide +kernel
theorem dX8_isPartUnder_30 : decode cX8_isPartUnder 30 = .ok (.iload_n 3, 1) := by decide +kernel
theorem dX8_isPartUnder_31 : decode cX8_isPartUnder 31 = .ok (.iload_n 2, 1) := by decide +kernel
theorem dX8_isPartUnder_32 : decode cX8_isPartUnder 32 = .ok (.if_icmp .ne 5, 3) := by decide +kernel
theorem dX8_isPartUnder_35 : decode cX8_isPartUnder 35 = .ok (.iconst 1, 1) := by decide +kernel
theorem dX8_isPartUnder_36 : decode cX8_isPartUnder 36 = .ok (.ireturn, 1) := by decide +kernel
theorem dX8_isPartUnder_37 : decode cX8_isPartUnder 37 = .ok (.aload_n 0, 1) := by decide +kernel
theorem dX8_isPartUnder_38 : decode cX8_isPartUnder 38 = .ok (.getfield 7, 3) := by decide +kernel
theorem dX8_isPartUnder_41 : decode cX8_isPartUnder 41 = .ok (.iload_n 3, 1) := by decide +kernel
theorem dX8_isPartUnder_42 : decode cX8_isPartUnder 42 = .ok (.iaload, 1) := by decide +kernel
theorem dX8_isPartUnder_43 : decode cX8_isPartUnder 43 = .ok (.istore_n 3, 1) := by decide +kernel
theorem dX8_isPartUnder_44 : decode cX8_isPartUnder 44 = .ok (.iinc 4 1, 3) := by decide +kernel
theorem dX8_isPartUnder_47 : decode cX8_isPartUnder 47 = .ok (.goto (-28), 3) := by decide +kernel
theorem dX8_isPartUnder_50 : decode cX8_isPartUnder 50 = .ok (.iconst 0, 1) := by decide +kernel
theorem dX8_isPartUnder_51 : decode cX8_isPartUnder 51 = .ok (.ireturn, 1) := by decide +kernel
theorem dX8_isRowOf_0 : decode cX8_isRowOf 0 = .ok (.iload_n 0, 1) := by decide +kernel
theorem dX8_isRowOf_1 : decode cX8_isRowOf 1 = .ok (.bipush 17, 2) := by decide +kernel
theorem dX8_isRowOf_3 : decode cX8_isRowOf 3 = .ok (.if_icmp .lt 13, 3) := by decide +kernel
theorem dX8_isRowOf_6 : decode cX8_isRowOf 6 = .ok (.iload_n 0, 1) := by decide +kernel
theorem dX8_isRowOf_7 : decode cX8_isRowOf 7 = .ok (.bipush 22, 2) := by decide +kernel
theorem dX8_isRowOf_9 : decode cX8_isRowOf 9 = .ok (.if_icmp .gt 7, 3) := by decide +kernel
theorem dX8_isRowOf_12 : decode cX8_isRowOf 12 = .ok (.iconst 1, 1) := by decide +kernel
theorem dX8_isRowOf_13 : decode cX8_isRowOf 13 = .ok (.goto 4, 3) := by decide +kernel
theorem dX8_isRowOf_16 : decode cX8_isRowOf 16 = .ok (.iconst 0, 1) := by decide +kernel
theorem dX8_isRowOf_17 : decode cX8_isRowOf 17 = .ok (.ireturn, 1) := by decide +kernel
theorem dX8_isBoard_0 : decode cX8_isBoard 0 = .ok (.iload_n 0, 1) := by decide +kernel
theorem dX8_isBoard_1 : decode cX8_isBoard 1 = .ok (.bipush 23, 2) := by decide +kernel
theorem dX8_isBoard_3 : decode cX8_isBoard 3 = .ok (.if_icmp .eq 9, 3) := by decide +kernel
theorem dX8_isBoard_6 : decode cX8_isBoard 6 = .ok (.iload_n 0, 1) := by decide +kernel
theorem dX8_isBoard_7 : decode cX8_isBoard 7 = .ok (.bipush 24, 2) := by decide +kernel
theorem dX8_isBoard_9 : decode cX8_isBoard 9 = .ok (.if_icmp .ne 7, 3) := by decide +kernel
theorem dX8_isBoard_12 : decode cX8_isBoard 12 = .ok (.iconst 1, 1) := by decide +kernel
theorem dX8_isBoard_13 : decode cX8_isBoard 13 = .ok (.goto 4, 3) := by decide +kernel
theorem dX8_isBoard_16 : decode cX8_isBoard 16 = .ok (.iconst 0, 1) := by decide +kernel
theorem dX8_isBoard_17 : decode cX8_isBoard 17 = .ok (.ireturn, 1) := by decide +kernel
theorem dX8_isNumberRow_0 : decode cX8_isNumberRow 0 = .ok (.iload_n 0, 1) := by decide +kernel
theorem dX8_isNumberRow_1 : decode cX8_isNumberRow 1 = .ok (.bipush 13, 2) := by decide +kernel
theorem dX8_isNumberRow_3 : decode cX8_isNumberRow 3 = .ok (.if_icmp .lt 13, 3) := by decide +kernel
theorem dX8_isNumberRow_6 : decode cX8_isNumberRow 6 = .ok (.iload_n 0, 1) := by decide +kernel
theorem dX8_isNumberRow_7 : decode cX8_isNumberRow 7 = .ok (.bipush 15, 2) := by decide +kernel
theorem dX8_isNumberRow_9 : decode cX8_isNumberRow 9 = .ok (.if_icmp .gt 7, 3) := by decide +kernel
theorem dX8_isNumberRow_12 : decode cX8_isNumberRow 12 = .ok (.iconst 1, 1) := by decide +kernel
theorem dX8_isNumberRow_13 : decode cX8_isNumberRow 13 = .ok (.goto 4, 3) := by decide +kernel
theorem dX8_isNumberRow_16 : decode cX8_isNumberRow 16 = .ok (.iconst 0, 1) := by decide +kernel
theorem dX8_isNumberRow_17 : decode cX8_isNumberRow 17 = .ok (.ireturn, 1) := by decide +kernel
theorem dX8_isRowOfThings_0 : decode cX8_isRowOfThings 0 = .ok (.iload_n 0, 1) := by decide +kernel
theorem dX8_isRowOfThings_1 : decode cX8_isRowOfThings 1 = .ok (.bipush 16, 2) := by decide +kernel
theorem dX8_isRowOfThings_3 : decode cX8_isRowOfThings 3 = .ok (.if_icmp .lt 13, 3) := by decide +kernel
theorem dX8_isRowOfThings_6 : decode cX8_isRowOfThings 6 = .ok (.iload_n 0, 1) := by decide +kernel
theorem dX8_isRowOfThings_7 : decode cX8_isRowOfThings 7 = .ok (.bipush 24, 2) := by decide +kernel
theorem dX8_isRowOfThings_9 : decode cX8_isRowOfThings 9 = .ok (.if_icmp .gt 7, 3) := by decide +kernel
theorem dX8_isRowOfThings_12 : decode cX8_isRowOfThings 12 = .ok (.iconst 1, 1) := by decide +kernel
theorem dX8_isRowOfThings_13 : decode cX8_isRowOfThings 13 = .ok (.goto 4, 3) := by decide +kernel
theorem dX8_isRowOfThings_16 : decode cX8_isRowOfThings 16 = .ok (.iconst 0, 1) := by decide +kernel
theorem dX8_isRowOfThings_17 : decode cX8_isRowOfThings 17 = .ok (.ireturn, 1) := by decide +kernel
theorem dX8_memberOf_0 : decode cX8_memberOf 0 = .ok (.aload_n 0, 1) := by decide +kernel
theorem dX8_memberOf_1 : decode cX8_memberOf 1 = .ok (.getfield 13, 3) := by decide +kernel
theorem dX8_memberOf_4 : decode cX8_memberOf 4 = .ok (.iload_n 1, 1) := by decide +kernel
theorem dX8_memberOf_5 : decode cX8_memberOf 5 = .ok (.bipush 17, 2) := by decide +kernel
theorem dX8_memberOf_7 : decode cX8_memberOf 7 = .ok (.isub, 1) := by decide +kernel
theorem dX8_memberOf_8 : decode cX8_memberOf 8 = .ok (.iaload, 1) := by decide +kernel
theorem dX8_memberOf_9 : decode cX8_memberOf 9 = .ok (.ireturn, 1) := by decide +kernel
theorem dX8_isUnder_0 : decode cX8_isUnder 0 = .ok (.iload_n 1, 1) := by decide +kernel
theorem dX8_isUnder_1 : decode cX8_isUnder 1 = .ok (.iload_n 2, 1) := by decide +kernel
theorem dX8_isUnder_2 : decode cX8_isUnder 2 = .ok (.if_icmp .ne 5, 3) := by decide +kernel
theorem dX8_isUnder_5 : decode cX8_isUnder 5 = .ok (.iconst 1, 1) := by decide +kernel
theorem dX8_isUnder_6 : decode cX8_isUnder 6 = .ok (.ireturn, 1) := by decide +kernel
theorem dX8_isUnder_7 : decode cX8_isUnder 7 = .ok (.iload_n 1, 1) := by decide +kernel
theorem dX8_isUnder_8 : decode cX8_isUnder 8 = .ok (.bipush 12, 2) := by decide +kernel
theorem dX8_isUnder_10 : decode cX8_isUnder 10 = .ok (.if_icmp .gt 16, 3) := by decide +kernel
theorem dX8_isUnder_13 : decode cX8_isUnder 13 = .ok (.iload_n 2, 1) := by decide +kernel
theorem dX8_isUnder_14 : decode cX8_isUnder 14 = .ok (.bipush 12, 2) := by decide +kernel
theorem dX8_isUnder_16 : decode cX8_isUnder 16 = .ok (.if_icmp .gt 10, 3) := by decide +kernel
theorem dX8_isUnder_19 : decode cX8_isUnder 19 = .ok (.aload_n 0, 1) := by decide +kernel
theorem dX8_isUnder_20 : decode cX8_isUnder 20 = .ok (.iload_n 1, 1) := by decide +kernel
theorem dX8_isUnder_21 : decode cX8_isUnder 21 = .ok (.iload_n 2, 1) := by decide +kernel
theorem dX8_isUnder_22 : decode cX8_isUnder 22 = .ok (.invokevirtual 47, 3) := by decide +kernel
theorem dX8_isUnder_25 : decode cX8_isUnder 25 = .ok (.ireturn, 1) := by decide +kernel
theorem dX8_isUnder_26 : decode cX8_isUnder 26 = .ok (.iload_n 1, 1) := by decide +kernel
theorem dX8_isUnder_27 : decode cX8_isUnder 27 = .ok (.invokestatic 51, 3) := by decide +kernel
theorem dX8_isUnder_30 : decode cX8_isUnder 30 = .ok (.ifCond .eq 10, 3) := by decide +kernel
theorem dX8_isUnder_33 : decode cX8_isUnder 33 = .ok (.iload_n 2, 1) := by decide +kernel
theorem dX8_isUnder_34 : decode cX8_isUnder 34 = .ok (.invokestatic 51, 3) := by decide +kernel
theorem dX8_isUnder_37 : decode cX8_isUnder 37 = .ok (.ifCond .ne 17, 3) := by decide +kernel
theorem dX8_isUnder_40 : decode cX8_isUnder 40 = .ok (.iload_n 1, 1) := by decide +kernel
theorem dX8_isUnder_41 : decode cX8_isUnder 41 = .ok (.invokestatic 55, 3) := by decide +kernel
theorem dX8_isUnder_44 : decode cX8_isUnder 44 = .ok (.ifCond .eq 25, 3) := by decide +kernel
theorem dX8_isUnder_47 : decode cX8_isUnder 47 = .ok (.iload_n 2, 1) := by decide +kernel
theorem dX8_isUnder_48 : decode cX8_isUnder 48 = .ok (.invokestatic 55, 3) := by decide +kernel
theorem dX8_isUnder_51 : decode cX8_isUnder 51 = .ok (.ifCond .eq 18, 3) := by decide +kernel
theorem dX8_isUnder_54 : decode cX8_isUnder 54 = .ok (.aload_n 0, 1) := by decide +kernel
theorem dX8_isUnder_55 : decode cX8_isUnder 55 = .ok (.aload_n 0, 1) := by decide +kernel
theorem dX8_isUnder_56 : decode cX8_isUnder 56 = .ok (.iload_n 1, 1) := by decide +kernel
theorem dX8_isUnder_57 : decode cX8_isUnder 57 = .ok (.invokevirtual 58, 3) := by decide +kernel
theorem dX8_isUnder_60 : decode cX8_isUnder 60 = .ok (.aload_n 0, 1) := by decide +kernel
theorem dX8_isUnder_61 : decode cX8_isUnder 61 = .ok (.iload_n 2, 1) := by decide +kernel
theorem dX8_isUnder_62 : decode cX8_isUnder 62 = .ok (.invokevirtual 58, 3) := by decide +kernel
theorem dX8_isUnder_65 : decode cX8_isUnder 65 = .ok (.invokevirtual 47, 3) := by decide +kernel
theorem dX8_isUnder_68 : decode cX8_isUnder 68 = .ok (.ireturn, 1) := by decide +kernel
theorem dX8_isUnder_69 : decode cX8_isUnder 69 = .ok (.iconst 0, 1) := by decide +kernel
theorem dX8_isUnder_70 : decode cX8_isUnder 70 = .ok (.ireturn, 1) := by decide +kernel
theorem dX8_isPart_0 : decode cX8_isPart 0 = .ok (.aload_n 0, 1) := by decide +kernel
theorem dX8_isPart_1 : decode cX8_isPart 1 = .ok (.iload_n 1, 1) := by decide +kernel
theorem dX8_isPart_2 : decode cX8_isPart 2 = .ok (.iconst 0, 1) := by decide +kernel
theorem dX8_isPart_3 : decode cX8_isPart 3 = .ok (.invokevirtual 62, 3) := by decide +kernel
theorem dX8_isPart_6 : decode cX8_isPart 6 = .ok (.ireturn, 1) := by decide +kernel
theorem dX8_isPlayed_0 : decode cX8_isPlayed 0 = .ok (.aload_n 0, 1) := by decide +kernel
theorem dX8_isPlayed_1 : decode cX8_isPlayed 1 = .ok (.iload_n 1, 1) := by decide +kernel
theorem dX8_isPlayed_2 : decode cX8_isPlayed 2 = .ok (.invokevirtual 65, 3) := by decide +kernel
theorem dX8_isPlayed_5 : decode cX8_isPlayed 5 = .ok (.ifCond .ne 23, 3) := by decide +kernel
theorem dX8_isPlayed_8 : decode cX8_isPlayed 8 = .ok (.aload_n 0, 1) := by decide +kernel
theorem dX8_isPlayed_9 : decode cX8_isPlayed 9 = .ok (.iload_n 1, 1) := by decide +kernel
theorem dX8_isPlayed_10 : decode cX8_isPlayed 10 = .ok (.bipush 17, 2) := by decide +kernel
theorem dX8_isPlayed_12 : decode cX8_isPlayed 12 = .ok (.invokevirtual 62, 3) := by decide +kernel
theorem dX8_isPlayed_15 : decode cX8_isPlayed 15 = .ok (.ifCond .ne 13, 3) := by decide +kernel
theorem dX8_isPlayed_18 : decode cX8_isPlayed 18 = .ok (.aload_n 0, 1) := by decide +kernel
theorem dX8_isPlayed_19 : decode cX8_isPlayed 19 = .ok (.iload_n 1, 1) := by decide +kernel
theorem dX8_isPlayed_20 : decode cX8_isPlayed 20 = .ok (.bipush 23, 2) := by decide +kernel
theorem dX8_isPlayed_22 : decode cX8_isPlayed 22 = .ok (.invokevirtual 62, 3) := by decide +kernel
theorem dX8_isPlayed_25 : decode cX8_isPlayed 25 = .ok (.ifCond .eq 7, 3) := by decide +kernel
theorem dX8_isPlayed_28 : decode cX8_isPlayed 28 = .ok (.iconst 1, 1) := by decide +kernel
theorem dX8_isPlayed_29 : decode cX8_isPlayed 29 = .ok (.goto 4, 3) := by decide +kernel
theorem dX8_isPlayed_32 : decode cX8_isPlayed 32 = .ok (.iconst 0, 1) := by decide +kernel
theorem dX8_isPlayed_33 : decode cX8_isPlayed 33 = .ok (.ireturn, 1) := by decide +kernel
theorem dX8_fits_0 : decode cX8_fits 0 = .ok (.lload_n 2, 1) := by decide +kernel
theorem dX8_fits_1 : decode cX8_fits 1 = .ok (.lconst 0, 1) := by decide +kernel
theorem dX8_fits_2 : decode cX8_fits 2 = .ok (.lcmp, 1) := by decide +kernel
theorem dX8_fits_3 : decode cX8_fits 3 = .ok (.ifCond .ne 5, 3) := by decide +kernel
theorem dX8_fits_6 : decode cX8_fits 6 = .ok (.iconst 1, 1) := by decide +kernel
theorem dX8_fits_7 : decode cX8_fits 7 = .ok (.ireturn, 1) := by decide +kernel
theorem dX8_fits_8 : decode cX8_fits 8 = .ok (.aload_n 0, 1) := by decide +kernel
theorem dX8_fits_9 : decode cX8_fits 9 = .ok (.getfield 16, 3) := by decide +kernel
theorem dX8_fits_12 : decode cX8_fits 12 = .ok (.iconst 0, 1) := by decide +kernel
theorem dX8_fits_13 : decode cX8_fits 13 = .ok (.lload_n 2, 1) := by decide +kernel
theorem dX8_fits_14 : decode cX8_fits 14 = .ok (.l2i, 1) := by decide +kernel
theorem dX8_fits_15 : decode cX8_fits 15 = .ok (.iadd, 1) := by decide +kernel
theorem dX8_fits_16 : decode cX8_fits 16 = .ok (.iconst 1, 1) := by decide +kernel
theorem dX8_fits_17 : decode cX8_fits 17 = .ok (.isub, 1) := by decide +kernel
theorem dX8_fits_18 : decode cX8_fits 18 = .ok (.iaload, 1) := by decide +kernel
theorem dX8_fits_19 : decode cX8_fits 19 = .ok (.istore 4, 2) := by decide +kernel
theorem dX8_fits_21 : decode cX8_fits 21 = .ok (.iload_n 1, 1) := by decide +kernel
theorem dX8_fits_22 : decode cX8_fits 22 = .ok (.bipush 16, 2) := by decide +kernel
theorem dX8_fits_24 : decode cX8_fits 24 = .ok (.if_icmp .ne 16, 3) := by decide +kernel
theorem dX8_fits_27 : decode cX8_fits 27 = .ok (.iload 4, 2) := by decide +kernel
theorem dX8_fits_29 : decode cX8_fits 29 = .ok (.bipush 13, 2) := by decide +kernel
theorem dX8_fits_31 : decode cX8_fits 31 = .ok (.if_icmp .ne 7, 3) := by decide +kernel
theorem dX8_fits_34 : decode cX8_fits 34 = .ok (.iconst 1, 1) := by decide +kernel
theorem dX8_fits_35 : decode cX8_fits 35 = .ok (.goto 4, 3) := by decide +kernel
theorem dX8_fits_38 : decode cX8_fits 38 = .ok (.iconst 0, 1) := by decide +kernel
theorem dX8_fits_39 : decode cX8_fits 39 = .ok (.ireturn, 1) := by decide +kernel
theorem dX8_fits_40 : decode cX8_fits 40 = .ok (.iload_n 1, 1) := by decide +kernel
theorem dX8_fits_41 : decode cX8_fits 41 = .ok (.invokestatic 51, 3) := by decide +kernel
theorem dX8_fits_44 : decode cX8_fits 44 = .ok (.ifCond .eq 15, 3) := by decide +kernel
theorem dX8_fits_47 : decode cX8_fits 47 = .ok (.aload_n 0, 1) := by decide +kernel
theorem dX8_fits_48 : decode cX8_fits 48 = .ok (.iload 4, 2) := by decide +kernel
theorem dX8_fits_50 : decode cX8_fits 50 = .ok (.aload_n 0, 1) := by decide +kernel
theorem dX8_fits_51 : decode cX8_fits 51 = .ok (.iload_n 1, 1) := by decide +kernel
theorem dX8_fits_52 : decode cX8_fits 52 = .ok (.invokevirtual 58, 3) := by decide +kernel
theorem dX8_fits_55 : decode cX8_fits 55 = .ok (.invokevirtual 62, 3) := by decide +kernel
theorem dX8_fits_58 : decode cX8_fits 58 = .ok (.ireturn, 1) := by decide +kernel
theorem dX8_fits_59 : decode cX8_fits 59 = .ok (.aload_n 0, 1) := by decide +kernel
theorem dX8_fits_60 : decode cX8_fits 60 = .ok (.iload 4, 2) := by decide +kernel
theorem dX8_fits_62 : decode cX8_fits 62 = .ok (.iload_n 1, 1) := by decide +kernel
theorem dX8_fits_63 : decode cX8_fits 63 = .ok (.bipush 23, 2) := by decide +kernel
theorem dX8_fits_65 : decode cX8_fits 65 = .ok (.if_icmp .ne 8, 3) := by decide +kernel
theorem dX8_fits_68 : decode cX8_fits 68 = .ok (.bipush 17, 2) := by decide +kernel
theorem dX8_fits_70 : decode cX8_fits 70 = .ok (.goto 5, 3) := by decide +kernel
theorem dX8_fits_73 : decode cX8_fits 73 = .ok (.bipush 19, 2) := by decide +kernel
theorem dX8_fits_75 : decode cX8_fits 75 = .ok (.invokevirtual 62, 3) := by decide +kernel
theorem dX8_fits_78 : decode cX8_fits 78 = .ok (.ireturn, 1) := by decide +kernel
theorem dX8_isShelf_0 : decode cX8_isShelf 0 = .ok (.iload_n 0, 1) := by decide +kernel
theorem dX8_isShelf_1 : decode cX8_isShelf 1 = .ok (.ifCond .lt 13, 3) := by decide +kernel
theorem dX8_isShelf_4 : decode cX8_isShelf 4 = .ok (.iload_n 0, 1) := by decide +kernel
theorem dX8_isShelf_5 : decode cX8_isShelf 5 = .ok (.bipush 15, 2) := by decide +kernel
theorem dX8_isShelf_7 : decode cX8_isShelf 7 = .ok (.if_icmp .gt 7, 3) := by decide +kernel
theorem dX8_isShelf_10 : decode cX8_isShelf 10 = .ok (.iconst 1, 1) := by decide +kernel
theorem dX8_isShelf_11 : decode cX8_isShelf 11 = .ok (.goto 4, 3) := by decide +kernel
theorem dX8_isShelf_14 : decode cX8_isShelf 14 = .ok (.iconst 0, 1) := by decide +kernel
theorem dX8_isShelf_15 : decode cX8_isShelf 15 = .ok (.ireturn, 1) := by decide +kernel
theorem dX8_on_0 : decode cX8_on 0 = .ok (.aload_n 0, 1) := by decide +kernel
theorem dX8_on_1 : decode cX8_on 1 = .ok (.getfield 16, 3) := by decide +kernel
theorem dX8_on_4 : decode cX8_on 4 = .ok (.sipush 540, 3) := by decide +kernel
theorem dX8_on_7 : decode cX8_on 7 = .ok (.iload_n 1, 1) := by decide +kernel
theorem dX8_on_8 : decode cX8_on 8 = .ok (.iadd, 1) := by decide +kernel
theorem dX8_on_9 : decode cX8_on 9 = .ok (.iaload, 1) := by decide +kernel
theorem dX8_on_10 : decode cX8_on 10 = .ok (.iconst 1, 1) := by decide +kernel
theorem dX8_on_11 : decode cX8_on 11 = .ok (.isub, 1) := by decide +kernel
theorem dX8_on_12 : decode cX8_on 12 = .ok (.ireturn, 1) := by decide +kernel
theorem dX8_kindOf_0 : decode cX8_kindOf 0 = .ok (.aload_n 0, 1) := by decide +kernel
theorem dX8_kindOf_1 : decode cX8_kindOf 1 = .ok (.getfield 16, 3) := by decide +kernel
theorem dX8_kindOf_4 : decode cX8_kindOf 4 = .ok (.iconst 0, 1) := by decide +kernel
theorem dX8_kindOf_5 : decode cX8_kindOf 5 = .ok (.iload_n 1, 1) := by decide +kernel
theorem dX8_kindOf_6 : decode cX8_kindOf 6 = .ok (.iadd, 1) := by decide +kernel
theorem dX8_kindOf_7 : decode cX8_kindOf 7 = .ok (.iaload, 1) := by decide +kernel
theorem dX8_kindOf_8 : decode cX8_kindOf 8 = .ok (.ireturn, 1) := by decide +kernel
theorem dX8_lengthOf_0 : decode cX8_lengthOf 0 = .ok (.aload_n 0, 1) := by decide +kernel
theorem dX8_lengthOf_1 : decode cX8_lengthOf 1 = .ok (.getfield 16, 3) := by decide +kernel
theorem dX8_lengthOf_4 : decode cX8_lengthOf 4 = .ok (.bipush 60, 2) := by decide +kernel
theorem dX8_lengthOf_6 : decode cX8_lengthOf 6 = .ok (.iload_n 1, 1) := by decide +kernel
theorem dX8_lengthOf_7 : decode cX8_lengthOf 7 = .ok (.iadd, 1) := by decide +kernel
theorem dX8_lengthOf_8 : decode cX8_lengthOf 8 = .ok (.iaload, 1) := by decide +kernel
theorem dX8_lengthOf_9 : decode cX8_lengthOf 9 = .ok (.ireturn, 1) := by decide +kernel
theorem dX8_hasPlace_0 : decode cX8_hasPlace 0 = .ok (.iload_n 2, 1) := by decide +kernel
theorem dX8_hasPlace_1 : decode cX8_hasPlace 1 = .ok (.ifCond .lt 16, 3) := by decide +kernel
theorem dX8_hasPlace_4 : decode cX8_hasPlace 4 = .ok (.iload_n 2, 1) := by decide +kernel
theorem dX8_hasPlace_5 : decode cX8_hasPlace 5 = .ok (.aload_n 0, 1) := by decide +kernel
theorem dX8_hasPlace_6 : decode cX8_hasPlace 6 = .ok (.iload_n 1, 1) := by decide +kernel
theorem dX8_hasPlace_7 : decode cX8_hasPlace 7 = .ok (.invokevirtual 68, 3) := by decide +kernel
theorem dX8_hasPlace_10 : decode cX8_hasPlace 10 = .ok (.if_icmp .ge 7, 3) := by decide +kernel
theorem dX8_hasPlace_13 : decode cX8_hasPlace 13 = .ok (.iconst 1, 1) := by decide +kernel
theorem dX8_hasPlace_14 : decode cX8_hasPlace 14 = .ok (.goto 4, 3) := by decide +kernel
theorem dX8_hasPlace_17 : decode cX8_hasPlace 17 = .ok (.iconst 0, 1) := by decide +kernel
theorem dX8_hasPlace_18 : decode cX8_hasPlace 18 = .ok (.ireturn, 1) := by decide +kernel
theorem dX8_refuse_0 : decode cX8_refuse 0 = .ok (.aload_n 0, 1) := by decide +kernel
theorem dX8_refuse_1 : decode cX8_refuse 1 = .ok (.iload_n 1, 1) := by decide +kernel
theorem dX8_refuse_2 : decode cX8_refuse 2 = .ok (.putfield 71, 3) := by decide +kernel
theorem dX8_refuse_5 : decode cX8_refuse 5 = .ok (.iconst 0, 1) := by decide +kernel
theorem dX8_refuse_6 : decode cX8_refuse 6 = .ok (.ireturn, 1) := by decide +kernel
theorem dX8_sizeOf_0 : decode cX8_sizeOf 0 = .ok (.iload_n 0, 1) := by decide +kernel
theorem dX8_sizeOf_1 : decode cX8_sizeOf 1 = .ok (.ifCond .ge 8, 3) := by decide +kernel
theorem dX8_sizeOf_4 : decode cX8_sizeOf 4 = .ok (.iload_n 0, 1) := by decide +kernel
theorem dX8_sizeOf_5 : decode cX8_sizeOf 5 = .ok (.ineg, 1) := by decide +kernel
theorem dX8_sizeOf_6 : decode cX8_sizeOf 6 = .ok (.goto 4, 3) := by decide +kernel
theorem dX8_sizeOf_9 : decode cX8_sizeOf 9 = .ok (.iload_n 0, 1) := by decide +kernel
theorem dX8_sizeOf_10 : decode cX8_sizeOf 10 = .ok (.ireturn, 1) := by decide +kernel
theorem dX8_clipped_0 : decode cX8_clipped 0 = .ok (.aload_n 0, 1) := by decide +kernel
theorem dX8_clipped_1 : decode cX8_clipped 1 = .ok (.getfield 16, 3) := by decide +kernel
theorem dX8_clipped_4 : decode cX8_clipped 4 = .ok (.bipush 120, 2) := by decide +kernel
theorem dX8_clipped_6 : decode cX8_clipped 6 = .ok (.iload_n 1, 1) := by decide +kernel
theorem dX8_clipped_7 : decode cX8_clipped 7 = .ok (.iadd, 1) := by decide +kernel
theorem dX8_clipped_8 : decode cX8_clipped 8 = .ok (.iaload, 1) := by decide +kernel
theorem dX8_clipped_9 : decode cX8_clipped 9 = .ok (.invokestatic 75, 3) := by decide +kernel
theorem dX8_clipped_12 : decode cX8_clipped 12 = .ok (.istore_n 3, 1) := by decide +kernel
theorem dX8_clipped_13 : decode cX8_clipped 13 = .ok (.iload_n 2, 1) := by decide +kernel
theorem dX8_clipped_14 : decode cX8_clipped 14 = .ok (.iload_n 3, 1) := by decide +kernel
theorem dX8_clipped_15 : decode cX8_clipped 15 = .ok (.if_icmp .le 7, 3) := by decide +kernel
theorem dX8_clipped_18 : decode cX8_clipped 18 = .ok (.iload_n 3, 1) := by decide +kernel
theorem dX8_clipped_19 : decode cX8_clipped 19 = .ok (.goto 15, 3) := by decide +kernel
theorem dX8_clipped_22 : decode cX8_clipped 22 = .ok (.iload_n 2, 1) := by decide +kernel
theorem dX8_clipped_23 : decode cX8_clipped 23 = .ok (.iload_n 3, 1) := by decide +kernel
theorem dX8_clipped_24 : decode cX8_clipped 24 = .ok (.ineg, 1) := by decide +kernel
theorem dX8_clipped_25 : decode cX8_clipped 25 = .ok (.if_icmp .ge 8, 3) := by decide +kernel
theorem dX8_clipped_28 : decode cX8_clipped 28 = .ok (.iload_n 3, 1) := by decide +kernel
theorem dX8_clipped_29 : decode cX8_clipped 29 = .ok (.ineg, 1) := by decide +kernel
theorem dX8_clipped_30 : decode cX8_clipped 30 = .ok (.goto 4, 3) := by decide +kernel
theorem dX8_clipped_33 : decode cX8_clipped 33 = .ok (.iload_n 2, 1) := by decide +kernel
theorem dX8_clipped_34 : decode cX8_clipped 34 = .ok (.ireturn, 1) := by decide +kernel
theorem dX8_turn_0 : decode cX8_turn 0 = .ok (.aload_n 0, 1) := by decide +kernel
theorem dX8_turn_1 : decode cX8_turn 1 = .ok (.iload_n 1, 1) := by decide +kernel
theorem dX8_turn_2 : decode cX8_turn 2 = .ok (.invokevirtual 78, 3) := by decide +kernel
theorem dX8_turn_5 : decode cX8_turn 5 = .ok (.istore_n 3, 1) := by decide +kernel
theorem dX8_turn_6 : decode cX8_turn 6 = .ok (.aload_n 0, 1) := by decide +kernel
theorem dX8_turn_7 : decode cX8_turn 7 = .ok (.getfield 16, 3) := by decide +kernel
theorem dX8_turn_10 : decode cX8_turn 10 = .ok (.sipush 180, 3) := by decide +kernel
theorem dX8_turn_13 : decode cX8_turn 13 = .ok (.iload_n 1, 1) := by decide +kernel
theorem dX8_turn_14 : decode cX8_turn 14 = .ok (.iadd, 1) := by decide +kernel
theorem dX8_turn_15 : decode cX8_turn 15 = .ok (.dup2, 1) := by decide +kernel
theorem dX8_turn_16 : decode cX8_turn 16 = .ok (.iaload, 1) := by decide +kernel
theorem dX8_turn_17 : decode cX8_turn 17 = .ok (.iconst 1, 1) := by decide +kernel
theorem dX8_turn_18 : decode cX8_turn 18 = .ok (.iadd, 1) := by decide +kernel
theorem dX8_turn_19 : decode cX8_turn 19 = .ok (.iastore, 1) := by decide +kernel
theorem dX8_turn_20 : decode cX8_turn 20 = .ok (.iload_n 3, 1) := by decide +kernel
theorem dX8_turn_21 : decode cX8_turn 21 = .ok (.iconst 2, 1) := by decide +kernel
theorem dX8_turn_22 : decode cX8_turn 22 = .ok (.if_icmp .eq 8, 3) := by decide +kernel
theorem dX8_turn_25 : decode cX8_turn 25 = .ok (.iload_n 3, 1) := by decide +kernel
theorem dX8_turn_26 : decode cX8_turn 26 = .ok (.iconst 3, 1) := by decide +kernel
theorem dX8_turn_27 : decode cX8_turn 27 = .ok (.if_icmp .ne 10, 3) := by decide +kernel
theorem dX8_turn_30 : decode cX8_turn 30 = .ok (.aload_n 0, 1) := by decide +kernel
theorem dX8_turn_31 : decode cX8_turn 31 = .ok (.iload_n 1, 1) := by decide +kernel
theorem dX8_turn_32 : decode cX8_turn 32 = .ok (.iload_n 2, 1) := by decide +kernel
theorem dX8_turn_33 : decode cX8_turn 33 = .ok (.invokevirtual 81, 3) := by decide +kernel
theorem dX8_turn_36 : decode cX8_turn 36 = .ok (.ireturn, 1) := by decide +kernel
theorem dX8_turn_37 : decode cX8_turn 37 = .ok (.iload_n 3, 1) := by decide +kernel
theorem dX8_turn_38 : decode cX8_turn 38 = .ok (.iconst 4, 1) := by decide +kernel
theorem dX8_turn_39 : decode cX8_turn 39 = .ok (.if_icmp .ne 45, 3) := by decide +kernel
theorem dX8_turn_42 : decode cX8_turn 42 = .ok (.aload_n 0, 1) := by decide +kernel
theorem dX8_turn_43 : decode cX8_turn 43 = .ok (.iload_n 1, 1) := by decide +kernel
theorem dX8_turn_44 : decode cX8_turn 44 = .ok (.iload_n 2, 1) := by decide +kernel
theorem dX8_turn_45 : decode cX8_turn 45 = .ok (.invokevirtual 81, 3) := by decide +kernel
theorem dX8_turn_48 : decode cX8_turn 48 = .ok (.istore 4, 2) := by decide +kernel
theorem dX8_turn_50 : decode cX8_turn 50 = .ok (.aload_n 0, 1) := by decide +kernel
theorem dX8_turn_51 : decode cX8_turn 51 = .ok (.getfield 16, 3) := by decide +kernel
theorem dX8_turn_54 : decode cX8_turn 54 = .ok (.sipush 240, 3) := by decide +kernel
theorem dX8_turn_57 : decode cX8_turn 57 = .ok (.iload_n 1, 1) := by decide +kernel
theorem dX8_turn_58 : decode cX8_turn 58 = .ok (.iadd, 1) := by decide +kernel
theorem dX8_turn_59 : decode cX8_turn 59 = .ok (.dup2, 1) := by decide +kernel
theorem dX8_turn_60 : decode cX8_turn 60 = .ok (.iaload, 1) := by decide +kernel
theorem dX8_turn_61 : decode cX8_turn 61 = .ok (.iload 4, 2) := by decide +kernel
theorem dX8_turn_63 : decode cX8_turn 63 = .ok (.iload_n 2, 1) := by decide +kernel
theorem dX8_turn_64 : decode cX8_turn 64 = .ok (.if_icmp .eq 7, 3) := by decide +kernel
theorem dX8_turn_67 : decode cX8_turn 67 = .ok (.iconst 1, 1) := by decide +kernel
theorem dX8_turn_68 : decode cX8_turn 68 = .ok (.goto 4, 3) := by decide +kernel
theorem dX8_turn_71 : decode cX8_turn 71 = .ok (.iconst 0, 1) := by decide +kernel
theorem dX8_turn_72 : decode cX8_turn 72 = .ok (.iadd, 1) := by decide +kernel
theorem dX8_turn_73 : decode cX8_turn 73 = .ok (.iastore, 1) := by decide +kernel
theorem dX8_turn_74 : decode cX8_turn 74 = .ok (.iload 4, 2) := by decide +kernel
theorem dX8_turn_76 : decode cX8_turn 76 = .ok (.iload_n 2, 1) := by decide +kernel
theorem dX8_turn_77 : decode cX8_turn 77 = .ok (.iload 4, 2) := by decide +kernel
theorem dX8_turn_79 : decode cX8_turn 79 = .ok (.isub, 1) := by decide +kernel
theorem dX8_turn_80 : decode cX8_turn 80 = .ok (.iconst 2, 1) := by decide +kernel
theorem dX8_turn_81 : decode cX8_turn 81 = .ok (.ishr, 1) := by decide +kernel
theorem dX8_turn_82 : decode cX8_turn 82 = .ok (.iadd, 1) := by decide +kernel
theorem dX8_turn_83 : decode cX8_turn 83 = .ok (.ireturn, 1) := by decide +kernel
theorem dX8_turn_84 : decode cX8_turn 84 = .ok (.iload_n 3, 1) := by decide +kernel
theorem dX8_turn_85 : decode cX8_turn 85 = .ok (.bipush 7, 2) := by decide +kernel
theorem dX8_turn_87 : decode cX8_turn 87 = .ok (.if_icmp .eq 9, 3) := by decide +kernel
theorem dX8_turn_90 : decode cX8_turn 90 = .ok (.iload_n 3, 1) := by decide +kernel
theorem dX8_turn_91 : decode cX8_turn 91 = .ok (.bipush 8, 2) := by decide +kernel
theorem dX8_turn_93 : decode cX8_turn 93 = .ok (.if_icmp .ne 106, 3) := by decide +kernel
theorem dX8_turn_96 : decode cX8_turn 96 = .ok (.iload_n 2, 1) := by decide +kernel
theorem dX8_turn_97 : decode cX8_turn 97 = .ok (.aload_n 0, 1) := by decide +kernel
theorem dX8_turn_98 : decode cX8_turn 98 = .ok (.getfield 16, 3) := by decide +kernel
theorem dX8_turn_101 : decode cX8_turn 101 = .ok (.sipush 300, 3) := by decide +kernel
theorem dX8_turn_104 : decode cX8_turn 104 = .ok (.iload_n 1, 1) := by decide +kernel
theorem dX8_turn_105 : decode cX8_turn 105 = .ok (.iadd, 1) := by decide +kernel
theorem dX8_turn_106 : decode cX8_turn 106 = .ok (.iaload, 1) := by decide +kernel
theorem dX8_turn_107 : decode cX8_turn 107 = .ok (.aload_n 0, 1) := by decide +kernel
theorem dX8_turn_108 : decode cX8_turn 108 = .ok (.getfield 16, 3) := by decide +kernel
theorem dX8_turn_111 : decode cX8_turn 111 = .ok (.bipush 120, 2) := by decide +kernel
theorem dX8_turn_113 : decode cX8_turn 113 = .ok (.iload_n 1, 1) := by decide +kernel
theorem dX8_turn_114 : decode cX8_turn 114 = .ok (.iadd, 1) := by decide +kernel
theorem dX8_turn_115 : decode cX8_turn 115 = .ok (.iaload, 1) := by decide +kernel
theorem dX8_turn_116 : decode cX8_turn 116 = .ok (.imul, 1) := by decide +kernel
theorem dX8_turn_117 : decode cX8_turn 117 = .ok (.iconst 4, 1) := by decide +kernel
theorem dX8_turn_118 : decode cX8_turn 118 = .ok (.ishr, 1) := by decide +kernel
theorem dX8_turn_119 : decode cX8_turn 119 = .ok (.iadd, 1) := by decide +kernel
theorem dX8_turn_120 : decode cX8_turn 120 = .ok (.istore 4, 2) := by decide +kernel
theorem dX8_turn_122 : decode cX8_turn 122 = .ok (.aload_n 0, 1) := by decide +kernel
theorem dX8_turn_123 : decode cX8_turn 123 = .ok (.getfield 16, 3) := by decide +kernel
theorem dX8_turn_126 : decode cX8_turn 126 = .ok (.sipush 300, 3) := by decide +kernel
theorem dX8_turn_129 : decode cX8_turn 129 = .ok (.iload_n 1, 1) := by decide +kernel
theorem dX8_turn_130 : decode cX8_turn 130 = .ok (.iadd, 1) := by decide +kernel
theorem dX8_turn_131 : decode cX8_turn 131 = .ok (.iload_n 2, 1) := by decide +kernel
theorem dX8_turn_132 : decode cX8_turn 132 = .ok (.iastore, 1) := by decide +kernel
theorem dX8_turn_133 : decode cX8_turn 133 = .ok (.iload_n 3, 1) := by decide +kernel
theorem dX8_turn_134 : decode cX8_turn 134 = .ok (.bipush 8, 2) := by decide +kernel
theorem dX8_turn_136 : decode cX8_turn 136 = .ok (.if_icmp .ne 60, 3) := by decide +kernel
theorem dX8_turn_139 : decode cX8_turn 139 = .ok (.aload_n 0, 1) := by decide +kernel
theorem dX8_turn_140 : decode cX8_turn 140 = .ok (.getfield 16, 3) := by decide +kernel
theorem dX8_turn_143 : decode cX8_turn 143 = .ok (.sipush 300, 3) := by decide +kernel
theorem dX8_turn_146 : decode cX8_turn 146 = .ok (.iload_n 1, 1) := by decide +kernel
theorem dX8_turn_147 : decode cX8_turn 147 = .ok (.iadd, 1) := by decide +kernel
theorem dX8_turn_148 : decode cX8_turn 148 = .ok (.dup2, 1) := by decide +kernel
theorem dX8_turn_149 : decode cX8_turn 149 = .ok (.iaload, 1) := by decide +kernel
theorem dX8_turn_150 : decode cX8_turn 150 = .ok (.iload 4, 2) := by decide +kernel
theorem dX8_turn_152 : decode cX8_turn 152 = .ok (.iconst 3, 1) := by decide +kernel
theorem dX8_turn_153 : decode cX8_turn 153 = .ok (.ishr, 1) := by decide +kernel
theorem dX8_turn_154 : decode cX8_turn 154 = .ok (.iadd, 1) := by decide +kernel
theorem dX8_turn_155 : decode cX8_turn 155 = .ok (.iastore, 1) := by decide +kernel
theorem dX8_turn_156 : decode cX8_turn 156 = .ok (.aload_n 0, 1) := by decide +kernel
theorem dX8_turn_157 : decode cX8_turn 157 = .ok (.getfield 16, 3) := by decide +kernel
theorem dX8_turn_160 : decode cX8_turn 160 = .ok (.sipush 420, 3) := by decide +kernel
theorem dX8_turn_163 : decode cX8_turn 163 = .ok (.iload_n 1, 1) := by decide +kernel
theorem dX8_turn_164 : decode cX8_turn 164 = .ok (.iadd, 1) := by decide +kernel
theorem dX8_turn_165 : decode cX8_turn 165 = .ok (.iload 4, 2) := by decide +kernel
theorem dX8_turn_167 : decode cX8_turn 167 = .ok (.aload_n 0, 1) := by decide +kernel
theorem dX8_turn_168 : decode cX8_turn 168 = .ok (.getfield 16, 3) := by decide +kernel
theorem dX8_turn_171 : decode cX8_turn 171 = .ok (.sipush 420, 3) := by decide +kernel
theorem dX8_turn_174 : decode cX8_turn 174 = .ok (.iload_n 1, 1) := by decide +kernel
theorem dX8_turn_175 : decode cX8_turn 175 = .ok (.iadd, 1) := by decide +kernel
theorem dX8_turn_176 : decode cX8_turn 176 = .ok (.iaload, 1) := by decide +kernel
theorem dX8_turn_177 : decode cX8_turn 177 = .ok (.if_icmp .le 8, 3) := by decide +kernel
theorem dX8_turn_180 : decode cX8_turn 180 = .ok (.iload 4, 2) := by decide +kernel
theorem dX8_turn_182 : decode cX8_turn 182 = .ok (.goto 13, 3) := by decide +kernel
theorem dX8_turn_185 : decode cX8_turn 185 = .ok (.aload_n 0, 1) := by decide +kernel
theorem dX8_turn_186 : decode cX8_turn 186 = .ok (.getfield 16, 3) := by decide +kernel
theorem dX8_turn_189 : decode cX8_turn 189 = .ok (.sipush 420, 3) := by decide +kernel
theorem dX8_turn_192 : decode cX8_turn 192 = .ok (.iload_n 1, 1) := by decide +kernel
theorem dX8_turn_193 : decode cX8_turn 193 = .ok (.iadd, 1) := by decide +kernel
theorem dX8_turn_194 : decode cX8_turn 194 = .ok (.iaload, 1) := by decide +kernel
theorem dX8_turn_195 : decode cX8_turn 195 = .ok (.iastore, 1) := by decide +kernel
theorem dX8_turn_196 : decode cX8_turn 196 = .ok (.iload 4, 2) := by decide +kernel
theorem dX8_turn_198 : decode cX8_turn 198 = .ok (.ireturn, 1) := by decide +kernel
theorem dX8_turn_199 : decode cX8_turn 199 = .ok (.iload_n 3, 1) := by decide +kernel
theorem dX8_turn_200 : decode cX8_turn 200 = .ok (.bipush 9, 2) := by decide +kernel
theorem dX8_turn_202 : decode cX8_turn 202 = .ok (.if_icmp .eq 9, 3) := by decide +kernel
theorem dX8_turn_205 : decode cX8_turn 205 = .ok (.iload_n 3, 1) := by decide +kernel
theorem dX8_turn_206 : decode cX8_turn 206 = .ok (.bipush 10, 2) := by decide +kernel
theorem dX8_turn_208 : decode cX8_turn 208 = .ok (.if_icmp .ne 30, 3) := by decide +kernel
theorem dX8_turn_211 : decode cX8_turn 211 = .ok (.aload_n 0, 1) := by decide +kernel
theorem dX8_turn_212 : decode cX8_turn 212 = .ok (.getfield 16, 3) := by decide +kernel
theorem dX8_turn_215 : decode cX8_turn 215 = .ok (.sipush 360, 3) := by decide +kernel
theorem dX8_turn_218 : decode cX8_turn 218 = .ok (.iload_n 1, 1) := by decide +kernel
theorem dX8_turn_219 : decode cX8_turn 219 = .ok (.iadd, 1) := by decide +kernel
theorem dX8_turn_220 : decode cX8_turn 220 = .ok (.dup2, 1) := by decide +kernel
theorem dX8_turn_221 : decode cX8_turn 221 = .ok (.iaload, 1) := by decide +kernel
theorem dX8_turn_222 : decode cX8_turn 222 = .ok (.iconst 1, 1) := by decide +kernel
theorem dX8_turn_223 : decode cX8_turn 223 = .ok (.iadd, 1) := by decide +kernel
theorem dX8_turn_224 : decode cX8_turn 224 = .ok (.iastore, 1) := by decide +kernel
theorem dX8_turn_225 : decode cX8_turn 225 = .ok (.iload_n 2, 1) := by decide +kernel
theorem dX8_turn_226 : decode cX8_turn 226 = .ok (.aload_n 0, 1) := by decide +kernel
theorem dX8_turn_227 : decode cX8_turn 227 = .ok (.getfield 16, 3) := by decide +kernel
theorem dX8_turn_230 : decode cX8_turn 230 = .ok (.sipush 360, 3) := by decide +kernel
theorem dX8_turn_233 : decode cX8_turn 233 = .ok (.iload_n 1, 1) := by decide +kernel
theorem dX8_turn_234 : decode cX8_turn 234 = .ok (.iadd, 1) := by decide +kernel
theorem dX8_turn_235 : decode cX8_turn 235 = .ok (.iaload, 1) := by decide +kernel
theorem dX8_turn_236 : decode cX8_turn 236 = .ok (.iadd, 1) := by decide +kernel
theorem dX8_turn_237 : decode cX8_turn 237 = .ok (.ireturn, 1) := by decide +kernel
theorem dX8_turn_238 : decode cX8_turn 238 = .ok (.iload_n 2, 1) := by decide +kernel
theorem dX8_turn_239 : decode cX8_turn 239 = .ok (.ireturn, 1) := by decide +kernel
theorem dX8_load_0 : decode cX8_load 0 = .ok (.aload_n 0, 1) := by decide +kernel
theorem dX8_load_1 : decode cX8_load 1 = .ok (.iload_n 1, 1) := by decide +kernel
theorem dX8_load_2 : decode cX8_load 2 = .ok (.invokevirtual 78, 3) := by decide +kernel
theorem dX8_load_5 : decode cX8_load 5 = .ok (.istore_n 2, 1) := by decide +kernel
theorem dX8_load_6 : decode cX8_load 6 = .ok (.aload_n 0, 1) := by decide +kernel
theorem dX8_load_7 : decode cX8_load 7 = .ok (.iload_n 2, 1) := by decide +kernel
theorem dX8_load_8 : decode cX8_load 8 = .ok (.iconst 2, 1) := by decide +kernel
theorem dX8_load_9 : decode cX8_load 9 = .ok (.invokevirtual 62, 3) := by decide +kernel
theorem dX8_load_12 : decode cX8_load 12 = .ok (.ifCond .eq 38, 3) := by decide +kernel
theorem dX8_load_15 : decode cX8_load 15 = .ok (.iconst 5, 1) := by decide +kernel
theorem dX8_load_16 : decode cX8_load 16 = .ok (.aload_n 0, 1) := by decide +kernel
theorem dX8_load_17 : decode cX8_load 17 = .ok (.getfield 16, 3) := by decide +kernel
theorem dX8_load_20 : decode cX8_load 20 = .ok (.bipush 120, 2) := by decide +kernel
theorem dX8_load_22 : decode cX8_load 22 = .ok (.iload_n 1, 1) := by decide +kernel
theorem dX8_load_23 : decode cX8_load 23 = .ok (.iadd, 1) := by decide +kernel
theorem dX8_load_24 : decode cX8_load 24 = .ok (.iaload, 1) := by decide +kernel
theorem dX8_load_25 : decode cX8_load 25 = .ok (.invokestatic 75, 3) := by decide +kernel
theorem dX8_load_28 : decode cX8_load 28 = .ok (.iadd, 1) := by decide +kernel
theorem dX8_load_29 : decode cX8_load 29 = .ok (.iload_n 2, 1) := by decide +kernel
theorem dX8_load_30 : decode cX8_load 30 = .ok (.iconst 4, 1) := by decide +kernel
theorem dX8_load_31 : decode cX8_load 31 = .ok (.if_icmp .ne 16, 3) := by decide +kernel
theorem dX8_load_34 : decode cX8_load 34 = .ok (.aload_n 0, 1) := by decide +kernel
theorem dX8_load_35 : decode cX8_load 35 = .ok (.getfield 16, 3) := by decide +kernel
theorem dX8_load_38 : decode cX8_load 38 = .ok (.sipush 240, 3) := by decide +kernel
theorem dX8_load_41 : decode cX8_load 41 = .ok (.iload_n 1, 1) := by decide +kernel
theorem dX8_load_42 : decode cX8_load 42 = .ok (.iadd, 1) := by decide +kernel
theorem dX8_load_43 : decode cX8_load 43 = .ok (.iaload, 1) := by decide +kernel
theorem dX8_load_44 : decode cX8_load 44 = .ok (.goto 4, 3) := by decide +kernel
theorem dX8_load_47 : decode cX8_load 47 = .ok (.iconst 0, 1) := by decide +kernel
theorem dX8_load_48 : decode cX8_load 48 = .ok (.iadd, 1) := by decide +kernel
theorem dX8_load_49 : decode cX8_load 49 = .ok (.ireturn, 1) := by decide +kernel
theorem dX8_load_50 : decode cX8_load 50 = .ok (.iload_n 2, 1) := by decide +kernel
theorem dX8_load_51 : decode cX8_load 51 = .ok (.iconst 1, 1) := by decide +kernel
theorem dX8_load_52 : decode cX8_load 52 = .ok (.if_icmp .ne 5, 3) := by decide +kernel
theorem dX8_load_55 : decode cX8_load 55 = .ok (.iconst 5, 1) := by decide +kernel
theorem dX8_load_56 : decode cX8_load 56 = .ok (.ireturn, 1) := by decide +kernel
theorem dX8_load_57 : decode cX8_load 57 = .ok (.iload_n 2, 1) := by decide +kernel
theorem dX8_load_58 : decode cX8_load 58 = .ok (.bipush 8, 2) := by decide +kernel
theorem dX8_load_60 : decode cX8_load 60 = .ok (.if_icmp .ne 20, 3) := by decide +kernel
theorem dX8_load_63 : decode cX8_load 63 = .ok (.bipush 6, 2) := by decide +kernel
theorem dX8_load_65 : decode cX8_load 65 = .ok (.aload_n 0, 1) := by decide +kernel
theorem dX8_load_66 : decode cX8_load 66 = .ok (.getfield 16, 3) := by decide +kernel
theorem dX8_load_69 : decode cX8_load 69 = .ok (.sipush 300, 3) := by decide +kernel
theorem dX8_load_72 : decode cX8_load 72 = .ok (.iload_n 1, 1) := by decide +kernel
theorem dX8_load_73 : decode cX8_load 73 = .ok (.iadd, 1) := by decide +kernel
theorem dX8_load_74 : decode cX8_load 74 = .ok (.iaload, 1) := by decide +kernel
theorem dX8_load_75 : decode cX8_load 75 = .ok (.bipush 7, 2) := by decide +kernel
theorem dX8_load_77 : decode cX8_load 77 = .ok (.iand, 1) := by decide +kernel
theorem dX8_load_78 : decode cX8_load 78 = .ok (.iadd, 1) := by decide +kernel
theorem dX8_load_79 : decode cX8_load 79 = .ok (.ireturn, 1) := by decide +kernel
theorem dX8_load_80 : decode cX8_load 80 = .ok (.aload_n 0, 1) := by decide +kernel
theorem dX8_load_81 : decode cX8_load 81 = .ok (.iload_n 2, 1) := by decide +kernel
theorem dX8_load_82 : decode cX8_load 82 = .ok (.bipush 6, 2) := by decide +kernel
theorem dX8_load_84 : decode cX8_load 84 = .ok (.invokevirtual 62, 3) := by decide +kernel
theorem dX8_load_87 : decode cX8_load 87 = .ok (.ifCond .eq 6, 3) := by decide +kernel
theorem dX8_load_90 : decode cX8_load 90 = .ok (.bipush 6, 2) := by decide +kernel
theorem dX8_load_92 : decode cX8_load 92 = .ok (.ireturn, 1) := by decide +kernel
theorem dX8_load_93 : decode cX8_load 93 = .ok (.aload_n 0, 1) := by decide +kernel
theorem dX8_load_94 : decode cX8_load 94 = .ok (.iload_n 2, 1) := by decide +kernel
theorem dX8_load_95 : decode cX8_load 95 = .ok (.bipush 9, 2) := by decide +kernel
theorem dX8_load_97 : decode cX8_load 97 = .ok (.invokevirtual 62, 3) := by decide +kernel
theorem dX8_load_100 : decode cX8_load 100 = .ok (.ifCond .eq 18, 3) := by decide +kernel
theorem dX8_load_103 : decode cX8_load 103 = .ok (.iconst 2, 1) := by decide +kernel
theorem dX8_load_104 : decode cX8_load 104 = .ok (.aload_n 0, 1) := by decide +kernel
theorem dX8_load_105 : decode cX8_load 105 = .ok (.getfield 16, 3) := by decide +kernel
theorem dX8_load_108 : decode cX8_load 108 = .ok (.sipush 360, 3) := by decide +kernel
theorem dX8_load_111 : decode cX8_load 111 = .ok (.iload_n 1, 1) := by decide +kernel
theorem dX8_load_112 : decode cX8_load 112 = .ok (.iadd, 1) := by decide +kernel
theorem dX8_load_113 : decode cX8_load 113 = .ok (.iaload, 1) := by decide +kernel
theorem dX8_load_114 : decode cX8_load 114 = .ok (.iadd, 1) := by decide +kernel
theorem dX8_load_115 : decode cX8_load 115 = .ok (.goto 4, 3) := by decide +kernel
theorem dX8_load_118 : decode cX8_load 118 = .ok (.iconst 2, 1) := by decide +kernel
theorem dX8_load_119 : decode cX8_load 119 = .ok (.ireturn, 1) := by decide +kernel
theorem dX8_calm_0 : decode cX8_calm 0 = .ok (.aload_n 0, 1) := by decide +kernel
theorem dX8_calm_1 : decode cX8_calm 1 = .ok (.iload_n 1, 1) := by decide +kernel
theorem dX8_calm_2 : decode cX8_calm 2 = .ok (.invokevirtual 78, 3) := by decide +kernel
theorem dX8_calm_5 : decode cX8_calm 5 = .ok (.istore_n 2, 1) := by decide +kernel
theorem dX8_calm_6 : decode cX8_calm 6 = .ok (.aload_n 0, 1) := by decide +kernel
theorem dX8_calm_7 : decode cX8_calm 7 = .ok (.getfield 16, 3) := by decide +kernel
theorem dX8_calm_10 : decode cX8_calm 10 = .ok (.sipush 180, 3) := by decide +kernel
theorem dX8_calm_13 : decode cX8_calm 13 = .ok (.iload_n 1, 1) := by decide +kernel
theorem dX8_calm_14 : decode cX8_calm 14 = .ok (.iadd, 1) := by decide +kernel
theorem dX8_calm_15 : decode cX8_calm 15 = .ok (.iconst 0, 1) := by decide +kernel
theorem dX8_calm_16 : decode cX8_calm 16 = .ok (.iastore, 1) := by decide +kernel
theorem dX8_calm_17 : decode cX8_calm 17 = .ok (.iload_n 2, 1) := by decide +kernel
theorem dX8_calm_18 : decode cX8_calm 18 = .ok (.iconst 4, 1) := by decide +kernel
theorem dX8_calm_19 : decode cX8_calm 19 = .ok (.if_icmp .ne 14, 3) := by decide +kernel
theorem dX8_calm_22 : decode cX8_calm 22 = .ok (.aload_n 0, 1) := by decide +kernel
theorem dX8_calm_23 : decode cX8_calm 23 = .ok (.getfield 16, 3) := by decide +kernel
theorem dX8_calm_26 : decode cX8_calm 26 = .ok (.sipush 240, 3) := by decide +kernel
theorem dX8_calm_29 : decode cX8_calm 29 = .ok (.iload_n 1, 1) := by decide +kernel
theorem dX8_calm_30 : decode cX8_calm 30 = .ok (.iadd, 1) := by decide +kernel
theorem dX8_calm_31 : decode cX8_calm 31 = .ok (.iconst 0, 1) := by decide +kernel
theorem dX8_calm_32 : decode cX8_calm 32 = .ok (.iastore, 1) := by decide +kernel
theorem dX8_calm_33 : decode cX8_calm 33 = .ok (.aload_n 0, 1) := by decide +kernel
theorem dX8_calm_34 : decode cX8_calm 34 = .ok (.iload_n 2, 1) := by decide +kernel
theorem dX8_calm_35 : decode cX8_calm 35 = .ok (.iconst 5, 1) := by decide +kernel
theorem dX8_calm_36 : decode cX8_calm 36 = .ok (.invokevirtual 62, 3) := by decide +kernel
theorem dX8_calm_39 : decode cX8_calm 39 = .ok (.ifCond .eq 14, 3) := by decide +kernel
theorem dX8_calm_42 : decode cX8_calm 42 = .ok (.aload_n 0, 1) := by decide +kernel
theorem dX8_calm_43 : decode cX8_calm 43 = .ok (.getfield 16, 3) := by decide +kernel
theorem dX8_calm_46 : decode cX8_calm 46 = .ok (.sipush 300, 3) := by decide +kernel
theorem dX8_calm_49 : decode cX8_calm 49 = .ok (.iload_n 1, 1) := by decide +kernel
theorem dX8_calm_50 : decode cX8_calm 50 = .ok (.iadd, 1) := by decide +kernel
theorem dX8_calm_51 : decode cX8_calm 51 = .ok (.iconst 0, 1) := by decide +kernel
theorem dX8_calm_52 : decode cX8_calm 52 = .ok (.iastore, 1) := by decide +kernel
theorem dX8_calm_53 : decode cX8_calm 53 = .ok (.aload_n 0, 1) := by decide +kernel
theorem dX8_calm_54 : decode cX8_calm 54 = .ok (.iload_n 2, 1) := by decide +kernel
theorem dX8_calm_55 : decode cX8_calm 55 = .ok (.bipush 7, 2) := by decide +kernel
theorem dX8_calm_57 : decode cX8_calm 57 = .ok (.invokevirtual 62, 3) := by decide +kernel
theorem dX8_calm_60 : decode cX8_calm 60 = .ok (.ifCond .eq 23, 3) := by decide +kernel
theorem dX8_calm_63 : decode cX8_calm 63 = .ok (.aload_n 0, 1) := by decide +kernel
theorem dX8_calm_64 : decode cX8_calm 64 = .ok (.getfield 16, 3) := by decide +kernel
theorem dX8_calm_67 : decode cX8_calm 67 = .ok (.bipush 120, 2) := by decide +kernel
theorem dX8_calm_69 : decode cX8_calm 69 = .ok (.iload_n 1, 1) := by decide +kernel
theorem dX8_calm_70 : decode cX8_calm 70 = .ok (.iadd, 1) := by decide +kernel
theorem dX8_calm_71 : decode cX8_calm 71 = .ok (.aload_n 0, 1) := by decide +kernel
theorem dX8_calm_72 : decode cX8_calm 72 = .ok (.getfield 16, 3) := by decide +kernel
theorem dX8_calm_75 : decode cX8_calm 75 = .ok (.bipush 120, 2) := by decide +kernel
theorem dX8_calm_77 : decode cX8_calm 77 = .ok (.iload_n 1, 1) := by decide +kernel
theorem dX8_calm_78 : decode cX8_calm 78 = .ok (.iadd, 1) := by decide +kernel
theorem dX8_calm_79 : decode cX8_calm 79 = .ok (.iaload, 1) := by decide +kernel
theorem dX8_calm_80 : decode cX8_calm 80 = .ok (.iconst 1, 1) := by decide +kernel
theorem dX8_calm_81 : decode cX8_calm 81 = .ok (.ishr, 1) := by decide +kernel
theorem dX8_calm_82 : decode cX8_calm 82 = .ok (.iastore, 1) := by decide +kernel
theorem dX8_calm_83 : decode cX8_calm 83 = .ok (.iload_n 2, 1) := by decide +kernel
theorem dX8_calm_84 : decode cX8_calm 84 = .ok (.bipush 9, 2) := by decide +kernel
theorem dX8_calm_86 : decode cX8_calm 86 = .ok (.if_icmp .ne 14, 3) := by decide +kernel
theorem dX8_calm_89 : decode cX8_calm 89 = .ok (.aload_n 0, 1) := by decide +kernel
theorem dX8_calm_90 : decode cX8_calm 90 = .ok (.getfield 16, 3) := by decide +kernel
theorem dX8_calm_93 : decode cX8_calm 93 = .ok (.sipush 360, 3) := by decide +kernel
theorem dX8_calm_96 : decode cX8_calm 96 = .ok (.iload_n 1, 1) := by decide +kernel
theorem dX8_calm_97 : decode cX8_calm 97 = .ok (.iadd, 1) := by decide +kernel
theorem dX8_calm_98 : decode cX8_calm 98 = .ok (.iconst 0, 1) := by decide +kernel
theorem dX8_calm_99 : decode cX8_calm 99 = .ok (.iastore, 1) := by decide +kernel
theorem dX8_calm_100 : decode cX8_calm 100 = .ok (.iload_n 2, 1) := by decide +kernel
theorem dX8_calm_101 : decode cX8_calm 101 = .ok (.bipush 10, 2) := by decide +kernel
theorem dX8_calm_103 : decode cX8_calm 103 = .ok (.if_icmp .ne 15, 3) := by decide +kernel
theorem dX8_calm_106 : decode cX8_calm 106 = .ok (.aload_n 0, 1) := by decide +kernel
theorem dX8_calm_107 : decode cX8_calm 107 = .ok (.getfield 16, 3) := by decide +kernel
theorem dX8_calm_110 : decode cX8_calm 110 = .ok (.sipush 360, 3) := by decide +kernel
theorem dX8_calm_113 : decode cX8_calm 113 = .ok (.iload_n 1, 1) := by decide +kernel
theorem dX8_calm_114 : decode cX8_calm 114 = .ok (.iadd, 1) := by decide +kernel
theorem dX8_calm_115 : decode cX8_calm 115 = .ok (.bipush 100, 2) := by decide +kernel
theorem dX8_calm_117 : decode cX8_calm 117 = .ok (.iastore, 1) := by decide +kernel
theorem dX8_calm_118 : decode cX8_calm 118 = .ok (.return_, 1) := by decide +kernel
theorem dX8_ticksOf_0 : decode cX8_ticksOf 0 = .ok (.iconst 0, 1) := by decide +kernel
theorem dX8_ticksOf_1 : decode cX8_ticksOf 1 = .ok (.istore_n 3, 1) := by decide +kernel
theorem dX8_ticksOf_2 : decode cX8_ticksOf 2 = .ok (.iconst 0, 1) := by decide +kernel
theorem dX8_ticksOf_3 : decode cX8_ticksOf 3 = .ok (.istore 4, 2) := by decide +kernel
theorem dX8_ticksOf_5 : decode cX8_ticksOf 5 = .ok (.iload 4, 2) := by decide +kernel
theorem dX8_ticksOf_7 : decode cX8_ticksOf 7 = .ok (.iload_n 2, 1) := by decide +kernel
theorem dX8_ticksOf_8 : decode cX8_ticksOf 8 = .ok (.if_icmp .ge 90, 3) := by decide +kernel
theorem dX8_ticksOf_11 : decode cX8_ticksOf 11 = .ok (.aload_n 0, 1) := by decide +kernel
theorem dX8_ticksOf_12 : decode cX8_ticksOf 12 = .ok (.iload_n 1, 1) := by decide +kernel
theorem dX8_ticksOf_13 : decode cX8_ticksOf 13 = .ok (.invokevirtual 78, 3) := by decide +kernel
theorem dX8_ticksOf_16 : decode cX8_ticksOf 16 = .ok (.bipush 10, 2) := by decide +kernel
theorem dX8_ticksOf_18 : decode cX8_ticksOf 18 = .ok (.if_icmp .ne 36, 3) := by decide +kernel
theorem dX8_ticksOf_21 : decode cX8_ticksOf 21 = .ok (.aload_n 0, 1) := by decide +kernel
theorem dX8_ticksOf_22 : decode cX8_ticksOf 22 = .ok (.getfield 16, 3) := by decide +kernel
theorem dX8_ticksOf_25 : decode cX8_ticksOf 25 = .ok (.sipush 360, 3) := by decide +kernel
theorem dX8_ticksOf_28 : decode cX8_ticksOf 28 = .ok (.iload_n 1, 1) := by decide +kernel
theorem dX8_ticksOf_29 : decode cX8_ticksOf 29 = .ok (.iadd, 1) := by decide +kernel
theorem dX8_ticksOf_30 : decode cX8_ticksOf 30 = .ok (.dup2, 1) := by decide +kernel
theorem dX8_ticksOf_31 : decode cX8_ticksOf 31 = .ok (.iaload, 1) := by decide +kernel
theorem dX8_ticksOf_32 : decode cX8_ticksOf 32 = .ok (.iload 4, 2) := by decide +kernel
theorem dX8_ticksOf_34 : decode cX8_ticksOf 34 = .ok (.iconst 1, 1) := by decide +kernel
theorem dX8_ticksOf_35 : decode cX8_ticksOf 35 = .ok (.iadd, 1) := by decide +kernel
theorem dX8_ticksOf_36 : decode cX8_ticksOf 36 = .ok (.iadd, 1) := by decide +kernel
theorem dX8_ticksOf_37 : decode cX8_ticksOf 37 = .ok (.iastore, 1) := by decide +kernel
theorem dX8_ticksOf_38 : decode cX8_ticksOf 38 = .ok (.iload_n 3, 1) := by decide +kernel
theorem dX8_ticksOf_39 : decode cX8_ticksOf 39 = .ok (.aload_n 0, 1) := by decide +kernel
theorem dX8_ticksOf_40 : decode cX8_ticksOf 40 = .ok (.getfield 16, 3) := by decide +kernel
theorem dX8_ticksOf_43 : decode cX8_ticksOf 43 = .ok (.sipush 360, 3) := by decide +kernel
theorem dX8_ticksOf_46 : decode cX8_ticksOf 46 = .ok (.iload_n 1, 1) := by decide +kernel
theorem dX8_ticksOf_47 : decode cX8_ticksOf 47 = .ok (.iadd, 1) := by decide +kernel
theorem dX8_ticksOf_48 : decode cX8_ticksOf 48 = .ok (.iaload, 1) := by decide +kernel
theorem dX8_ticksOf_49 : decode cX8_ticksOf 49 = .ok (.iadd, 1) := by decide +kernel
theorem dX8_ticksOf_50 : decode cX8_ticksOf 50 = .ok (.istore_n 3, 1) := by decide +kernel
theorem dX8_ticksOf_51 : decode cX8_ticksOf 51 = .ok (.goto 41, 3) := by decide +kernel
theorem dX8_ticksOf_54 : decode cX8_ticksOf 54 = .ok (.aload_n 0, 1) := by decide +kernel
theorem dX8_ticksOf_55 : decode cX8_ticksOf 55 = .ok (.getfield 16, 3) := by decide +kernel
theorem dX8_ticksOf_58 : decode cX8_ticksOf 58 = .ok (.sipush 480, 3) := by decide +kernel
theorem dX8_ticksOf_61 : decode cX8_ticksOf 61 = .ok (.iload_n 1, 1) := by decide +kernel
theorem dX8_ticksOf_62 : decode cX8_ticksOf 62 = .ok (.iadd, 1) := by decide +kernel
theorem dX8_ticksOf_63 : decode cX8_ticksOf 63 = .ok (.iconst 3, 1) := by decide +kernel
theorem dX8_ticksOf_64 : decode cX8_ticksOf 64 = .ok (.aload_n 0, 1) := by decide +kernel
theorem dX8_ticksOf_65 : decode cX8_ticksOf 65 = .ok (.getfield 16, 3) := by decide +kernel
theorem dX8_ticksOf_68 : decode cX8_ticksOf 68 = .ok (.sipush 480, 3) := by decide +kernel
theorem dX8_ticksOf_71 : decode cX8_ticksOf 71 = .ok (.iload_n 1, 1) := by decide +kernel
theorem dX8_ticksOf_72 : decode cX8_ticksOf 72 = .ok (.iadd, 1) := by decide +kernel
theorem dX8_ticksOf_73 : decode cX8_ticksOf 73 = .ok (.iaload, 1) := by decide +kernel
theorem dX8_ticksOf_74 : decode cX8_ticksOf 74 = .ok (.imul, 1) := by decide +kernel
theorem dX8_ticksOf_75 : decode cX8_ticksOf 75 = .ok (.iload 4, 2) := by decide +kernel
theorem dX8_ticksOf_77 : decode cX8_ticksOf 77 = .ok (.iadd, 1) := by decide +kernel
theorem dX8_ticksOf_78 : decode cX8_ticksOf 78 = .ok (.iastore, 1) := by decide +kernel
theorem dX8_ticksOf_79 : decode cX8_ticksOf 79 = .ok (.iload_n 3, 1) := by decide +kernel
theorem dX8_ticksOf_80 : decode cX8_ticksOf 80 = .ok (.aload_n 0, 1) := by decide +kernel
theorem dX8_ticksOf_81 : decode cX8_ticksOf 81 = .ok (.getfield 16, 3) := by decide +kernel
theorem dX8_ticksOf_84 : decode cX8_ticksOf 84 = .ok (.sipush 480, 3) := by decide +kernel
theorem dX8_ticksOf_87 : decode cX8_ticksOf 87 = .ok (.iload_n 1, 1) := by decide +kernel
theorem dX8_ticksOf_88 : decode cX8_ticksOf 88 = .ok (.iadd, 1) := by decide +kernel
theorem dX8_ticksOf_89 : decode cX8_ticksOf 89 = .ok (.iaload, 1) := by decide +kernel
theorem dX8_ticksOf_90 : decode cX8_ticksOf 90 = .ok (.iadd, 1) := by decide +kernel
theorem dX8_ticksOf_91 : decode cX8_ticksOf 91 = .ok (.istore_n 3, 1) := by decide +kernel
theorem dX8_ticksOf_92 : decode cX8_ticksOf 92 = .ok (.iinc 4 1, 3) := by decide +kernel
theorem dX8_ticksOf_95 : decode cX8_ticksOf 95 = .ok (.goto (-90), 3) := by decide +kernel
theorem dX8_ticksOf_98 : decode cX8_ticksOf 98 = .ok (.iload_n 3, 1) := by decide +kernel
theorem dX8_ticksOf_99 : decode cX8_ticksOf 99 = .ok (.ireturn, 1) := by decide +kernel
theorem dX8_thingAt_0 : decode cX8_thingAt 0 = .ok (.aload_n 0, 1) := by decide +kernel
theorem dX8_thingAt_1 : decode cX8_thingAt 1 = .ok (.getfield 19, 3) := by decide +kernel
theorem dX8_thingAt_4 : decode cX8_thingAt 4 = .ok (.bipush 12, 2) := by decide +kernel
theorem dX8_thingAt_6 : decode cX8_thingAt 6 = .ok (.iload_n 1, 1) := by decide +kernel
theorem dX8_thingAt_7 : decode cX8_thingAt 7 = .ok (.imul, 1) := by decide +kernel
theorem dX8_thingAt_8 : decode cX8_thingAt 8 = .ok (.iload_n 2, 1) := by decide +kernel
theorem dX8_thingAt_9 : decode cX8_thingAt 9 = .ok (.iadd, 1) := by decide +kernel
theorem dX8_thingAt_10 : decode cX8_thingAt 10 = .ok (.laload, 1) := by decide +kernel
theorem dX8_thingAt_11 : decode cX8_thingAt 11 = .ok (.l2i, 1) := by decide +kernel
theorem dX8_thingAt_12 : decode cX8_thingAt 12 = .ok (.iconst 1, 1) := by decide +kernel
theorem dX8_thingAt_13 : decode cX8_thingAt 13 = .ok (.isub, 1) := by decide +kernel
theorem dX8_thingAt_14 : decode cX8_thingAt 14 = .ok (.ireturn, 1) := by decide +kernel
theorem dX8_playRow_0 : decode cX8_playRow 0 = .ok (.iload_n 2, 1) := by decide +kernel
theorem dX8_playRow_1 : decode cX8_playRow 1 = .ok (.istore_n 3, 1) := by decide +kernel
theorem dX8_playRow_2 : decode cX8_playRow 2 = .ok (.iconst 0, 1) := by decide +kernel
theorem dX8_playRow_3 : decode cX8_playRow 3 = .ok (.istore 4, 2) := by decide +kernel
theorem dX8_playRow_5 : decode cX8_playRow 5 = .ok (.iload 4, 2) := by decide +kernel
theorem dX8_playRow_7 : decode cX8_playRow 7 = .ok (.aload_n 0, 1) := by decide +kernel
theorem dX8_playRow_8 : decode cX8_playRow 8 = .ok (.iload_n 1, 1) := by decide +kernel
theorem dX8_playRow_9 : decode cX8_playRow 9 = .ok (.invokevirtual 68, 3) := by decide +kernel
theorem dX8_playRow_12 : decode cX8_playRow 12 = .ok (.if_icmp .ge 31, 3) := by decide +kernel
theorem dX8_playRow_15 : decode cX8_playRow 15 = .ok (.aload_n 0, 1) := by decide +kernel
theorem dX8_playRow_16 : decode cX8_playRow 16 = .ok (.iload_n 1, 1) := by decide +kernel
theorem dX8_playRow_17 : decode cX8_playRow 17 = .ok (.iload 4, 2) := by decide +kernel
theorem dX8_playRow_19 : decode cX8_playRow 19 = .ok (.invokevirtual 85, 3) := by decide +kernel
theorem dX8_playRow_22 : decode cX8_playRow 22 = .ok (.istore 5, 2) := by decide +kernel
theorem dX8_playRow_24 : decode cX8_playRow 24 = .ok (.iload 5, 2) := by decide +kernel
theorem dX8_playRow_26 : decode cX8_playRow 26 = .ok (.ifCond .lt 11, 3) := by decide +kernel
theorem dX8_playRow_29 : decode cX8_playRow 29 = .ok (.aload_n 0, 1) := by decide +kernel
theorem dX8_playRow_30 : decode cX8_playRow 30 = .ok (.iload 5, 2) := by decide +kernel
theorem dX8_playRow_32 : decode cX8_playRow 32 = .ok (.iload_n 3, 1) := by decide +kernel
theorem dX8_playRow_33 : decode cX8_playRow 33 = .ok (.invokevirtual 88, 3) := by decide +kernel
theorem dX8_playRow_36 : decode cX8_playRow 36 = .ok (.istore_n 3, 1) := by decide +kernel
theorem dX8_playRow_37 : decode cX8_playRow 37 = .ok (.iinc 4 1, 3) := by decide +kernel
theorem dX8_playRow_40 : decode cX8_playRow 40 = .ok (.goto (-35), 3) := by decide +kernel
theorem dX8_playRow_43 : decode cX8_playRow 43 = .ok (.iload_n 3, 1) := by decide +kernel
theorem dX8_playRow_44 : decode cX8_playRow 44 = .ok (.ireturn, 1) := by decide +kernel
theorem dX8_playThing_0 : decode cX8_playThing 0 = .ok (.aload_n 0, 1) := by decide +kernel
theorem dX8_playThing_1 : decode cX8_playThing 1 = .ok (.aload_n 0, 1) := by decide +kernel
theorem dX8_playThing_2 : decode cX8_playThing 2 = .ok (.iload_n 1, 1) := by decide +kernel
theorem dX8_playThing_3 : decode cX8_playThing 3 = .ok (.invokevirtual 78, 3) := by decide +kernel
theorem dX8_playThing_6 : decode cX8_playThing 6 = .ok (.invokevirtual 65, 3) := by decide +kernel
theorem dX8_playThing_9 : decode cX8_playThing 9 = .ok (.ifCond .eq 10, 3) := by decide +kernel
theorem dX8_playThing_12 : decode cX8_playThing 12 = .ok (.aload_n 0, 1) := by decide +kernel
theorem dX8_playThing_13 : decode cX8_playThing 13 = .ok (.iload_n 1, 1) := by decide +kernel
theorem dX8_playThing_14 : decode cX8_playThing 14 = .ok (.iload_n 2, 1) := by decide +kernel
theorem dX8_playThing_15 : decode cX8_playThing 15 = .ok (.invokevirtual 88, 3) := by decide +kernel
theorem dX8_playThing_18 : decode cX8_playThing 18 = .ok (.ireturn, 1) := by decide +kernel
theorem dX8_playThing_19 : decode cX8_playThing 19 = .ok (.aload_n 0, 1) := by decide +kernel
theorem dX8_playThing_20 : decode cX8_playThing 20 = .ok (.iload_n 1, 1) := by decide +kernel
theorem dX8_playThing_21 : decode cX8_playThing 21 = .ok (.invokevirtual 78, 3) := by decide +kernel
theorem dX8_playThing_24 : decode cX8_playThing 24 = .ok (.invokestatic 55, 3) := by decide +kernel
theorem dX8_playThing_27 : decode cX8_playThing 27 = .ok (.ifCond .ne 10, 3) := by decide +kernel
theorem dX8_playThing_30 : decode cX8_playThing 30 = .ok (.aload_n 0, 1) := by decide +kernel
theorem dX8_playThing_31 : decode cX8_playThing 31 = .ok (.iload_n 1, 1) := by decide +kernel
theorem dX8_playThing_32 : decode cX8_playThing 32 = .ok (.iload_n 2, 1) := by decide +kernel
theorem dX8_playThing_33 : decode cX8_playThing 33 = .ok (.invokevirtual 91, 3) := by decide +kernel
theorem dX8_playThing_36 : decode cX8_playThing 36 = .ok (.ireturn, 1) := by decide +kernel
theorem dX8_playThing_37 : decode cX8_playThing 37 = .ok (.iload_n 2, 1) := by decide +kernel
theorem dX8_playThing_38 : decode cX8_playThing 38 = .ok (.istore_n 3, 1) := by decide +kernel
theorem dX8_playThing_39 : decode cX8_playThing 39 = .ok (.iconst 0, 1) := by decide +kernel
theorem dX8_playThing_40 : decode cX8_playThing 40 = .ok (.istore 4, 2) := by decide +kernel
theorem dX8_playThing_42 : decode cX8_playThing 42 = .ok (.iload 4, 2) := by decide +kernel
theorem dX8_playThing_44 : decode cX8_playThing 44 = .ok (.aload_n 0, 1) := by decide +kernel
theorem dX8_playThing_45 : decode cX8_playThing 45 = .ok (.iload_n 1, 1) := by decide +kernel
theorem dX8_playThing_46 : decode cX8_playThing 46 = .ok (.invokevirtual 68, 3) := by decide +kernel
theorem dX8_playThing_49 : decode cX8_playThing 49 = .ok (.if_icmp .ge 31, 3) := by decide +kernel
theorem dX8_playThing_52 : decode cX8_playThing 52 = .ok (.aload_n 0, 1) := by decide +kernel
theorem dX8_playThing_53 : decode cX8_playThing 53 = .ok (.iload_n 1, 1) := by decide +kernel
theorem dX8_playThing_54 : decode cX8_playThing 54 = .ok (.iload 4, 2) := by decide +kernel
theorem dX8_playThing_56 : decode cX8_playThing 56 = .ok (.invokevirtual 85, 3) := by decide +kernel
theorem dX8_playThing_59 : decode cX8_playThing 59 = .ok (.istore 5, 2) := by decide +kernel
theorem dX8_playThing_61 : decode cX8_playThing 61 = .ok (.iload 5, 2) := by decide +kernel
theorem dX8_playThing_63 : decode cX8_playThing 63 = .ok (.ifCond .lt 11, 3) := by decide +kernel
theorem dX8_playThing_66 : decode cX8_playThing 66 = .ok (.aload_n 0, 1) := by decide +kernel
theorem dX8_playThing_67 : decode cX8_playThing 67 = .ok (.iload 5, 2) := by decide +kernel
theorem dX8_playThing_69 : decode cX8_playThing 69 = .ok (.iload_n 3, 1) := by decide +kernel
theorem dX8_playThing_70 : decode cX8_playThing 70 = .ok (.invokevirtual 91, 3) := by decide +kernel
theorem dX8_playThing_73 : decode cX8_playThing 73 = .ok (.istore_n 3, 1) := by decide +kernel
theorem dX8_playThing_74 : decode cX8_playThing 74 = .ok (.iinc 4 1, 3) := by decide +kernel
theorem dX8_playThing_77 : decode cX8_playThing 77 = .ok (.goto (-35), 3) := by decide +kernel
theorem dX8_playThing_80 : decode cX8_playThing 80 = .ok (.iload_n 3, 1) := by decide +kernel
theorem dX8_playThing_81 : decode cX8_playThing 81 = .ok (.ireturn, 1) := by decide +kernel
theorem dX8_calmRow_0 : decode cX8_calmRow 0 = .ok (.iconst 0, 1) := by decide +kernel
theorem dX8_calmRow_1 : decode cX8_calmRow 1 = .ok (.istore_n 2, 1) := by decide +kernel
theorem dX8_calmRow_2 : decode cX8_calmRow 2 = .ok (.iconst 0, 1) := by decide +kernel
theorem dX8_calmRow_3 : decode cX8_calmRow 3 = .ok (.istore_n 3, 1) := by decide +kernel
theorem dX8_calmRow_4 : decode cX8_calmRow 4 = .ok (.iload_n 3, 1) := by decide +kernel
theorem dX8_calmRow_5 : decode cX8_calmRow 5 = .ok (.aload_n 0, 1) := by decide +kernel
theorem dX8_calmRow_6 : decode cX8_calmRow 6 = .ok (.iload_n 1, 1) := by decide +kernel
theorem dX8_calmRow_7 : decode cX8_calmRow 7 = .ok (.invokevirtual 68, 3) := by decide +kernel
theorem dX8_calmRow_10 : decode cX8_calmRow 10 = .ok (.if_icmp .ge 31, 3) := by decide +kernel
theorem dX8_calmRow_13 : decode cX8_calmRow 13 = .ok (.aload_n 0, 1) := by decide +kernel
theorem dX8_calmRow_14 : decode cX8_calmRow 14 = .ok (.iload_n 1, 1) := by decide +kernel
theorem dX8_calmRow_15 : decode cX8_calmRow 15 = .ok (.iload_n 3, 1) := by decide +kernel
theorem dX8_calmRow_16 : decode cX8_calmRow 16 = .ok (.invokevirtual 85, 3) := by decide +kernel
theorem dX8_calmRow_19 : decode cX8_calmRow 19 = .ok (.istore 4, 2) := by decide +kernel
theorem dX8_calmRow_21 : decode cX8_calmRow 21 = .ok (.iload 4, 2) := by decide +kernel
theorem dX8_calmRow_23 : decode cX8_calmRow 23 = .ok (.ifCond .lt 12, 3) := by decide +kernel
theorem dX8_calmRow_26 : decode cX8_calmRow 26 = .ok (.aload_n 0, 1) := by decide +kernel
theorem dX8_calmRow_27 : decode cX8_calmRow 27 = .ok (.iload 4, 2) := by decide +kernel
theorem dX8_calmRow_29 : decode cX8_calmRow 29 = .ok (.invokevirtual 94, 3) := by decide +kernel
theorem dX8_calmRow_32 : decode cX8_calmRow 32 = .ok (.iinc 2 1, 3) := by decide +kernel
theorem dX8_calmRow_35 : decode cX8_calmRow 35 = .ok (.iinc 3 1, 3) := by decide +kernel
theorem dX8_calmRow_38 : decode cX8_calmRow 38 = .ok (.goto (-34), 3) := by decide +kernel
theorem dX8_calmRow_41 : decode cX8_calmRow 41 = .ok (.iload_n 2, 1) := by decide +kernel
theorem dX8_calmRow_42 : decode cX8_calmRow 42 = .ok (.ireturn, 1) := by decide +kernel
theorem dX8_makeNew_0 : decode cX8_makeNew 0 = .ok (.iload_n 1, 1) := by decide +kernel
theorem dX8_makeNew_1 : decode cX8_makeNew 1 = .ok (.invokestatic 98, 3) := by decide +kernel
theorem dX8_makeNew_4 : decode cX8_makeNew 4 = .ok (.ifCond .eq 29, 3) := by decide +kernel
theorem dX8_makeNew_7 : decode cX8_makeNew 7 = .ok (.iload_n 2, 1) := by decide +kernel
theorem dX8_makeNew_8 : decode cX8_makeNew 8 = .ok (.ifCond .lt 25, 3) := by decide +kernel
theorem dX8_makeNew_11 : decode cX8_makeNew 11 = .ok (.iload_n 2, 1) := by decide +kernel
theorem dX8_makeNew_12 : decode cX8_makeNew 12 = .ok (.bipush 24, 2) := by decide +kernel
theorem dX8_makeNew_14 : decode cX8_makeNew 14 = .ok (.if_icmp .gt 19, 3) := by decide +kernel
theorem dX8_makeNew_17 : decode cX8_makeNew 17 = .ok (.iload_n 2, 1) := by decide +kernel
theorem dX8_makeNew_18 : decode cX8_makeNew 18 = .ok (.bipush 12, 2) := by decide +kernel
theorem dX8_makeNew_20 : decode cX8_makeNew 20 = .ok (.if_icmp .eq 13, 3) := by decide +kernel
theorem dX8_makeNew_23 : decode cX8_makeNew 23 = .ok (.iload_n 3, 1) := by decide +kernel
theorem dX8_makeNew_24 : decode cX8_makeNew 24 = .ok (.ifCond .lt 9, 3) := by decide +kernel
theorem dX8_makeNew_27 : decode cX8_makeNew 27 = .ok (.iload_n 3, 1) := by decide +kernel
theorem dX8_makeNew_28 : decode cX8_makeNew 28 = .ok (.bipush 12, 2) := by decide +kernel
theorem dX8_makeNew_30 : decode cX8_makeNew 30 = .ok (.if_icmp .le 9, 3) := by decide +kernel
theorem dX8_makeNew_33 : decode cX8_makeNew 33 = .ok (.aload_n 0, 1) := by decide +kernel
theorem dX8_makeNew_34 : decode cX8_makeNew 34 = .ok (.iconst 1, 1) := by decide +kernel
theorem dX8_makeNew_35 : decode cX8_makeNew 35 = .ok (.invokevirtual 101, 3) := by decide +kernel
theorem dX8_makeNew_38 : decode cX8_makeNew 38 = .ok (.ireturn, 1) := by decide +kernel
theorem dX8_makeNew_39 : decode cX8_makeNew 39 = .ok (.aload_n 0, 1) := by decide +kernel
theorem dX8_makeNew_40 : decode cX8_makeNew 40 = .ok (.getfield 16, 3) := by decide +kernel
theorem dX8_makeNew_43 : decode cX8_makeNew 43 = .ok (.sipush 556, 3) := by decide +kernel
theorem dX8_makeNew_46 : decode cX8_makeNew 46 = .ok (.iaload, 1) := by decide +kernel
theorem dX8_makeNew_47 : decode cX8_makeNew 47 = .ok (.bipush 60, 2) := by decide +kernel
theorem dX8_makeNew_49 : decode cX8_makeNew 49 = .ok (.if_icmp .ne 10, 3) := by decide +kernel
theorem dX8_makeNew_52 : decode cX8_makeNew 52 = .ok (.aload_n 0, 1) := by decide +kernel
theorem dX8_makeNew_53 : decode cX8_makeNew 53 = .ok (.bipush 6, 2) := by decide +kernel
theorem dX8_makeNew_55 : decode cX8_makeNew 55 = .ok (.invokevirtual 101, 3) := by decide +kernel
theorem dX8_makeNew_58 : decode cX8_makeNew 58 = .ok (.ireturn, 1) := by decide +kernel
theorem dX8_makeNew_59 : decode cX8_makeNew 59 = .ok (.aload_n 0, 1) := by decide +kernel
theorem dX8_makeNew_60 : decode cX8_makeNew 60 = .ok (.getfield 16, 3) := by decide +kernel
theorem dX8_makeNew_63 : decode cX8_makeNew 63 = .ok (.sipush 556, 3) := by decide +kernel
theorem dX8_makeNew_66 : decode cX8_makeNew 66 = .ok (.iaload, 1) := by decide +kernel
theorem dX8_makeNew_67 : decode cX8_makeNew 67 = .ok (.istore 4, 2) := by decide +kernel
theorem dX8_makeNew_69 : decode cX8_makeNew 69 = .ok (.iconst 0, 1) := by decide +kernel
theorem dX8_makeNew_70 : decode cX8_makeNew 70 = .ok (.istore 5, 2) := by decide +kernel
theorem dX8_makeNew_72 : decode cX8_makeNew 72 = .ok (.iload 5, 2) := by decide +kernel
theorem dX8_makeNew_74 : decode cX8_makeNew 74 = .ok (.sipush 540, 3) := by decide +kernel
theorem dX8_makeNew_77 : decode cX8_makeNew 77 = .ok (.if_icmp .ge 20, 3) := by decide +kernel
theorem dX8_makeNew_80 : decode cX8_makeNew 80 = .ok (.aload_n 0, 1) := by decide +kernel
theorem dX8_makeNew_81 : decode cX8_makeNew 81 = .ok (.getfield 16, 3) := by decide +kernel
theorem dX8_makeNew_84 : decode cX8_makeNew 84 = .ok (.iload 5, 2) := by decide +kernel
theorem dX8_makeNew_86 : decode cX8_makeNew 86 = .ok (.iload 4, 2) := by decide +kernel
theorem dX8_makeNew_88 : decode cX8_makeNew 88 = .ok (.iadd, 1) := by decide +kernel
theorem dX8_makeNew_89 : decode cX8_makeNew 89 = .ok (.iconst 0, 1) := by decide +kernel
theorem dX8_makeNew_90 : decode cX8_makeNew 90 = .ok (.iastore, 1) := by decide +kernel
theorem dX8_makeNew_91 : decode cX8_makeNew 91 = .ok (.iinc 5 60, 3) := by decide +kernel
theorem dX8_makeNew_94 : decode cX8_makeNew 94 = .ok (.goto (-22), 3) := by decide +kernel
theorem dX8_makeNew_97 : decode cX8_makeNew 97 = .ok (.iconst 0, 1) := by decide +kernel
theorem dX8_makeNew_98 : decode cX8_makeNew 98 = .ok (.istore 5, 2) := by decide +kernel
theorem dX8_makeNew_100 : decode cX8_makeNew 100 = .ok (.iload 5, 2) := by decide +kernel
theorem dX8_makeNew_102 : decode cX8_makeNew 102 = .ok (.bipush 12, 2) := by decide +kernel
theorem dX8_makeNew_104 : decode cX8_makeNew 104 = .ok (.if_icmp .ge 23, 3) := by decide +kernel
theorem dX8_makeNew_107 : decode cX8_makeNew 107 = .ok (.aload_n 0, 1) := by decide +kernel
theorem dX8_makeNew_108 : decode cX8_makeNew 108 = .ok (.getfield 19, 3) := by decide +kernel
theorem dX8_makeNew_111 : decode cX8_makeNew 111 = .ok (.bipush 12, 2) := by decide +kernel
theorem dX8_makeNew_113 : decode cX8_makeNew 113 = .ok (.iload 4, 2) := by decide +kernel
theorem dX8_makeNew_115 : decode cX8_makeNew 115 = .ok (.imul, 1) := by decide +kernel
theorem dX8_makeNew_116 : decode cX8_makeNew 116 = .ok (.iload 5, 2) := by decide +kernel
theorem dX8_makeNew_118 : decode cX8_makeNew 118 = .ok (.iadd, 1) := by decide +kernel
theorem dX8_makeNew_119 : decode cX8_makeNew 119 = .ok (.lconst 0, 1) := by decide +kernel
theorem dX8_makeNew_120 : decode cX8_makeNew 120 = .ok (.lastore, 1) := by decide +kernel
theorem dX8_makeNew_121 : decode cX8_makeNew 121 = .ok (.iinc 5 1, 3) := by decide +kernel
theorem dX8_makeNew_124 : decode cX8_makeNew 124 = .ok (.goto (-24), 3) := by decide +kernel
theorem dX8_makeNew_127 : decode cX8_makeNew 127 = .ok (.aload_n 0, 1) := by decide +kernel
theorem dX8_makeNew_128 : decode cX8_makeNew 128 = .ok (.getfield 16, 3) := by decide +kernel
theorem dX8_makeNew_131 : decode cX8_makeNew 131 = .ok (.iconst 0, 1) := by decide +kernel
theorem dX8_makeNew_132 : decode cX8_makeNew 132 = .ok (.iload 4, 2) := by decide +kernel
theorem dX8_makeNew_134 : decode cX8_makeNew 134 = .ok (.iadd, 1) := by decide +kernel
theorem dX8_makeNew_135 : decode cX8_makeNew 135 = .ok (.iload_n 2, 1) := by decide +kernel
theorem dX8_makeNew_136 : decode cX8_makeNew 136 = .ok (.iastore, 1) := by decide +kernel
theorem dX8_makeNew_137 : decode cX8_makeNew 137 = .ok (.aload_n 0, 1) := by decide +kernel
theorem dX8_makeNew_138 : decode cX8_makeNew 138 = .ok (.getfield 16, 3) := by decide +kernel
theorem dX8_makeNew_141 : decode cX8_makeNew 141 = .ok (.bipush 60, 2) := by decide +kernel
theorem dX8_makeNew_143 : decode cX8_makeNew 143 = .ok (.iload 4, 2) := by decide +kernel
theorem dX8_makeNew_145 : decode cX8_makeNew 145 = .ok (.iadd, 1) := by decide +kernel
theorem dX8_makeNew_146 : decode cX8_makeNew 146 = .ok (.iload_n 2, 1) := by decide +kernel
theorem dX8_makeNew_147 : decode cX8_makeNew 147 = .ok (.bipush 13, 2) := by decide +kernel
theorem dX8_makeNew_149 : decode cX8_makeNew 149 = .ok (.if_icmp .lt 7, 3) := by decide +kernel
theorem dX8_makeNew_152 : decode cX8_makeNew 152 = .ok (.iload_n 3, 1) := by decide +kernel
theorem dX8_makeNew_153 : decode cX8_makeNew 153 = .ok (.goto 4, 3) := by decide +kernel
theorem dX8_makeNew_156 : decode cX8_makeNew 156 = .ok (.iconst 0, 1) := by decide +kernel
theorem dX8_makeNew_157 : decode cX8_makeNew 157 = .ok (.iastore, 1) := by decide +kernel
theorem dX8_makeNew_158 : decode cX8_makeNew 158 = .ok (.aload_n 0, 1) := by decide +kernel
theorem dX8_makeNew_159 : decode cX8_makeNew 159 = .ok (.getfield 16, 3) := by decide +kernel
theorem dX8_makeNew_162 : decode cX8_makeNew 162 = .ok (.bipush 120, 2) := by decide +kernel
theorem dX8_makeNew_164 : decode cX8_makeNew 164 = .ok (.iload 4, 2) := by decide +kernel
theorem dX8_makeNew_166 : decode cX8_makeNew 166 = .ok (.iadd, 1) := by decide +kernel
theorem dX8_makeNew_167 : decode cX8_makeNew 167 = .ok (.aload_n 0, 1) := by decide +kernel
theorem dX8_makeNew_168 : decode cX8_makeNew 168 = .ok (.iload_n 2, 1) := by decide +kernel
theorem dX8_makeNew_169 : decode cX8_makeNew 169 = .ok (.invokevirtual 65, 3) := by decide +kernel
theorem dX8_makeNew_172 : decode cX8_makeNew 172 = .ok (.ifCond .eq 8, 3) := by decide +kernel
theorem dX8_makeNew_175 : decode cX8_makeNew 175 = .ok (.bipush 8, 2) := by decide +kernel
theorem dX8_makeNew_177 : decode cX8_makeNew 177 = .ok (.goto 4, 3) := by decide +kernel
theorem dX8_makeNew_180 : decode cX8_makeNew 180 = .ok (.iconst 0, 1) := by decide +kernel
theorem dX8_makeNew_181 : decode cX8_makeNew 181 = .ok (.iastore, 1) := by decide +kernel
theorem dX8_makeNew_182 : decode cX8_makeNew 182 = .ok (.aload_n 0, 1) := by decide +kernel
theorem dX8_makeNew_183 : decode cX8_makeNew 183 = .ok (.getfield 16, 3) := by decide +kernel
theorem dX8_makeNew_186 : decode cX8_makeNew 186 = .ok (.sipush 540, 3) := by decide +kernel
theorem dX8_makeNew_189 : decode cX8_makeNew 189 = .ok (.iload_n 1, 1) := by decide +kernel
theorem dX8_makeNew_190 : decode cX8_makeNew 190 = .ok (.iadd, 1) := by decide +kernel
theorem dX8_makeNew_191 : decode cX8_makeNew 191 = .ok (.iload 4, 2) := by decide +kernel
theorem dX8_makeNew_193 : decode cX8_makeNew 193 = .ok (.iconst 1, 1) := by decide +kernel
theorem dX8_makeNew_194 : decode cX8_makeNew 194 = .ok (.iadd, 1) := by decide +kernel
theorem dX8_makeNew_195 : decode cX8_makeNew 195 = .ok (.iastore, 1) := by decide +kernel
theorem dX8_makeNew_196 : decode cX8_makeNew 196 = .ok (.aload_n 0, 1) := by decide +kernel
theorem dX8_makeNew_197 : decode cX8_makeNew 197 = .ok (.getfield 16, 3) := by decide +kernel
theorem dX8_makeNew_200 : decode cX8_makeNew 200 = .ok (.sipush 556, 3) := by decide +kernel
theorem dX8_makeNew_203 : decode cX8_makeNew 203 = .ok (.dup2, 1) := by decide +kernel
theorem dX8_makeNew_204 : decode cX8_makeNew 204 = .ok (.iaload, 1) := by decide +kernel
theorem dX8_makeNew_205 : decode cX8_makeNew 205 = .ok (.iconst 1, 1) := by decide +kernel
theorem dX8_makeNew_206 : decode cX8_makeNew 206 = .ok (.iadd, 1) := by decide +kernel
theorem dX8_makeNew_207 : decode cX8_makeNew 207 = .ok (.iastore, 1) := by decide +kernel
theorem dX8_makeNew_208 : decode cX8_makeNew 208 = .ok (.iload 4, 2) := by decide +kernel
theorem dX8_makeNew_210 : decode cX8_makeNew 210 = .ok (.ireturn, 1) := by decide +kernel
theorem dX8_layOn_0 : decode cX8_layOn 0 = .ok (.iload_n 1, 1) := by decide +kernel
theorem dX8_layOn_1 : decode cX8_layOn 1 = .ok (.invokestatic 98, 3) := by decide +kernel
theorem dX8_layOn_4 : decode cX8_layOn 4 = .ok (.ifCond .eq 10, 3) := by decide +kernel
theorem dX8_layOn_7 : decode cX8_layOn 7 = .ok (.iload_n 2, 1) := by decide +kernel
theorem dX8_layOn_8 : decode cX8_layOn 8 = .ok (.invokestatic 98, 3) := by decide +kernel
theorem dX8_layOn_11 : decode cX8_layOn 11 = .ok (.ifCond .ne 9, 3) := by decide +kernel
theorem dX8_layOn_14 : decode cX8_layOn 14 = .ok (.aload_n 0, 1) := by decide +kernel
theorem dX8_layOn_15 : decode cX8_layOn 15 = .ok (.iconst 1, 1) := by decide +kernel
theorem dX8_layOn_16 : decode cX8_layOn 16 = .ok (.invokevirtual 101, 3) := by decide +kernel
theorem dX8_layOn_19 : decode cX8_layOn 19 = .ok (.ireturn, 1) := by decide +kernel
theorem dX8_layOn_20 : decode cX8_layOn 20 = .ok (.aload_n 0, 1) := by decide +kernel
theorem dX8_layOn_21 : decode cX8_layOn 21 = .ok (.getfield 16, 3) := by decide +kernel
theorem dX8_layOn_24 : decode cX8_layOn 24 = .ok (.sipush 540, 3) := by decide +kernel
theorem dX8_layOn_27 : decode cX8_layOn 27 = .ok (.iload_n 2, 1) := by decide +kernel
theorem dX8_layOn_28 : decode cX8_layOn 28 = .ok (.iadd, 1) := by decide +kernel
theorem dX8_layOn_29 : decode cX8_layOn 29 = .ok (.aload_n 0, 1) := by decide +kernel
theorem dX8_layOn_30 : decode cX8_layOn 30 = .ok (.getfield 16, 3) := by decide +kernel
theorem dX8_layOn_33 : decode cX8_layOn 33 = .ok (.sipush 540, 3) := by decide +kernel
theorem dX8_layOn_36 : decode cX8_layOn 36 = .ok (.iload_n 1, 1) := by decide +kernel
theorem dX8_layOn_37 : decode cX8_layOn 37 = .ok (.iadd, 1) := by decide +kernel
theorem dX8_layOn_38 : decode cX8_layOn 38 = .ok (.iaload, 1) := by decide +kernel
theorem dX8_layOn_39 : decode cX8_layOn 39 = .ok (.iastore, 1) := by decide +kernel
theorem dX8_layOn_40 : decode cX8_layOn 40 = .ok (.aload_n 0, 1) := by decide +kernel
theorem dX8_layOn_41 : decode cX8_layOn 41 = .ok (.getfield 16, 3) := by decide +kernel
theorem dX8_layOn_44 : decode cX8_layOn 44 = .ok (.sipush 540, 3) := by decide +kernel
theorem dX8_layOn_47 : decode cX8_layOn 47 = .ok (.iload_n 2, 1) := by decide +kernel
theorem dX8_layOn_48 : decode cX8_layOn 48 = .ok (.iadd, 1) := by decide +kernel
theorem dX8_layOn_49 : decode cX8_layOn 49 = .ok (.iaload, 1) := by decide +kernel
theorem dX8_layOn_50 : decode cX8_layOn 50 = .ok (.ifCond .le 7, 3) := by decide +kernel
theorem dX8_layOn_53 : decode cX8_layOn 53 = .ok (.iconst 1, 1) := by decide +kernel
theorem dX8_layOn_54 : decode cX8_layOn 54 = .ok (.goto 4, 3) := by decide +kernel
theorem dX8_layOn_57 : decode cX8_layOn 57 = .ok (.iconst 0, 1) := by decide +kernel
theorem dX8_layOn_58 : decode cX8_layOn 58 = .ok (.ireturn, 1) := by decide +kernel
theorem dX8_reasonOfPlace_0 : decode cX8_reasonOfPlace 0 = .ok (.aload_n 0, 1) := by decide +kernel
theorem dX8_reasonOfPlace_1 : decode cX8_reasonOfPlace 1 = .ok (.iload_n 1, 1) := by decide +kernel
theorem dX8_reasonOfPlace_2 : decode cX8_reasonOfPlace 2 = .ok (.invokevirtual 104, 3) := by decide +kernel
theorem dX8_reasonOfPlace_5 : decode cX8_reasonOfPlace 5 = .ok (.ifCond .ge 5, 3) := by decide +kernel
theorem dX8_reasonOfPlace_8 : decode cX8_reasonOfPlace 8 = .ok (.iconst 2, 1) := by decide +kernel
theorem dX8_reasonOfPlace_9 : decode cX8_reasonOfPlace 9 = .ok (.ireturn, 1) := by decide +kernel
theorem dX8_reasonOfPlace_10 : decode cX8_reasonOfPlace 10 = .ok (.aload_n 0, 1) := by decide +kernel
theorem dX8_reasonOfPlace_11 : decode cX8_reasonOfPlace 11 = .ok (.aload_n 0, 1) := by decide +kernel
theorem dX8_reasonOfPlace_12 : decode cX8_reasonOfPlace 12 = .ok (.iload_n 1, 1) := by decide +kernel
theorem dX8_reasonOfPlace_13 : decode cX8_reasonOfPlace 13 = .ok (.invokevirtual 104, 3) := by decide +kernel
theorem dX8_reasonOfPlace_16 : decode cX8_reasonOfPlace 16 = .ok (.invokevirtual 78, 3) := by decide +kernel
theorem dX8_reasonOfPlace_19 : decode cX8_reasonOfPlace 19 = .ok (.invokestatic 107, 3) := by decide +kernel
theorem dX8_reasonOfPlace_22 : decode cX8_reasonOfPlace 22 = .ok (.ifCond .ne 5, 3) := by decide +kernel
theorem dX8_reasonOfPlace_25 : decode cX8_reasonOfPlace 25 = .ok (.iconst 3, 1) := by decide +kernel
theorem dX8_reasonOfPlace_26 : decode cX8_reasonOfPlace 26 = .ok (.ireturn, 1) := by decide +kernel
theorem dX8_reasonOfPlace_27 : decode cX8_reasonOfPlace 27 = .ok (.aload_n 0, 1) := by decide +kernel
theorem dX8_reasonOfPlace_28 : decode cX8_reasonOfPlace 28 = .ok (.aload_n 0, 1) := by decide +kernel
theorem dX8_reasonOfPlace_29 : decode cX8_reasonOfPlace 29 = .ok (.iload_n 1, 1) := by decide +kernel
theorem dX8_reasonOfPlace_30 : decode cX8_reasonOfPlace 30 = .ok (.invokevirtual 104, 3) := by decide +kernel
theorem dX8_reasonOfPlace_33 : decode cX8_reasonOfPlace 33 = .ok (.iload_n 2, 1) := by decide +kernel
theorem dX8_reasonOfPlace_34 : decode cX8_reasonOfPlace 34 = .ok (.invokevirtual 110, 3) := by decide +kernel
theorem dX8_reasonOfPlace_37 : decode cX8_reasonOfPlace 37 = .ok (.ifCond .eq 7, 3) := by decide +kernel
theorem dX8_reasonOfPlace_40 : decode cX8_reasonOfPlace 40 = .ok (.iconst 0, 1) := by decide +kernel
theorem dX8_reasonOfPlace_41 : decode cX8_reasonOfPlace 41 = .ok (.goto 4, 3) := by decide +kernel
theorem dX8_reasonOfPlace_44 : decode cX8_reasonOfPlace 44 = .ok (.iconst 4, 1) := by decide +kernel
theorem dX8_reasonOfPlace_45 : decode cX8_reasonOfPlace 45 = .ok (.ireturn, 1) := by decide +kernel
theorem dX8_plugIn_0 : decode cX8_plugIn 0 = .ok (.iload_n 1, 1) := by decide +kernel
theorem dX8_plugIn_1 : decode cX8_plugIn 1 = .ok (.invokestatic 98, 3) := by decide +kernel
theorem dX8_plugIn_4 : decode cX8_plugIn 4 = .ok (.ifCond .eq 10, 3) := by decide +kernel
theorem dX8_plugIn_7 : decode cX8_plugIn 7 = .ok (.iload_n 3, 1) := by decide +kernel
theorem dX8_plugIn_8 : decode cX8_plugIn 8 = .ok (.invokestatic 98, 3) := by decide +kernel
theorem dX8_plugIn_11 : decode cX8_plugIn 11 = .ok (.ifCond .ne 9, 3) := by decide +kernel
theorem dX8_plugIn_14 : decode cX8_plugIn 14 = .ok (.aload_n 0, 1) := by decide +kernel
theorem dX8_plugIn_15 : decode cX8_plugIn 15 = .ok (.iconst 1, 1) := by decide +kernel
theorem dX8_plugIn_16 : decode cX8_plugIn 16 = .ok (.invokevirtual 101, 3) := by decide +kernel
theorem dX8_plugIn_19 : decode cX8_plugIn 19 = .ok (.ireturn, 1) := by decide +kernel
theorem dX8_plugIn_20 : decode cX8_plugIn 20 = .ok (.aload_n 0, 1) := by decide +kernel
theorem dX8_plugIn_21 : decode cX8_plugIn 21 = .ok (.iload_n 1, 1) := by decide +kernel
theorem dX8_plugIn_22 : decode cX8_plugIn 22 = .ok (.iload_n 2, 1) := by decide +kernel
theorem dX8_plugIn_23 : decode cX8_plugIn 23 = .ok (.invokevirtual 113, 3) := by decide +kernel
theorem dX8_plugIn_26 : decode cX8_plugIn 26 = .ok (.istore 4, 2) := by decide +kernel
theorem dX8_plugIn_28 : decode cX8_plugIn 28 = .ok (.iload 4, 2) := by decide +kernel
theorem dX8_plugIn_30 : decode cX8_plugIn 30 = .ok (.ifCond .le 10, 3) := by decide +kernel
theorem dX8_plugIn_33 : decode cX8_plugIn 33 = .ok (.aload_n 0, 1) := by decide +kernel
theorem dX8_plugIn_34 : decode cX8_plugIn 34 = .ok (.iload 4, 2) := by decide +kernel
theorem dX8_plugIn_36 : decode cX8_plugIn 36 = .ok (.invokevirtual 101, 3) := by decide +kernel
theorem dX8_plugIn_39 : decode cX8_plugIn 39 = .ok (.ireturn, 1) := by decide +kernel
theorem dX8_plugIn_40 : decode cX8_plugIn 40 = .ok (.aload_n 0, 1) := by decide +kernel
theorem dX8_plugIn_41 : decode cX8_plugIn 41 = .ok (.getfield 16, 3) := by decide +kernel
theorem dX8_plugIn_44 : decode cX8_plugIn 44 = .ok (.sipush 540, 3) := by decide +kernel
theorem dX8_plugIn_47 : decode cX8_plugIn 47 = .ok (.iload_n 3, 1) := by decide +kernel
theorem dX8_plugIn_48 : decode cX8_plugIn 48 = .ok (.iadd, 1) := by decide +kernel
theorem dX8_plugIn_49 : decode cX8_plugIn 49 = .ok (.iaload, 1) := by decide +kernel
theorem dX8_plugIn_50 : decode cX8_plugIn 50 = .ok (.i2l, 1) := by decide +kernel
theorem dX8_plugIn_51 : decode cX8_plugIn 51 = .ok (.lstore 5, 2) := by decide +kernel
theorem dX8_plugIn_53 : decode cX8_plugIn 53 = .ok (.aload_n 0, 1) := by decide +kernel
theorem dX8_plugIn_54 : decode cX8_plugIn 54 = .ok (.aload_n 0, 1) := by decide +kernel
theorem dX8_plugIn_55 : decode cX8_plugIn 55 = .ok (.aload_n 0, 1) := by decide +kernel
theorem dX8_plugIn_56 : decode cX8_plugIn 56 = .ok (.iload_n 1, 1) := by decide +kernel
theorem dX8_plugIn_57 : decode cX8_plugIn 57 = .ok (.invokevirtual 104, 3) := by decide +kernel
theorem dX8_plugIn_60 : decode cX8_plugIn 60 = .ok (.invokevirtual 78, 3) := by decide +kernel
theorem dX8_plugIn_63 : decode cX8_plugIn 63 = .ok (.lload 5, 2) := by decide +kernel
theorem dX8_plugIn_65 : decode cX8_plugIn 65 = .ok (.invokevirtual 116, 3) := by decide +kernel
theorem dX8_plugIn_68 : decode cX8_plugIn 68 = .ok (.ifCond .ne 9, 3) := by decide +kernel
theorem dX8_plugIn_71 : decode cX8_plugIn 71 = .ok (.aload_n 0, 1) := by decide +kernel
theorem dX8_plugIn_72 : decode cX8_plugIn 72 = .ok (.iconst 5, 1) := by decide +kernel
theorem dX8_plugIn_73 : decode cX8_plugIn 73 = .ok (.invokevirtual 101, 3) := by decide +kernel
theorem dX8_plugIn_76 : decode cX8_plugIn 76 = .ok (.ireturn, 1) := by decide +kernel
theorem dX8_plugIn_77 : decode cX8_plugIn 77 = .ok (.aload_n 0, 1) := by decide +kernel
theorem dX8_plugIn_78 : decode cX8_plugIn 78 = .ok (.aload_n 0, 1) := by decide +kernel
theorem dX8_plugIn_79 : decode cX8_plugIn 79 = .ok (.iload_n 1, 1) := by decide +kernel
theorem dX8_plugIn_80 : decode cX8_plugIn 80 = .ok (.invokevirtual 104, 3) := by decide +kernel
theorem dX8_plugIn_83 : decode cX8_plugIn 83 = .ok (.iload_n 2, 1) := by decide +kernel
theorem dX8_plugIn_84 : decode cX8_plugIn 84 = .ok (.invokevirtual 85, 3) := by decide +kernel
theorem dX8_plugIn_87 : decode cX8_plugIn 87 = .ok (.ifCond .lt 7, 3) := by decide +kernel
theorem dX8_plugIn_90 : decode cX8_plugIn 90 = .ok (.iconst 1, 1) := by decide +kernel
theorem dX8_plugIn_91 : decode cX8_plugIn 91 = .ok (.goto 4, 3) := by decide +kernel
theorem dX8_plugIn_94 : decode cX8_plugIn 94 = .ok (.iconst 0, 1) := by decide +kernel
theorem dX8_plugIn_95 : decode cX8_plugIn 95 = .ok (.istore 7, 2) := by decide +kernel
theorem dX8_plugIn_97 : decode cX8_plugIn 97 = .ok (.aload_n 0, 1) := by decide +kernel
theorem dX8_plugIn_98 : decode cX8_plugIn 98 = .ok (.getfield 19, 3) := by decide +kernel
theorem dX8_plugIn_101 : decode cX8_plugIn 101 = .ok (.bipush 12, 2) := by decide +kernel
theorem dX8_plugIn_103 : decode cX8_plugIn 103 = .ok (.aload_n 0, 1) := by decide +kernel
theorem dX8_plugIn_104 : decode cX8_plugIn 104 = .ok (.iload_n 1, 1) := by decide +kernel
theorem dX8_plugIn_105 : decode cX8_plugIn 105 = .ok (.invokevirtual 104, 3) := by decide +kernel
theorem dX8_plugIn_108 : decode cX8_plugIn 108 = .ok (.imul, 1) := by decide +kernel
theorem dX8_plugIn_109 : decode cX8_plugIn 109 = .ok (.iload_n 2, 1) := by decide +kernel
theorem dX8_plugIn_110 : decode cX8_plugIn 110 = .ok (.iadd, 1) := by decide +kernel
theorem dX8_plugIn_111 : decode cX8_plugIn 111 = .ok (.lload 5, 2) := by decide +kernel
theorem dX8_plugIn_113 : decode cX8_plugIn 113 = .ok (.lastore, 1) := by decide +kernel
theorem dX8_plugIn_114 : decode cX8_plugIn 114 = .ok (.iload 7, 2) := by decide +kernel
theorem dX8_plugIn_116 : decode cX8_plugIn 116 = .ok (.ireturn, 1) := by decide +kernel
theorem dX8_pullOut_0 : decode cX8_pullOut 0 = .ok (.iload_n 1, 1) := by decide +kernel
theorem dX8_pullOut_1 : decode cX8_pullOut 1 = .ok (.invokestatic 98, 3) := by decide +kernel
theorem dX8_pullOut_4 : decode cX8_pullOut 4 = .ok (.ifCond .eq 10, 3) := by decide +kernel
theorem dX8_pullOut_7 : decode cX8_pullOut 7 = .ok (.iload_n 3, 1) := by decide +kernel
theorem dX8_pullOut_8 : decode cX8_pullOut 8 = .ok (.invokestatic 98, 3) := by decide +kernel
theorem dX8_pullOut_11 : decode cX8_pullOut 11 = .ok (.ifCond .ne 9, 3) := by decide +kernel
theorem dX8_pullOut_14 : decode cX8_pullOut 14 = .ok (.aload_n 0, 1) := by decide +kernel
theorem dX8_pullOut_15 : decode cX8_pullOut 15 = .ok (.iconst 1, 1) := by decide +kernel
theorem dX8_pullOut_16 : decode cX8_pullOut 16 = .ok (.invokevirtual 101, 3) := by decide +kernel
theorem dX8_pullOut_19 : decode cX8_pullOut 19 = .ok (.ireturn, 1) := by decide +kernel
theorem dX8_pullOut_20 : decode cX8_pullOut 20 = .ok (.aload_n 0, 1) := by decide +kernel
theorem dX8_pullOut_21 : decode cX8_pullOut 21 = .ok (.iload_n 1, 1) := by decide +kernel
theorem dX8_pullOut_22 : decode cX8_pullOut 22 = .ok (.iload_n 2, 1) := by decide +kernel
theorem dX8_pullOut_23 : decode cX8_pullOut 23 = .ok (.invokevirtual 113, 3) := by decide +kernel
theorem dX8_pullOut_26 : decode cX8_pullOut 26 = .ok (.istore 4, 2) := by decide +kernel
theorem dX8_pullOut_28 : decode cX8_pullOut 28 = .ok (.iload 4, 2) := by decide +kernel
theorem dX8_pullOut_30 : decode cX8_pullOut 30 = .ok (.ifCond .le 10, 3) := by decide +kernel
theorem dX8_pullOut_33 : decode cX8_pullOut 33 = .ok (.aload_n 0, 1) := by decide +kernel
theorem dX8_pullOut_34 : decode cX8_pullOut 34 = .ok (.iload 4, 2) := by decide +kernel
theorem dX8_pullOut_36 : decode cX8_pullOut 36 = .ok (.invokevirtual 101, 3) := by decide +kernel
theorem dX8_pullOut_39 : decode cX8_pullOut 39 = .ok (.ireturn, 1) := by decide +kernel
theorem dX8_pullOut_40 : decode cX8_pullOut 40 = .ok (.aload_n 0, 1) := by decide +kernel
theorem dX8_pullOut_41 : decode cX8_pullOut 41 = .ok (.getfield 16, 3) := by decide +kernel
theorem dX8_pullOut_44 : decode cX8_pullOut 44 = .ok (.sipush 540, 3) := by decide +kernel
theorem dX8_pullOut_47 : decode cX8_pullOut 47 = .ok (.iload_n 3, 1) := by decide +kernel
theorem dX8_pullOut_48 : decode cX8_pullOut 48 = .ok (.iadd, 1) := by decide +kernel
theorem dX8_pullOut_49 : decode cX8_pullOut 49 = .ok (.aload_n 0, 1) := by decide +kernel
theorem dX8_pullOut_50 : decode cX8_pullOut 50 = .ok (.getfield 19, 3) := by decide +kernel
theorem dX8_pullOut_53 : decode cX8_pullOut 53 = .ok (.bipush 12, 2) := by decide +kernel
theorem dX8_pullOut_55 : decode cX8_pullOut 55 = .ok (.aload_n 0, 1) := by decide +kernel
theorem dX8_pullOut_56 : decode cX8_pullOut 56 = .ok (.iload_n 1, 1) := by decide +kernel
theorem dX8_pullOut_57 : decode cX8_pullOut 57 = .ok (.invokevirtual 104, 3) := by decide +kernel
theorem dX8_pullOut_60 : decode cX8_pullOut 60 = .ok (.imul, 1) := by decide +kernel
theorem dX8_pullOut_61 : decode cX8_pullOut 61 = .ok (.iload_n 2, 1) := by decide +kernel
theorem dX8_pullOut_62 : decode cX8_pullOut 62 = .ok (.iadd, 1) := by decide +kernel
theorem dX8_pullOut_63 : decode cX8_pullOut 63 = .ok (.laload, 1) := by decide +kernel
theorem dX8_pullOut_64 : decode cX8_pullOut 64 = .ok (.l2i, 1) := by decide +kernel
theorem dX8_pullOut_65 : decode cX8_pullOut 65 = .ok (.iastore, 1) := by decide +kernel
theorem dX8_pullOut_66 : decode cX8_pullOut 66 = .ok (.aload_n 0, 1) := by decide +kernel
theorem dX8_pullOut_67 : decode cX8_pullOut 67 = .ok (.getfield 16, 3) := by decide +kernel
theorem dX8_pullOut_70 : decode cX8_pullOut 70 = .ok (.sipush 540, 3) := by decide +kernel
theorem dX8_pullOut_73 : decode cX8_pullOut 73 = .ok (.iload_n 3, 1) := by decide +kernel
theorem dX8_pullOut_74 : decode cX8_pullOut 74 = .ok (.iadd, 1) := by decide +kernel
theorem dX8_pullOut_75 : decode cX8_pullOut 75 = .ok (.iaload, 1) := by decide +kernel
theorem dX8_pullOut_76 : decode cX8_pullOut 76 = .ok (.ifCond .le 7, 3) := by decide +kernel
theorem dX8_pullOut_79 : decode cX8_pullOut 79 = .ok (.iconst 1, 1) := by decide +kernel
theorem dX8_pullOut_80 : decode cX8_pullOut 80 = .ok (.goto 4, 3) := by decide +kernel
theorem dX8_pullOut_83 : decode cX8_pullOut 83 = .ok (.iconst 0, 1) := by decide +kernel
theorem dX8_pullOut_84 : decode cX8_pullOut 84 = .ok (.ireturn, 1) := by decide +kernel
theorem dX8_reasonOfCopy_0 : decode cX8_reasonOfCopy 0 = .ok (.aload_n 0, 1) := by decide +kernel
theorem dX8_reasonOfCopy_1 : decode cX8_reasonOfCopy 1 = .ok (.iload_n 1, 1) := by decide +kernel
theorem dX8_reasonOfCopy_2 : decode cX8_reasonOfCopy 2 = .ok (.invokevirtual 104, 3) := by decide +kernel
theorem dX8_reasonOfCopy_5 : decode cX8_reasonOfCopy 5 = .ok (.ifCond .lt 11, 3) := by decide +kernel
theorem dX8_reasonOfCopy_8 : decode cX8_reasonOfCopy 8 = .ok (.aload_n 0, 1) := by decide +kernel
theorem dX8_reasonOfCopy_9 : decode cX8_reasonOfCopy 9 = .ok (.iload_n 3, 1) := by decide +kernel
theorem dX8_reasonOfCopy_10 : decode cX8_reasonOfCopy 10 = .ok (.invokevirtual 104, 3) := by decide +kernel
theorem dX8_reasonOfCopy_13 : decode cX8_reasonOfCopy 13 = .ok (.ifCond .ge 5, 3) := by decide +kernel
theorem dX8_reasonOfCopy_16 : decode cX8_reasonOfCopy 16 = .ok (.iconst 2, 1) := by decide +kernel
theorem dX8_reasonOfCopy_17 : decode cX8_reasonOfCopy 17 = .ok (.ireturn, 1) := by decide +kernel
theorem dX8_reasonOfCopy_18 : decode cX8_reasonOfCopy 18 = .ok (.aload_n 0, 1) := by decide +kernel
theorem dX8_reasonOfCopy_19 : decode cX8_reasonOfCopy 19 = .ok (.aload_n 0, 1) := by decide +kernel
theorem dX8_reasonOfCopy_20 : decode cX8_reasonOfCopy 20 = .ok (.iload_n 1, 1) := by decide +kernel
theorem dX8_reasonOfCopy_21 : decode cX8_reasonOfCopy 21 = .ok (.invokevirtual 104, 3) := by decide +kernel
theorem dX8_reasonOfCopy_24 : decode cX8_reasonOfCopy 24 = .ok (.invokevirtual 78, 3) := by decide +kernel
theorem dX8_reasonOfCopy_27 : decode cX8_reasonOfCopy 27 = .ok (.istore 6, 2) := by decide +kernel
theorem dX8_reasonOfCopy_29 : decode cX8_reasonOfCopy 29 = .ok (.aload_n 0, 1) := by decide +kernel
theorem dX8_reasonOfCopy_30 : decode cX8_reasonOfCopy 30 = .ok (.aload_n 0, 1) := by decide +kernel
theorem dX8_reasonOfCopy_31 : decode cX8_reasonOfCopy 31 = .ok (.iload_n 3, 1) := by decide +kernel
theorem dX8_reasonOfCopy_32 : decode cX8_reasonOfCopy 32 = .ok (.invokevirtual 104, 3) := by decide +kernel
theorem dX8_reasonOfCopy_35 : decode cX8_reasonOfCopy 35 = .ok (.invokevirtual 78, 3) := by decide +kernel
theorem dX8_reasonOfCopy_38 : decode cX8_reasonOfCopy 38 = .ok (.istore 7, 2) := by decide +kernel
theorem dX8_reasonOfCopy_40 : decode cX8_reasonOfCopy 40 = .ok (.iload 6, 2) := by decide +kernel
theorem dX8_reasonOfCopy_42 : decode cX8_reasonOfCopy 42 = .ok (.bipush 13, 2) := by decide +kernel
theorem dX8_reasonOfCopy_44 : decode cX8_reasonOfCopy 44 = .ok (.if_icmp .lt 10, 3) := by decide +kernel
theorem dX8_reasonOfCopy_47 : decode cX8_reasonOfCopy 47 = .ok (.iload 7, 2) := by decide +kernel
theorem dX8_reasonOfCopy_49 : decode cX8_reasonOfCopy 49 = .ok (.bipush 13, 2) := by decide +kernel
theorem dX8_reasonOfCopy_51 : decode cX8_reasonOfCopy 51 = .ok (.if_icmp .ge 5, 3) := by decide +kernel
theorem dX8_reasonOfCopy_54 : decode cX8_reasonOfCopy 54 = .ok (.iconst 3, 1) := by decide +kernel
theorem dX8_reasonOfCopy_55 : decode cX8_reasonOfCopy 55 = .ok (.ireturn, 1) := by decide +kernel
theorem dX8_reasonOfCopy_56 : decode cX8_reasonOfCopy 56 = .ok (.iload 6, 2) := by decide +kernel
theorem dX8_reasonOfCopy_58 : decode cX8_reasonOfCopy 58 = .ok (.invokestatic 120, 3) := by decide +kernel
theorem dX8_reasonOfCopy_61 : decode cX8_reasonOfCopy 61 = .ok (.ifCond .ne 11, 3) := by decide +kernel
theorem dX8_reasonOfCopy_64 : decode cX8_reasonOfCopy 64 = .ok (.iload 7, 2) := by decide +kernel
theorem dX8_reasonOfCopy_66 : decode cX8_reasonOfCopy 66 = .ok (.invokestatic 120, 3) := by decide +kernel
theorem dX8_reasonOfCopy_69 : decode cX8_reasonOfCopy 69 = .ok (.ifCond .eq 12, 3) := by decide +kernel
theorem dX8_reasonOfCopy_72 : decode cX8_reasonOfCopy 72 = .ok (.iload 6, 2) := by decide +kernel
theorem dX8_reasonOfCopy_74 : decode cX8_reasonOfCopy 74 = .ok (.iload 7, 2) := by decide +kernel
theorem dX8_reasonOfCopy_76 : decode cX8_reasonOfCopy 76 = .ok (.if_icmp .eq 5, 3) := by decide +kernel
theorem dX8_reasonOfCopy_79 : decode cX8_reasonOfCopy 79 = .ok (.iconst 3, 1) := by decide +kernel
theorem dX8_reasonOfCopy_80 : decode cX8_reasonOfCopy 80 = .ok (.ireturn, 1) := by decide +kernel
theorem dX8_reasonOfCopy_81 : decode cX8_reasonOfCopy 81 = .ok (.iload_n 2, 1) := by decide +kernel
theorem dX8_reasonOfCopy_82 : decode cX8_reasonOfCopy 82 = .ok (.ifCond .lt 13, 3) := by decide +kernel
theorem dX8_reasonOfCopy_85 : decode cX8_reasonOfCopy 85 = .ok (.iload 4, 2) := by decide +kernel
theorem dX8_reasonOfCopy_87 : decode cX8_reasonOfCopy 87 = .ok (.ifCond .lt 8, 3) := by decide +kernel
theorem dX8_reasonOfCopy_90 : decode cX8_reasonOfCopy 90 = .ok (.iload 5, 2) := by decide +kernel
theorem dX8_reasonOfCopy_92 : decode cX8_reasonOfCopy 92 = .ok (.ifCond .ge 5, 3) := by decide +kernel
theorem dX8_reasonOfCopy_95 : decode cX8_reasonOfCopy 95 = .ok (.iconst 4, 1) := by decide +kernel
theorem dX8_reasonOfCopy_96 : decode cX8_reasonOfCopy 96 = .ok (.ireturn, 1) := by decide +kernel
theorem dX8_reasonOfCopy_97 : decode cX8_reasonOfCopy 97 = .ok (.iload_n 2, 1) := by decide +kernel
theorem dX8_reasonOfCopy_98 : decode cX8_reasonOfCopy 98 = .ok (.i2l, 1) := by decide +kernel
theorem dX8_reasonOfCopy_99 : decode cX8_reasonOfCopy 99 = .ok (.iload 5, 2) := by decide +kernel
theorem dX8_reasonOfCopy_101 : decode cX8_reasonOfCopy 101 = .ok (.i2l, 1) := by decide +kernel
theorem dX8_reasonOfCopy_102 : decode cX8_reasonOfCopy 102 = .ok (.ladd, 1) := by decide +kernel
theorem dX8_reasonOfCopy_103 : decode cX8_reasonOfCopy 103 = .ok (.aload_n 0, 1) := by decide +kernel
theorem dX8_reasonOfCopy_104 : decode cX8_reasonOfCopy 104 = .ok (.aload_n 0, 1) := by decide +kernel
theorem dX8_reasonOfCopy_105 : decode cX8_reasonOfCopy 105 = .ok (.iload_n 1, 1) := by decide +kernel
theorem dX8_reasonOfCopy_106 : decode cX8_reasonOfCopy 106 = .ok (.invokevirtual 104, 3) := by decide +kernel
theorem dX8_reasonOfCopy_109 : decode cX8_reasonOfCopy 109 = .ok (.invokevirtual 68, 3) := by decide +kernel
theorem dX8_reasonOfCopy_112 : decode cX8_reasonOfCopy 112 = .ok (.i2l, 1) := by decide +kernel
theorem dX8_reasonOfCopy_113 : decode cX8_reasonOfCopy 113 = .ok (.lcmp, 1) := by decide +kernel
theorem dX8_reasonOfCopy_114 : decode cX8_reasonOfCopy 114 = .ok (.ifCond .gt 24, 3) := by decide +kernel
theorem dX8_reasonOfCopy_117 : decode cX8_reasonOfCopy 117 = .ok (.iload 4, 2) := by decide +kernel
theorem dX8_reasonOfCopy_119 : decode cX8_reasonOfCopy 119 = .ok (.i2l, 1) := by decide +kernel
theorem dX8_reasonOfCopy_120 : decode cX8_reasonOfCopy 120 = .ok (.iload 5, 2) := by decide +kernel
theorem dX8_reasonOfCopy_122 : decode cX8_reasonOfCopy 122 = .ok (.i2l, 1) := by decide +kernel
theorem dX8_reasonOfCopy_123 : decode cX8_reasonOfCopy 123 = .ok (.ladd, 1) := by decide +kernel
theorem dX8_reasonOfCopy_124 : decode cX8_reasonOfCopy 124 = .ok (.aload_n 0, 1) := by decide +kernel
theorem dX8_reasonOfCopy_125 : decode cX8_reasonOfCopy 125 = .ok (.aload_n 0, 1) := by decide +kernel
theorem dX8_reasonOfCopy_126 : decode cX8_reasonOfCopy 126 = .ok (.iload_n 3, 1) := by decide +kernel
theorem dX8_reasonOfCopy_127 : decode cX8_reasonOfCopy 127 = .ok (.invokevirtual 104, 3) := by decide +kernel
theorem dX8_reasonOfCopy_130 : decode cX8_reasonOfCopy 130 = .ok (.invokevirtual 68, 3) := by decide +kernel
theorem dX8_reasonOfCopy_133 : decode cX8_reasonOfCopy 133 = .ok (.i2l, 1) := by decide +kernel
theorem dX8_reasonOfCopy_134 : decode cX8_reasonOfCopy 134 = .ok (.lcmp, 1) := by decide +kernel
theorem dX8_reasonOfCopy_135 : decode cX8_reasonOfCopy 135 = .ok (.ifCond .le 7, 3) := by decide +kernel
theorem dX8_reasonOfCopy_138 : decode cX8_reasonOfCopy 138 = .ok (.iconst 4, 1) := by decide +kernel
theorem dX8_reasonOfCopy_139 : decode cX8_reasonOfCopy 139 = .ok (.goto 4, 3) := by decide +kernel
theorem dX8_reasonOfCopy_142 : decode cX8_reasonOfCopy 142 = .ok (.iconst 0, 1) := by decide +kernel
theorem dX8_reasonOfCopy_143 : decode cX8_reasonOfCopy 143 = .ok (.ireturn, 1) := by decide +kernel
theorem dX8_copyOver_0 : decode cX8_copyOver 0 = .ok (.iload_n 1, 1) := by decide +kernel
theorem dX8_copyOver_1 : decode cX8_copyOver 1 = .ok (.invokestatic 98, 3) := by decide +kernel
theorem dX8_copyOver_4 : decode cX8_copyOver 4 = .ok (.ifCond .eq 10, 3) := by decide +kernel
theorem dX8_copyOver_7 : decode cX8_copyOver 7 = .ok (.iload_n 3, 1) := by decide +kernel
theorem dX8_copyOver_8 : decode cX8_copyOver 8 = .ok (.invokestatic 98, 3) := by decide +kernel
theorem dX8_copyOver_11 : decode cX8_copyOver 11 = .ok (.ifCond .ne 9, 3) := by decide +kernel
theorem dX8_copyOver_14 : decode cX8_copyOver 14 = .ok (.aload_n 0, 1) := by decide +kernel
theorem dX8_copyOver_15 : decode cX8_copyOver 15 = .ok (.iconst 1, 1) := by decide +kernel
theorem dX8_copyOver_16 : decode cX8_copyOver 16 = .ok (.invokevirtual 101, 3) := by decide +kernel
theorem dX8_copyOver_19 : decode cX8_copyOver 19 = .ok (.ireturn, 1) := by decide +kernel
theorem dX8_copyOver_20 : decode cX8_copyOver 20 = .ok (.aload_n 0, 1) := by decide +kernel
theorem dX8_copyOver_21 : decode cX8_copyOver 21 = .ok (.iload_n 1, 1) := by decide +kernel
theorem dX8_copyOver_22 : decode cX8_copyOver 22 = .ok (.iload_n 2, 1) := by decide +kernel
theorem dX8_copyOver_23 : decode cX8_copyOver 23 = .ok (.iload_n 3, 1) := by decide +kernel
theorem dX8_copyOver_24 : decode cX8_copyOver 24 = .ok (.iload 4, 2) := by decide +kernel
theorem dX8_copyOver_26 : decode cX8_copyOver 26 = .ok (.iload 5, 2) := by decide +kernel
theorem dX8_copyOver_28 : decode cX8_copyOver 28 = .ok (.invokevirtual 123, 3) := by decide +kernel
theorem dX8_copyOver_31 : decode cX8_copyOver 31 = .ok (.istore 6, 2) := by decide +kernel
theorem dX8_copyOver_33 : decode cX8_copyOver 33 = .ok (.iload 6, 2) := by decide +kernel
theorem dX8_copyOver_35 : decode cX8_copyOver 35 = .ok (.ifCond .le 10, 3) := by decide +kernel
theorem dX8_copyOver_38 : decode cX8_copyOver 38 = .ok (.aload_n 0, 1) := by decide +kernel
theorem dX8_copyOver_39 : decode cX8_copyOver 39 = .ok (.iload 6, 2) := by decide +kernel
theorem dX8_copyOver_41 : decode cX8_copyOver 41 = .ok (.invokevirtual 101, 3) := by decide +kernel
theorem dX8_copyOver_44 : decode cX8_copyOver 44 = .ok (.ireturn, 1) := by decide +kernel
theorem dX8_copyOver_45 : decode cX8_copyOver 45 = .ok (.aload_n 0, 1) := by decide +kernel
theorem dX8_copyOver_46 : decode cX8_copyOver 46 = .ok (.iload_n 3, 1) := by decide +kernel
theorem dX8_copyOver_47 : decode cX8_copyOver 47 = .ok (.invokevirtual 104, 3) := by decide +kernel
theorem dX8_copyOver_50 : decode cX8_copyOver 50 = .ok (.istore 7, 2) := by decide +kernel
theorem dX8_copyOver_52 : decode cX8_copyOver 52 = .ok (.iconst 0, 1) := by decide +kernel
theorem dX8_copyOver_53 : decode cX8_copyOver 53 = .ok (.istore 8, 2) := by decide +kernel
theorem dX8_copyOver_55 : decode cX8_copyOver 55 = .ok (.iload 8, 2) := by decide +kernel
theorem dX8_copyOver_57 : decode cX8_copyOver 57 = .ok (.iload 5, 2) := by decide +kernel
theorem dX8_copyOver_59 : decode cX8_copyOver 59 = .ok (.if_icmp .ge 34, 3) := by decide +kernel
theorem dX8_copyOver_62 : decode cX8_copyOver 62 = .ok (.aload_n 0, 1) := by decide +kernel
theorem dX8_copyOver_63 : decode cX8_copyOver 63 = .ok (.getfield 41, 3) := by decide +kernel
theorem dX8_copyOver_66 : decode cX8_copyOver 66 = .ok (.iload 8, 2) := by decide +kernel
theorem dX8_copyOver_68 : decode cX8_copyOver 68 = .ok (.aload_n 0, 1) := by decide +kernel
theorem dX8_copyOver_69 : decode cX8_copyOver 69 = .ok (.getfield 19, 3) := by decide +kernel
theorem dX8_copyOver_72 : decode cX8_copyOver 72 = .ok (.bipush 12, 2) := by decide +kernel
theorem dX8_copyOver_74 : decode cX8_copyOver 74 = .ok (.aload_n 0, 1) := by decide +kernel
theorem dX8_copyOver_75 : decode cX8_copyOver 75 = .ok (.iload_n 1, 1) := by decide +kernel
theorem dX8_copyOver_76 : decode cX8_copyOver 76 = .ok (.invokevirtual 104, 3) := by decide +kernel
theorem dX8_copyOver_79 : decode cX8_copyOver 79 = .ok (.imul, 1) := by decide +kernel
theorem dX8_copyOver_80 : decode cX8_copyOver 80 = .ok (.iload_n 2, 1) := by decide +kernel
theorem dX8_copyOver_81 : decode cX8_copyOver 81 = .ok (.iadd, 1) := by decide +kernel
theorem dX8_copyOver_82 : decode cX8_copyOver 82 = .ok (.iload 8, 2) := by decide +kernel
theorem dX8_copyOver_84 : decode cX8_copyOver 84 = .ok (.iadd, 1) := by decide +kernel
theorem dX8_copyOver_85 : decode cX8_copyOver 85 = .ok (.laload, 1) := by decide +kernel
theorem dX8_copyOver_86 : decode cX8_copyOver 86 = .ok (.lastore, 1) := by decide +kernel
theorem dX8_copyOver_87 : decode cX8_copyOver 87 = .ok (.iinc 8 1, 3) := by decide +kernel
theorem dX8_copyOver_90 : decode cX8_copyOver 90 = .ok (.goto (-35), 3) := by decide +kernel
theorem dX8_copyOver_93 : decode cX8_copyOver 93 = .ok (.iconst 0, 1) := by decide +kernel
theorem dX8_copyOver_94 : decode cX8_copyOver 94 = .ok (.istore 8, 2) := by decide +kernel
theorem dX8_copyOver_96 : decode cX8_copyOver 96 = .ok (.iload 8, 2) := by decide +kernel
theorem dX8_copyOver_98 : decode cX8_copyOver 98 = .ok (.iload 5, 2) := by decide +kernel
theorem dX8_copyOver_100 : decode cX8_copyOver 100 = .ok (.if_icmp .ge 72, 3) := by decide +kernel
theorem dX8_copyOver_103 : decode cX8_copyOver 103 = .ok (.aload_n 0, 1) := by decide +kernel
theorem dX8_copyOver_104 : decode cX8_copyOver 104 = .ok (.iload 7, 2) := by decide +kernel
theorem dX8_copyOver_106 : decode cX8_copyOver 106 = .ok (.invokevirtual 78, 3) := by decide +kernel
theorem dX8_copyOver_109 : decode cX8_copyOver 109 = .ok (.invokestatic 120, 3) := by decide +kernel
theorem dX8_copyOver_112 : decode cX8_copyOver 112 = .ok (.ifCond .ne 31, 3) := by decide +kernel
theorem dX8_copyOver_115 : decode cX8_copyOver 115 = .ok (.aload_n 0, 1) := by decide +kernel
theorem dX8_copyOver_116 : decode cX8_copyOver 116 = .ok (.aload_n 0, 1) := by decide +kernel
theorem dX8_copyOver_117 : decode cX8_copyOver 117 = .ok (.iload 7, 2) := by decide +kernel
theorem dX8_copyOver_119 : decode cX8_copyOver 119 = .ok (.invokevirtual 78, 3) := by decide +kernel
theorem dX8_copyOver_122 : decode cX8_copyOver 122 = .ok (.aload_n 0, 1) := by decide +kernel
theorem dX8_copyOver_123 : decode cX8_copyOver 123 = .ok (.getfield 41, 3) := by decide +kernel
theorem dX8_copyOver_126 : decode cX8_copyOver 126 = .ok (.iload 8, 2) := by decide +kernel
theorem dX8_copyOver_128 : decode cX8_copyOver 128 = .ok (.laload, 1) := by decide +kernel
theorem dX8_copyOver_129 : decode cX8_copyOver 129 = .ok (.invokevirtual 116, 3) := by decide +kernel
theorem dX8_copyOver_132 : decode cX8_copyOver 132 = .ok (.ifCond .ne 11, 3) := by decide +kernel
theorem dX8_copyOver_135 : decode cX8_copyOver 135 = .ok (.aload_n 0, 1) := by decide +kernel
theorem dX8_copyOver_136 : decode cX8_copyOver 136 = .ok (.iconst 5, 1) := by decide +kernel
theorem dX8_copyOver_137 : decode cX8_copyOver 137 = .ok (.putfield 71, 3) := by decide +kernel
theorem dX8_copyOver_140 : decode cX8_copyOver 140 = .ok (.iload 8, 2) := by decide +kernel
theorem dX8_copyOver_142 : decode cX8_copyOver 142 = .ok (.ireturn, 1) := by decide +kernel
theorem dX8_copyOver_143 : decode cX8_copyOver 143 = .ok (.aload_n 0, 1) := by decide +kernel
theorem dX8_copyOver_144 : decode cX8_copyOver 144 = .ok (.getfield 19, 3) := by decide +kernel
theorem dX8_copyOver_147 : decode cX8_copyOver 147 = .ok (.bipush 12, 2) := by decide +kernel
theorem dX8_copyOver_149 : decode cX8_copyOver 149 = .ok (.iload 7, 2) := by decide +kernel
theorem dX8_copyOver_151 : decode cX8_copyOver 151 = .ok (.imul, 1) := by decide +kernel
theorem dX8_copyOver_152 : decode cX8_copyOver 152 = .ok (.iload 4, 2) := by decide +kernel
theorem dX8_copyOver_154 : decode cX8_copyOver 154 = .ok (.iadd, 1) := by decide +kernel
theorem dX8_copyOver_155 : decode cX8_copyOver 155 = .ok (.iload 8, 2) := by decide +kernel
theorem dX8_copyOver_157 : decode cX8_copyOver 157 = .ok (.iadd, 1) := by decide +kernel
theorem dX8_copyOver_158 : decode cX8_copyOver 158 = .ok (.aload_n 0, 1) := by decide +kernel
theorem dX8_copyOver_159 : decode cX8_copyOver 159 = .ok (.getfield 41, 3) := by decide +kernel
theorem dX8_copyOver_162 : decode cX8_copyOver 162 = .ok (.iload 8, 2) := by decide +kernel
theorem dX8_copyOver_164 : decode cX8_copyOver 164 = .ok (.laload, 1) := by decide +kernel
theorem dX8_copyOver_165 : decode cX8_copyOver 165 = .ok (.lastore, 1) := by decide +kernel
theorem dX8_copyOver_166 : decode cX8_copyOver 166 = .ok (.iinc 8 1, 3) := by decide +kernel
theorem dX8_copyOver_169 : decode cX8_copyOver 169 = .ok (.goto (-73), 3) := by decide +kernel
theorem dX8_copyOver_172 : decode cX8_copyOver 172 = .ok (.iload 5, 2) := by decide +kernel
theorem dX8_copyOver_174 : decode cX8_copyOver 174 = .ok (.ireturn, 1) := by decide +kernel
theorem dX8_writeIn_0 : decode cX8_writeIn 0 = .ok (.iload_n 1, 1) := by decide +kernel
theorem dX8_writeIn_1 : decode cX8_writeIn 1 = .ok (.invokestatic 98, 3) := by decide +kernel
theorem dX8_writeIn_4 : decode cX8_writeIn 4 = .ok (.ifCond .ne 9, 3) := by decide +kernel
theorem dX8_writeIn_7 : decode cX8_writeIn 7 = .ok (.aload_n 0, 1) := by decide +kernel
theorem dX8_writeIn_8 : decode cX8_writeIn 8 = .ok (.iconst 1, 1) := by decide +kernel
theorem dX8_writeIn_9 : decode cX8_writeIn 9 = .ok (.invokevirtual 101, 3) := by decide +kernel
theorem dX8_writeIn_12 : decode cX8_writeIn 12 = .ok (.ireturn, 1) := by decide +kernel
theorem dX8_writeIn_13 : decode cX8_writeIn 13 = .ok (.aload_n 0, 1) := by decide +kernel
theorem dX8_writeIn_14 : decode cX8_writeIn 14 = .ok (.iload_n 1, 1) := by decide +kernel
theorem dX8_writeIn_15 : decode cX8_writeIn 15 = .ok (.invokevirtual 104, 3) := by decide +kernel
theorem dX8_writeIn_18 : decode cX8_writeIn 18 = .ok (.ifCond .ge 9, 3) := by decide +kernel
theorem dX8_writeIn_21 : decode cX8_writeIn 21 = .ok (.aload_n 0, 1) := by decide +kernel
theorem dX8_writeIn_22 : decode cX8_writeIn 22 = .ok (.iconst 2, 1) := by decide +kernel
theorem dX8_writeIn_23 : decode cX8_writeIn 23 = .ok (.invokevirtual 101, 3) := by decide +kernel
theorem dX8_writeIn_26 : decode cX8_writeIn 26 = .ok (.ireturn, 1) := by decide +kernel
theorem dX8_writeIn_27 : decode cX8_writeIn 27 = .ok (.aload_n 0, 1) := by decide +kernel
theorem dX8_writeIn_28 : decode cX8_writeIn 28 = .ok (.aload_n 0, 1) := by decide +kernel
theorem dX8_writeIn_29 : decode cX8_writeIn 29 = .ok (.iload_n 1, 1) := by decide +kernel
theorem dX8_writeIn_30 : decode cX8_writeIn 30 = .ok (.invokevirtual 104, 3) := by decide +kernel
theorem dX8_writeIn_33 : decode cX8_writeIn 33 = .ok (.invokevirtual 78, 3) := by decide +kernel
theorem dX8_writeIn_36 : decode cX8_writeIn 36 = .ok (.istore 5, 2) := by decide +kernel
theorem dX8_writeIn_38 : decode cX8_writeIn 38 = .ok (.iload 5, 2) := by decide +kernel
theorem dX8_writeIn_40 : decode cX8_writeIn 40 = .ok (.invokestatic 120, 3) := by decide +kernel
theorem dX8_writeIn_43 : decode cX8_writeIn 43 = .ok (.ifCond .ne 9, 3) := by decide +kernel
theorem dX8_writeIn_46 : decode cX8_writeIn 46 = .ok (.aload_n 0, 1) := by decide +kernel
theorem dX8_writeIn_47 : decode cX8_writeIn 47 = .ok (.iconst 3, 1) := by decide +kernel
theorem dX8_writeIn_48 : decode cX8_writeIn 48 = .ok (.invokevirtual 101, 3) := by decide +kernel
theorem dX8_writeIn_51 : decode cX8_writeIn 51 = .ok (.ireturn, 1) := by decide +kernel
theorem dX8_writeIn_52 : decode cX8_writeIn 52 = .ok (.aload_n 0, 1) := by decide +kernel
theorem dX8_writeIn_53 : decode cX8_writeIn 53 = .ok (.aload_n 0, 1) := by decide +kernel
theorem dX8_writeIn_54 : decode cX8_writeIn 54 = .ok (.iload_n 1, 1) := by decide +kernel
theorem dX8_writeIn_55 : decode cX8_writeIn 55 = .ok (.invokevirtual 104, 3) := by decide +kernel
theorem dX8_writeIn_58 : decode cX8_writeIn 58 = .ok (.iload_n 2, 1) := by decide +kernel
theorem dX8_writeIn_59 : decode cX8_writeIn 59 = .ok (.invokevirtual 110, 3) := by decide +kernel
theorem dX8_writeIn_62 : decode cX8_writeIn 62 = .ok (.ifCond .ne 9, 3) := by decide +kernel
theorem dX8_writeIn_65 : decode cX8_writeIn 65 = .ok (.aload_n 0, 1) := by decide +kernel
theorem dX8_writeIn_66 : decode cX8_writeIn 66 = .ok (.iconst 4, 1) := by decide +kernel
theorem dX8_writeIn_67 : decode cX8_writeIn 67 = .ok (.invokevirtual 101, 3) := by decide +kernel
theorem dX8_writeIn_70 : decode cX8_writeIn 70 = .ok (.ireturn, 1) := by decide +kernel
theorem dX8_writeIn_71 : decode cX8_writeIn 71 = .ok (.aload_n 0, 1) := by decide +kernel
theorem dX8_writeIn_72 : decode cX8_writeIn 72 = .ok (.getfield 19, 3) := by decide +kernel
theorem dX8_writeIn_75 : decode cX8_writeIn 75 = .ok (.bipush 12, 2) := by decide +kernel
theorem dX8_writeIn_77 : decode cX8_writeIn 77 = .ok (.aload_n 0, 1) := by decide +kernel
theorem dX8_writeIn_78 : decode cX8_writeIn 78 = .ok (.iload_n 1, 1) := by decide +kernel
theorem dX8_writeIn_79 : decode cX8_writeIn 79 = .ok (.invokevirtual 104, 3) := by decide +kernel
theorem dX8_writeIn_82 : decode cX8_writeIn 82 = .ok (.imul, 1) := by decide +kernel
theorem dX8_writeIn_83 : decode cX8_writeIn 83 = .ok (.iload_n 2, 1) := by decide +kernel
theorem dX8_writeIn_84 : decode cX8_writeIn 84 = .ok (.iadd, 1) := by decide +kernel
theorem dX8_writeIn_85 : decode cX8_writeIn 85 = .ok (.iload 5, 2) := by decide +kernel
theorem dX8_writeIn_87 : decode cX8_writeIn 87 = .ok (.bipush 13, 2) := by decide +kernel
theorem dX8_writeIn_89 : decode cX8_writeIn 89 = .ok (.if_icmp .ne 9, 3) := by decide +kernel
theorem dX8_writeIn_92 : decode cX8_writeIn 92 = .ok (.lload_n 3, 1) := by decide +kernel
theorem dX8_writeIn_93 : decode cX8_writeIn 93 = .ok (.l2i, 1) := by decide +kernel
theorem dX8_writeIn_94 : decode cX8_writeIn 94 = .ok (.i2l, 1) := by decide +kernel
theorem dX8_writeIn_95 : decode cX8_writeIn 95 = .ok (.goto 18, 3) := by decide +kernel
theorem dX8_writeIn_98 : decode cX8_writeIn 98 = .ok (.iload 5, 2) := by decide +kernel
theorem dX8_writeIn_100 : decode cX8_writeIn 100 = .ok (.bipush 14, 2) := by decide +kernel
theorem dX8_writeIn_102 : decode cX8_writeIn 102 = .ok (.if_icmp .ne 10, 3) := by decide +kernel
theorem dX8_writeIn_105 : decode cX8_writeIn 105 = .ok (.lload_n 3, 1) := by decide +kernel
theorem dX8_writeIn_106 : decode cX8_writeIn 106 = .ok (.l2i, 1) := by decide +kernel
theorem dX8_writeIn_107 : decode cX8_writeIn 107 = .ok (.i2b, 1) := by decide +kernel
theorem dX8_writeIn_108 : decode cX8_writeIn 108 = .ok (.i2l, 1) := by decide +kernel
theorem dX8_writeIn_109 : decode cX8_writeIn 109 = .ok (.goto 4, 3) := by decide +kernel
theorem dX8_writeIn_112 : decode cX8_writeIn 112 = .ok (.lload_n 3, 1) := by decide +kernel
theorem dX8_writeIn_113 : decode cX8_writeIn 113 = .ok (.lastore, 1) := by decide +kernel
theorem dX8_writeIn_114 : decode cX8_writeIn 114 = .ok (.iconst 1, 1) := by decide +kernel
theorem dX8_writeIn_115 : decode cX8_writeIn 115 = .ok (.ireturn, 1) := by decide +kernel
theorem dX8_knobTo_0 : decode cX8_knobTo 0 = .ok (.iload_n 1, 1) := by decide +kernel
theorem dX8_knobTo_1 : decode cX8_knobTo 1 = .ok (.invokestatic 98, 3) := by decide +kernel
theorem dX8_knobTo_4 : decode cX8_knobTo 4 = .ok (.ifCond .eq 17, 3) := by decide +kernel
theorem dX8_knobTo_7 : decode cX8_knobTo 7 = .ok (.iload_n 2, 1) := by decide +kernel
theorem dX8_knobTo_8 : decode cX8_knobTo 8 = .ok (.sipush (-1000), 3) := by decide +kernel
theorem dX8_knobTo_11 : decode cX8_knobTo 11 = .ok (.if_icmp .lt 10, 3) := by decide +kernel
theorem dX8_knobTo_14 : decode cX8_knobTo 14 = .ok (.iload_n 2, 1) := by decide +kernel
theorem dX8_knobTo_15 : decode cX8_knobTo 15 = .ok (.sipush 1000, 3) := by decide +kernel
theorem dX8_knobTo_18 : decode cX8_knobTo 18 = .ok (.if_icmp .le 9, 3) := by decide +kernel
theorem dX8_knobTo_21 : decode cX8_knobTo 21 = .ok (.aload_n 0, 1) := by decide +kernel
theorem dX8_knobTo_22 : decode cX8_knobTo 22 = .ok (.iconst 1, 1) := by decide +kernel
theorem dX8_knobTo_23 : decode cX8_knobTo 23 = .ok (.invokevirtual 101, 3) := by decide +kernel
theorem dX8_knobTo_26 : decode cX8_knobTo 26 = .ok (.ireturn, 1) := by decide +kernel
theorem dX8_knobTo_27 : decode cX8_knobTo 27 = .ok (.aload_n 0, 1) := by decide +kernel
theorem dX8_knobTo_28 : decode cX8_knobTo 28 = .ok (.iload_n 1, 1) := by decide +kernel
theorem dX8_knobTo_29 : decode cX8_knobTo 29 = .ok (.invokevirtual 104, 3) := by decide +kernel
theorem dX8_knobTo_32 : decode cX8_knobTo 32 = .ok (.ifCond .ge 9, 3) := by decide +kernel
theorem dX8_knobTo_35 : decode cX8_knobTo 35 = .ok (.aload_n 0, 1) := by decide +kernel
theorem dX8_knobTo_36 : decode cX8_knobTo 36 = .ok (.iconst 2, 1) := by decide +kernel
theorem dX8_knobTo_37 : decode cX8_knobTo 37 = .ok (.invokevirtual 101, 3) := by decide +kernel
theorem dX8_knobTo_40 : decode cX8_knobTo 40 = .ok (.ireturn, 1) := by decide +kernel
theorem dX8_knobTo_41 : decode cX8_knobTo 41 = .ok (.aload_n 0, 1) := by decide +kernel
theorem dX8_knobTo_42 : decode cX8_knobTo 42 = .ok (.aload_n 0, 1) := by decide +kernel
theorem dX8_knobTo_43 : decode cX8_knobTo 43 = .ok (.aload_n 0, 1) := by decide +kernel
theorem dX8_knobTo_44 : decode cX8_knobTo 44 = .ok (.iload_n 1, 1) := by decide +kernel
theorem dX8_knobTo_45 : decode cX8_knobTo 45 = .ok (.invokevirtual 104, 3) := by decide +kernel
theorem dX8_knobTo_48 : decode cX8_knobTo 48 = .ok (.invokevirtual 78, 3) := by decide +kernel
theorem dX8_knobTo_51 : decode cX8_knobTo 51 = .ok (.invokevirtual 65, 3) := by decide +kernel
theorem dX8_knobTo_54 : decode cX8_knobTo 54 = .ok (.ifCond .ne 9, 3) := by decide +kernel
theorem dX8_knobTo_57 : decode cX8_knobTo 57 = .ok (.aload_n 0, 1) := by decide +kernel
theorem dX8_knobTo_58 : decode cX8_knobTo 58 = .ok (.iconst 3, 1) := by decide +kernel
theorem dX8_knobTo_59 : decode cX8_knobTo 59 = .ok (.invokevirtual 101, 3) := by decide +kernel
theorem dX8_knobTo_62 : decode cX8_knobTo 62 = .ok (.ireturn, 1) := by decide +kernel
theorem dX8_knobTo_63 : decode cX8_knobTo 63 = .ok (.aload_n 0, 1) := by decide +kernel
theorem dX8_knobTo_64 : decode cX8_knobTo 64 = .ok (.getfield 16, 3) := by decide +kernel
theorem dX8_knobTo_67 : decode cX8_knobTo 67 = .ok (.bipush 120, 2) := by decide +kernel
theorem dX8_knobTo_69 : decode cX8_knobTo 69 = .ok (.aload_n 0, 1) := by decide +kernel
theorem dX8_knobTo_70 : decode cX8_knobTo 70 = .ok (.iload_n 1, 1) := by decide +kernel
theorem dX8_knobTo_71 : decode cX8_knobTo 71 = .ok (.invokevirtual 104, 3) := by decide +kernel
theorem dX8_knobTo_74 : decode cX8_knobTo 74 = .ok (.iadd, 1) := by decide +kernel
theorem dX8_knobTo_75 : decode cX8_knobTo 75 = .ok (.iaload, 1) := by decide +kernel
theorem dX8_knobTo_76 : decode cX8_knobTo 76 = .ok (.istore_n 3, 1) := by decide +kernel
theorem dX8_knobTo_77 : decode cX8_knobTo 77 = .ok (.aload_n 0, 1) := by decide +kernel
theorem dX8_knobTo_78 : decode cX8_knobTo 78 = .ok (.getfield 16, 3) := by decide +kernel
theorem dX8_knobTo_81 : decode cX8_knobTo 81 = .ok (.bipush 120, 2) := by decide +kernel
theorem dX8_knobTo_83 : decode cX8_knobTo 83 = .ok (.aload_n 0, 1) := by decide +kernel
theorem dX8_knobTo_84 : decode cX8_knobTo 84 = .ok (.iload_n 1, 1) := by decide +kernel
theorem dX8_knobTo_85 : decode cX8_knobTo 85 = .ok (.invokevirtual 104, 3) := by decide +kernel
theorem dX8_knobTo_88 : decode cX8_knobTo 88 = .ok (.iadd, 1) := by decide +kernel
theorem dX8_knobTo_89 : decode cX8_knobTo 89 = .ok (.iload_n 2, 1) := by decide +kernel
theorem dX8_knobTo_90 : decode cX8_knobTo 90 = .ok (.iastore, 1) := by decide +kernel
theorem dX8_knobTo_91 : decode cX8_knobTo 91 = .ok (.iload_n 3, 1) := by decide +kernel
theorem dX8_knobTo_92 : decode cX8_knobTo 92 = .ok (.ireturn, 1) := by decide +kernel
theorem dX8_reasonOfPlay_0 : decode cX8_reasonOfPlay 0 = .ok (.iload_n 1, 1) := by decide +kernel
theorem dX8_reasonOfPlay_1 : decode cX8_reasonOfPlay 1 = .ok (.invokestatic 98, 3) := by decide +kernel
theorem dX8_reasonOfPlay_4 : decode cX8_reasonOfPlay 4 = .ok (.ifCond .ne 5, 3) := by decide +kernel
theorem dX8_reasonOfPlay_7 : decode cX8_reasonOfPlay 7 = .ok (.iconst 1, 1) := by decide +kernel
theorem dX8_reasonOfPlay_8 : decode cX8_reasonOfPlay 8 = .ok (.ireturn, 1) := by decide +kernel
theorem dX8_reasonOfPlay_9 : decode cX8_reasonOfPlay 9 = .ok (.aload_n 0, 1) := by decide +kernel
theorem dX8_reasonOfPlay_10 : decode cX8_reasonOfPlay 10 = .ok (.iload_n 1, 1) := by decide +kernel
theorem dX8_reasonOfPlay_11 : decode cX8_reasonOfPlay 11 = .ok (.invokevirtual 104, 3) := by decide +kernel
theorem dX8_reasonOfPlay_14 : decode cX8_reasonOfPlay 14 = .ok (.ifCond .ge 5, 3) := by decide +kernel
theorem dX8_reasonOfPlay_17 : decode cX8_reasonOfPlay 17 = .ok (.iconst 2, 1) := by decide +kernel
theorem dX8_reasonOfPlay_18 : decode cX8_reasonOfPlay 18 = .ok (.ireturn, 1) := by decide +kernel
theorem dX8_reasonOfPlay_19 : decode cX8_reasonOfPlay 19 = .ok (.aload_n 0, 1) := by decide +kernel
theorem dX8_reasonOfPlay_20 : decode cX8_reasonOfPlay 20 = .ok (.aload_n 0, 1) := by decide +kernel
theorem dX8_reasonOfPlay_21 : decode cX8_reasonOfPlay 21 = .ok (.aload_n 0, 1) := by decide +kernel
theorem dX8_reasonOfPlay_22 : decode cX8_reasonOfPlay 22 = .ok (.iload_n 1, 1) := by decide +kernel
theorem dX8_reasonOfPlay_23 : decode cX8_reasonOfPlay 23 = .ok (.invokevirtual 104, 3) := by decide +kernel
theorem dX8_reasonOfPlay_26 : decode cX8_reasonOfPlay 26 = .ok (.invokevirtual 78, 3) := by decide +kernel
theorem dX8_reasonOfPlay_29 : decode cX8_reasonOfPlay 29 = .ok (.invokevirtual 127, 3) := by decide +kernel
theorem dX8_reasonOfPlay_32 : decode cX8_reasonOfPlay 32 = .ok (.ifCond .eq 7, 3) := by decide +kernel
theorem dX8_reasonOfPlay_35 : decode cX8_reasonOfPlay 35 = .ok (.iconst 0, 1) := by decide +kernel
theorem dX8_reasonOfPlay_36 : decode cX8_reasonOfPlay 36 = .ok (.goto 4, 3) := by decide +kernel
theorem dX8_reasonOfPlay_39 : decode cX8_reasonOfPlay 39 = .ok (.iconst 3, 1) := by decide +kernel
theorem dX8_reasonOfPlay_40 : decode cX8_reasonOfPlay 40 = .ok (.ireturn, 1) := by decide +kernel
theorem dX8_playBy_0 : decode cX8_playBy 0 = .ok (.aload_n 0, 1) := by decide +kernel
theorem dX8_playBy_1 : decode cX8_playBy 1 = .ok (.iload_n 1, 1) := by decide +kernel
theorem dX8_playBy_2 : decode cX8_playBy 2 = .ok (.invokevirtual 130, 3) := by decide +kernel
theorem dX8_playBy_5 : decode cX8_playBy 5 = .ok (.istore_n 3, 1) := by decide +kernel
theorem dX8_playBy_6 : decode cX8_playBy 6 = .ok (.iload_n 3, 1) := by decide +kernel
theorem dX8_playBy_7 : decode cX8_playBy 7 = .ok (.ifCond .le 9, 3) := by decide +kernel
theorem dX8_playBy_10 : decode cX8_playBy 10 = .ok (.aload_n 0, 1) := by decide +kernel
theorem dX8_playBy_11 : decode cX8_playBy 11 = .ok (.iload_n 3, 1) := by decide +kernel
theorem dX8_playBy_12 : decode cX8_playBy 12 = .ok (.invokevirtual 101, 3) := by decide +kernel
theorem dX8_playBy_15 : decode cX8_playBy 15 = .ok (.ireturn, 1) := by decide +kernel
theorem dX8_playBy_16 : decode cX8_playBy 16 = .ok (.aload_n 0, 1) := by decide +kernel
theorem dX8_playBy_17 : decode cX8_playBy 17 = .ok (.aload_n 0, 1) := by decide +kernel
theorem dX8_playBy_18 : decode cX8_playBy 18 = .ok (.iload_n 1, 1) := by decide +kernel
theorem dX8_playBy_19 : decode cX8_playBy 19 = .ok (.invokevirtual 104, 3) := by decide +kernel
theorem dX8_playBy_22 : decode cX8_playBy 22 = .ok (.iload_n 2, 1) := by decide +kernel
theorem dX8_playBy_23 : decode cX8_playBy 23 = .ok (.invokevirtual 133, 3) := by decide +kernel
theorem dX8_playBy_26 : decode cX8_playBy 26 = .ok (.ireturn, 1) := by decide +kernel
theorem dX8_runOver_0 : decode cX8_runOver 0 = .ok (.iload_n 1, 1) := by decide +kernel
theorem dX8_runOver_1 : decode cX8_runOver 1 = .ok (.invokestatic 98, 3) := by decide +kernel
theorem dX8_runOver_4 : decode cX8_runOver 4 = .ok (.ifCond .eq 10, 3) := by decide +kernel
theorem dX8_runOver_7 : decode cX8_runOver 7 = .ok (.iload_n 2, 1) := by decide +kernel
theorem dX8_runOver_8 : decode cX8_runOver 8 = .ok (.invokestatic 98, 3) := by decide +kernel
theorem dX8_runOver_11 : decode cX8_runOver 11 = .ok (.ifCond .ne 9, 3) := by decide +kernel
theorem dX8_runOver_14 : decode cX8_runOver 14 = .ok (.aload_n 0, 1) := by decide +kernel
theorem dX8_runOver_15 : decode cX8_runOver 15 = .ok (.iconst 1, 1) := by decide +kernel
theorem dX8_runOver_16 : decode cX8_runOver 16 = .ok (.invokevirtual 101, 3) := by decide +kernel
theorem dX8_runOver_19 : decode cX8_runOver 19 = .ok (.ireturn, 1) := by decide +kernel
theorem dX8_runOver_20 : decode cX8_runOver 20 = .ok (.aload_n 0, 1) := by decide +kernel
theorem dX8_runOver_21 : decode cX8_runOver 21 = .ok (.iload_n 1, 1) := by decide +kernel
theorem dX8_runOver_22 : decode cX8_runOver 22 = .ok (.invokevirtual 104, 3) := by decide +kernel
theorem dX8_runOver_25 : decode cX8_runOver 25 = .ok (.ifCond .lt 11, 3) := by decide +kernel
theorem dX8_runOver_28 : decode cX8_runOver 28 = .ok (.aload_n 0, 1) := by decide +kernel
theorem dX8_runOver_29 : decode cX8_runOver 29 = .ok (.iload_n 2, 1) := by decide +kernel
theorem dX8_runOver_30 : decode cX8_runOver 30 = .ok (.invokevirtual 104, 3) := by decide +kernel
theorem dX8_runOver_33 : decode cX8_runOver 33 = .ok (.ifCond .ge 9, 3) := by decide +kernel
theorem dX8_runOver_36 : decode cX8_runOver 36 = .ok (.aload_n 0, 1) := by decide +kernel
theorem dX8_runOver_37 : decode cX8_runOver 37 = .ok (.iconst 2, 1) := by decide +kernel
theorem dX8_runOver_38 : decode cX8_runOver 38 = .ok (.invokevirtual 101, 3) := by decide +kernel
theorem dX8_runOver_41 : decode cX8_runOver 41 = .ok (.ireturn, 1) := by decide +kernel
theorem dX8_runOver_42 : decode cX8_runOver 42 = .ok (.aload_n 0, 1) := by decide +kernel
theorem dX8_runOver_43 : decode cX8_runOver 43 = .ok (.aload_n 0, 1) := by decide +kernel
theorem dX8_runOver_44 : decode cX8_runOver 44 = .ok (.aload_n 0, 1) := by decide +kernel
theorem dX8_runOver_45 : decode cX8_runOver 45 = .ok (.iload_n 1, 1) := by decide +kernel
theorem dX8_runOver_46 : decode cX8_runOver 46 = .ok (.invokevirtual 104, 3) := by decide +kernel
theorem dX8_runOver_49 : decode cX8_runOver 49 = .ok (.invokevirtual 78, 3) := by decide +kernel
theorem dX8_runOver_52 : decode cX8_runOver 52 = .ok (.invokevirtual 127, 3) := by decide +kernel
theorem dX8_runOver_55 : decode cX8_runOver 55 = .ok (.ifCond .eq 17, 3) := by decide +kernel
theorem dX8_runOver_58 : decode cX8_runOver 58 = .ok (.aload_n 0, 1) := by decide +kernel
theorem dX8_runOver_59 : decode cX8_runOver 59 = .ok (.aload_n 0, 1) := by decide +kernel
theorem dX8_runOver_60 : decode cX8_runOver 60 = .ok (.iload_n 2, 1) := by decide +kernel
theorem dX8_runOver_61 : decode cX8_runOver 61 = .ok (.invokevirtual 104, 3) := by decide +kernel
theorem dX8_runOver_64 : decode cX8_runOver 64 = .ok (.invokevirtual 78, 3) := by decide +kernel
theorem dX8_runOver_67 : decode cX8_runOver 67 = .ok (.bipush 13, 2) := by decide +kernel
theorem dX8_runOver_69 : decode cX8_runOver 69 = .ok (.if_icmp .eq 9, 3) := by decide +kernel
theorem dX8_runOver_72 : decode cX8_runOver 72 = .ok (.aload_n 0, 1) := by decide +kernel
theorem dX8_runOver_73 : decode cX8_runOver 73 = .ok (.iconst 3, 1) := by decide +kernel
theorem dX8_runOver_74 : decode cX8_runOver 74 = .ok (.invokevirtual 101, 3) := by decide +kernel
theorem dX8_runOver_77 : decode cX8_runOver 77 = .ok (.ireturn, 1) := by decide +kernel
theorem dX8_runOver_78 : decode cX8_runOver 78 = .ok (.aload_n 0, 1) := by decide +kernel
theorem dX8_runOver_79 : decode cX8_runOver 79 = .ok (.iload_n 2, 1) := by decide +kernel
theorem dX8_runOver_80 : decode cX8_runOver 80 = .ok (.invokevirtual 104, 3) := by decide +kernel
theorem dX8_runOver_83 : decode cX8_runOver 83 = .ok (.istore_n 3, 1) := by decide +kernel
theorem dX8_runOver_84 : decode cX8_runOver 84 = .ok (.iconst 0, 1) := by decide +kernel
theorem dX8_runOver_85 : decode cX8_runOver 85 = .ok (.istore 4, 2) := by decide +kernel
theorem dX8_runOver_87 : decode cX8_runOver 87 = .ok (.iload 4, 2) := by decide +kernel
theorem dX8_runOver_89 : decode cX8_runOver 89 = .ok (.aload_n 0, 1) := by decide +kernel
theorem dX8_runOver_90 : decode cX8_runOver 90 = .ok (.iload_n 3, 1) := by decide +kernel
theorem dX8_runOver_91 : decode cX8_runOver 91 = .ok (.invokevirtual 68, 3) := by decide +kernel
theorem dX8_runOver_94 : decode cX8_runOver 94 = .ok (.if_icmp .ge 44, 3) := by decide +kernel
theorem dX8_runOver_97 : decode cX8_runOver 97 = .ok (.aload_n 0, 1) := by decide +kernel
theorem dX8_runOver_98 : decode cX8_runOver 98 = .ok (.getfield 19, 3) := by decide +kernel
theorem dX8_runOver_101 : decode cX8_runOver 101 = .ok (.bipush 12, 2) := by decide +kernel
theorem dX8_runOver_103 : decode cX8_runOver 103 = .ok (.iload_n 3, 1) := by decide +kernel
theorem dX8_runOver_104 : decode cX8_runOver 104 = .ok (.imul, 1) := by decide +kernel
theorem dX8_runOver_105 : decode cX8_runOver 105 = .ok (.iload 4, 2) := by decide +kernel
theorem dX8_runOver_107 : decode cX8_runOver 107 = .ok (.iadd, 1) := by decide +kernel
theorem dX8_runOver_108 : decode cX8_runOver 108 = .ok (.aload_n 0, 1) := by decide +kernel
theorem dX8_runOver_109 : decode cX8_runOver 109 = .ok (.aload_n 0, 1) := by decide +kernel
theorem dX8_runOver_110 : decode cX8_runOver 110 = .ok (.iload_n 1, 1) := by decide +kernel
theorem dX8_runOver_111 : decode cX8_runOver 111 = .ok (.invokevirtual 104, 3) := by decide +kernel
theorem dX8_runOver_114 : decode cX8_runOver 114 = .ok (.aload_n 0, 1) := by decide +kernel
theorem dX8_runOver_115 : decode cX8_runOver 115 = .ok (.getfield 19, 3) := by decide +kernel
theorem dX8_runOver_118 : decode cX8_runOver 118 = .ok (.bipush 12, 2) := by decide +kernel
theorem dX8_runOver_120 : decode cX8_runOver 120 = .ok (.iload_n 3, 1) := by decide +kernel
theorem dX8_runOver_121 : decode cX8_runOver 121 = .ok (.imul, 1) := by decide +kernel
theorem dX8_runOver_122 : decode cX8_runOver 122 = .ok (.iload 4, 2) := by decide +kernel
theorem dX8_runOver_124 : decode cX8_runOver 124 = .ok (.iadd, 1) := by decide +kernel
theorem dX8_runOver_125 : decode cX8_runOver 125 = .ok (.laload, 1) := by decide +kernel
theorem dX8_runOver_126 : decode cX8_runOver 126 = .ok (.l2i, 1) := by decide +kernel
theorem dX8_runOver_127 : decode cX8_runOver 127 = .ok (.invokevirtual 133, 3) := by decide +kernel
theorem dX8_runOver_130 : decode cX8_runOver 130 = .ok (.i2l, 1) := by decide +kernel
theorem dX8_runOver_131 : decode cX8_runOver 131 = .ok (.lastore, 1) := by decide +kernel
theorem dX8_runOver_132 : decode cX8_runOver 132 = .ok (.iinc 4 1, 3) := by decide +kernel
theorem dX8_runOver_135 : decode cX8_runOver 135 = .ok (.goto (-48), 3) := by decide +kernel
theorem dX8_runOver_138 : decode cX8_runOver 138 = .ok (.aload_n 0, 1) := by decide +kernel
theorem dX8_runOver_139 : decode cX8_runOver 139 = .ok (.iload_n 3, 1) := by decide +kernel
theorem dX8_runOver_140 : decode cX8_runOver 140 = .ok (.invokevirtual 68, 3) := by decide +kernel
theorem dX8_runOver_143 : decode cX8_runOver 143 = .ok (.ireturn, 1) := by decide +kernel
theorem dX8_ticksBy_0 : decode cX8_ticksBy 0 = .ok (.iload_n 1, 1) := by decide +kernel
theorem dX8_ticksBy_1 : decode cX8_ticksBy 1 = .ok (.invokestatic 98, 3) := by decide +kernel
theorem dX8_ticksBy_4 : decode cX8_ticksBy 4 = .ok (.ifCond .eq 13, 3) := by decide +kernel
theorem dX8_ticksBy_7 : decode cX8_ticksBy 7 = .ok (.iload_n 2, 1) := by decide +kernel
theorem dX8_ticksBy_8 : decode cX8_ticksBy 8 = .ok (.ifCond .lt 9, 3) := by decide +kernel
theorem dX8_ticksBy_11 : decode cX8_ticksBy 11 = .ok (.iload_n 2, 1) := by decide +kernel
theorem dX8_ticksBy_12 : decode cX8_ticksBy 12 = .ok (.bipush 8, 2) := by decide +kernel
theorem dX8_ticksBy_14 : decode cX8_ticksBy 14 = .ok (.if_icmp .le 9, 3) := by decide +kernel
theorem dX8_ticksBy_17 : decode cX8_ticksBy 17 = .ok (.aload_n 0, 1) := by decide +kernel
theorem dX8_ticksBy_18 : decode cX8_ticksBy 18 = .ok (.iconst 1, 1) := by decide +kernel
theorem dX8_ticksBy_19 : decode cX8_ticksBy 19 = .ok (.invokevirtual 101, 3) := by decide +kernel
theorem dX8_ticksBy_22 : decode cX8_ticksBy 22 = .ok (.ireturn, 1) := by decide +kernel
theorem dX8_ticksBy_23 : decode cX8_ticksBy 23 = .ok (.aload_n 0, 1) := by decide +kernel
theorem dX8_ticksBy_24 : decode cX8_ticksBy 24 = .ok (.iload_n 1, 1) := by decide +kernel
theorem dX8_ticksBy_25 : decode cX8_ticksBy 25 = .ok (.invokevirtual 104, 3) := by decide +kernel
theorem dX8_ticksBy_28 : decode cX8_ticksBy 28 = .ok (.ifCond .ge 9, 3) := by decide +kernel
theorem dX8_ticksBy_31 : decode cX8_ticksBy 31 = .ok (.aload_n 0, 1) := by decide +kernel
theorem dX8_ticksBy_32 : decode cX8_ticksBy 32 = .ok (.iconst 2, 1) := by decide +kernel
theorem dX8_ticksBy_33 : decode cX8_ticksBy 33 = .ok (.invokevirtual 101, 3) := by decide +kernel
theorem dX8_ticksBy_36 : decode cX8_ticksBy 36 = .ok (.ireturn, 1) := by decide +kernel
theorem dX8_ticksBy_37 : decode cX8_ticksBy 37 = .ok (.aload_n 0, 1) := by decide +kernel
theorem dX8_ticksBy_38 : decode cX8_ticksBy 38 = .ok (.iload_n 1, 1) := by decide +kernel
theorem dX8_ticksBy_39 : decode cX8_ticksBy 39 = .ok (.invokevirtual 104, 3) := by decide +kernel
theorem dX8_ticksBy_42 : decode cX8_ticksBy 42 = .ok (.istore_n 3, 1) := by decide +kernel
theorem dX8_ticksBy_43 : decode cX8_ticksBy 43 = .ok (.aload_n 0, 1) := by decide +kernel
theorem dX8_ticksBy_44 : decode cX8_ticksBy 44 = .ok (.aload_n 0, 1) := by decide +kernel
theorem dX8_ticksBy_45 : decode cX8_ticksBy 45 = .ok (.iload_n 3, 1) := by decide +kernel
theorem dX8_ticksBy_46 : decode cX8_ticksBy 46 = .ok (.invokevirtual 78, 3) := by decide +kernel
theorem dX8_ticksBy_49 : decode cX8_ticksBy 49 = .ok (.bipush 12, 2) := by decide +kernel
theorem dX8_ticksBy_51 : decode cX8_ticksBy 51 = .ok (.invokevirtual 62, 3) := by decide +kernel
theorem dX8_ticksBy_54 : decode cX8_ticksBy 54 = .ok (.ifCond .eq 10, 3) := by decide +kernel
theorem dX8_ticksBy_57 : decode cX8_ticksBy 57 = .ok (.aload_n 0, 1) := by decide +kernel
theorem dX8_ticksBy_58 : decode cX8_ticksBy 58 = .ok (.iload_n 3, 1) := by decide +kernel
theorem dX8_ticksBy_59 : decode cX8_ticksBy 59 = .ok (.iload_n 2, 1) := by decide +kernel
theorem dX8_ticksBy_60 : decode cX8_ticksBy 60 = .ok (.invokevirtual 136, 3) := by decide +kernel
theorem dX8_ticksBy_63 : decode cX8_ticksBy 63 = .ok (.ireturn, 1) := by decide +kernel
theorem dX8_ticksBy_64 : decode cX8_ticksBy 64 = .ok (.aload_n 0, 1) := by decide +kernel
theorem dX8_ticksBy_65 : decode cX8_ticksBy 65 = .ok (.aload_n 0, 1) := by decide +kernel
theorem dX8_ticksBy_66 : decode cX8_ticksBy 66 = .ok (.iload_n 3, 1) := by decide +kernel
theorem dX8_ticksBy_67 : decode cX8_ticksBy 67 = .ok (.invokevirtual 78, 3) := by decide +kernel
theorem dX8_ticksBy_70 : decode cX8_ticksBy 70 = .ok (.bipush 21, 2) := by decide +kernel
theorem dX8_ticksBy_72 : decode cX8_ticksBy 72 = .ok (.invokevirtual 62, 3) := by decide +kernel
theorem dX8_ticksBy_75 : decode cX8_ticksBy 75 = .ok (.ifCond .ne 9, 3) := by decide +kernel
theorem dX8_ticksBy_78 : decode cX8_ticksBy 78 = .ok (.aload_n 0, 1) := by decide +kernel
theorem dX8_ticksBy_79 : decode cX8_ticksBy 79 = .ok (.iconst 3, 1) := by decide +kernel
theorem dX8_ticksBy_80 : decode cX8_ticksBy 80 = .ok (.invokevirtual 101, 3) := by decide +kernel
theorem dX8_ticksBy_83 : decode cX8_ticksBy 83 = .ok (.ireturn, 1) := by decide +kernel
theorem dX8_ticksBy_84 : decode cX8_ticksBy 84 = .ok (.iconst 0, 1) := by decide +kernel
theorem dX8_ticksBy_85 : decode cX8_ticksBy 85 = .ok (.istore 4, 2) := by decide +kernel
theorem dX8_ticksBy_87 : decode cX8_ticksBy 87 = .ok (.iconst 0, 1) := by decide +kernel
theorem dX8_ticksBy_88 : decode cX8_ticksBy 88 = .ok (.istore 5, 2) := by decide +kernel
theorem dX8_ticksBy_90 : decode cX8_ticksBy 90 = .ok (.iload 5, 2) := by decide +kernel
theorem dX8_ticksBy_92 : decode cX8_ticksBy 92 = .ok (.aload_n 0, 1) := by decide +kernel
theorem dX8_ticksBy_93 : decode cX8_ticksBy 93 = .ok (.iload_n 3, 1) := by decide +kernel
theorem dX8_ticksBy_94 : decode cX8_ticksBy 94 = .ok (.invokevirtual 68, 3) := by decide +kernel
theorem dX8_ticksBy_97 : decode cX8_ticksBy 97 = .ok (.if_icmp .ge 35, 3) := by decide +kernel
theorem dX8_ticksBy_100 : decode cX8_ticksBy 100 = .ok (.aload_n 0, 1) := by decide +kernel
theorem dX8_ticksBy_101 : decode cX8_ticksBy 101 = .ok (.iload_n 3, 1) := by decide +kernel
theorem dX8_ticksBy_102 : decode cX8_ticksBy 102 = .ok (.iload 5, 2) := by decide +kernel
theorem dX8_ticksBy_104 : decode cX8_ticksBy 104 = .ok (.invokevirtual 85, 3) := by decide +kernel
theorem dX8_ticksBy_107 : decode cX8_ticksBy 107 = .ok (.istore 6, 2) := by decide +kernel
theorem dX8_ticksBy_109 : decode cX8_ticksBy 109 = .ok (.iload 6, 2) := by decide +kernel
theorem dX8_ticksBy_111 : decode cX8_ticksBy 111 = .ok (.ifCond .lt 15, 3) := by decide +kernel
theorem dX8_ticksBy_114 : decode cX8_ticksBy 114 = .ok (.iload 4, 2) := by decide +kernel
theorem dX8_ticksBy_116 : decode cX8_ticksBy 116 = .ok (.aload_n 0, 1) := by decide +kernel
theorem dX8_ticksBy_117 : decode cX8_ticksBy 117 = .ok (.iload 6, 2) := by decide +kernel
theorem dX8_ticksBy_119 : decode cX8_ticksBy 119 = .ok (.iload_n 2, 1) := by decide +kernel
theorem dX8_ticksBy_120 : decode cX8_ticksBy 120 = .ok (.invokevirtual 136, 3) := by decide +kernel
theorem dX8_ticksBy_123 : decode cX8_ticksBy 123 = .ok (.iadd, 1) := by decide +kernel
theorem dX8_ticksBy_124 : decode cX8_ticksBy 124 = .ok (.istore 4, 2) := by decide +kernel
theorem dX8_ticksBy_126 : decode cX8_ticksBy 126 = .ok (.iinc 5 1, 3) := by decide +kernel
theorem dX8_ticksBy_129 : decode cX8_ticksBy 129 = .ok (.goto (-39), 3) := by decide +kernel
theorem dX8_ticksBy_132 : decode cX8_ticksBy 132 = .ok (.iload 4, 2) := by decide +kernel
theorem dX8_ticksBy_134 : decode cX8_ticksBy 134 = .ok (.ireturn, 1) := by decide +kernel
theorem dX8_restOf_0 : decode cX8_restOf 0 = .ok (.aload_n 0, 1) := by decide +kernel
theorem dX8_restOf_1 : decode cX8_restOf 1 = .ok (.iload_n 1, 1) := by decide +kernel
theorem dX8_restOf_2 : decode cX8_restOf 2 = .ok (.invokevirtual 130, 3) := by decide +kernel
theorem dX8_restOf_5 : decode cX8_restOf 5 = .ok (.istore_n 2, 1) := by decide +kernel
theorem dX8_restOf_6 : decode cX8_restOf 6 = .ok (.iload_n 2, 1) := by decide +kernel
theorem dX8_restOf_7 : decode cX8_restOf 7 = .ok (.ifCond .le 9, 3) := by decide +kernel
theorem dX8_restOf_10 : decode cX8_restOf 10 = .ok (.aload_n 0, 1) := by decide +kernel
theorem dX8_restOf_11 : decode cX8_restOf 11 = .ok (.iload_n 2, 1) := by decide +kernel
theorem dX8_restOf_12 : decode cX8_restOf 12 = .ok (.invokevirtual 101, 3) := by decide +kernel
theorem dX8_restOf_15 : decode cX8_restOf 15 = .ok (.ireturn, 1) := by decide +kernel
theorem dX8_restOf_16 : decode cX8_restOf 16 = .ok (.aload_n 0, 1) := by decide +kernel
theorem dX8_restOf_17 : decode cX8_restOf 17 = .ok (.iload_n 1, 1) := by decide +kernel
theorem dX8_restOf_18 : decode cX8_restOf 18 = .ok (.invokevirtual 104, 3) := by decide +kernel
theorem dX8_restOf_21 : decode cX8_restOf 21 = .ok (.istore_n 3, 1) := by decide +kernel
theorem dX8_restOf_22 : decode cX8_restOf 22 = .ok (.aload_n 0, 1) := by decide +kernel
theorem dX8_restOf_23 : decode cX8_restOf 23 = .ok (.aload_n 0, 1) := by decide +kernel
theorem dX8_restOf_24 : decode cX8_restOf 24 = .ok (.iload_n 3, 1) := by decide +kernel
theorem dX8_restOf_25 : decode cX8_restOf 25 = .ok (.invokevirtual 78, 3) := by decide +kernel
theorem dX8_restOf_28 : decode cX8_restOf 28 = .ok (.invokevirtual 65, 3) := by decide +kernel
theorem dX8_restOf_31 : decode cX8_restOf 31 = .ok (.ifCond .eq 10, 3) := by decide +kernel
theorem dX8_restOf_34 : decode cX8_restOf 34 = .ok (.aload_n 0, 1) := by decide +kernel
theorem dX8_restOf_35 : decode cX8_restOf 35 = .ok (.iload_n 3, 1) := by decide +kernel
theorem dX8_restOf_36 : decode cX8_restOf 36 = .ok (.invokevirtual 94, 3) := by decide +kernel
theorem dX8_restOf_39 : decode cX8_restOf 39 = .ok (.iconst 1, 1) := by decide +kernel
theorem dX8_restOf_40 : decode cX8_restOf 40 = .ok (.ireturn, 1) := by decide +kernel
theorem dX8_restOf_41 : decode cX8_restOf 41 = .ok (.aload_n 0, 1) := by decide +kernel
theorem dX8_restOf_42 : decode cX8_restOf 42 = .ok (.iload_n 3, 1) := by decide +kernel
theorem dX8_restOf_43 : decode cX8_restOf 43 = .ok (.invokevirtual 78, 3) := by decide +kernel
theorem dX8_restOf_46 : decode cX8_restOf 46 = .ok (.invokestatic 55, 3) := by decide +kernel
theorem dX8_restOf_49 : decode cX8_restOf 49 = .ok (.ifCond .ne 9, 3) := by decide +kernel
theorem dX8_restOf_52 : decode cX8_restOf 52 = .ok (.aload_n 0, 1) := by decide +kernel
theorem dX8_restOf_53 : decode cX8_restOf 53 = .ok (.iload_n 3, 1) := by decide +kernel
theorem dX8_restOf_54 : decode cX8_restOf 54 = .ok (.invokevirtual 139, 3) := by decide +kernel
theorem dX8_restOf_57 : decode cX8_restOf 57 = .ok (.ireturn, 1) := by decide +kernel
theorem dX8_restOf_58 : decode cX8_restOf 58 = .ok (.iconst 0, 1) := by decide +kernel
theorem dX8_restOf_59 : decode cX8_restOf 59 = .ok (.istore 4, 2) := by decide +kernel
theorem dX8_restOf_61 : decode cX8_restOf 61 = .ok (.iconst 0, 1) := by decide +kernel
theorem dX8_restOf_62 : decode cX8_restOf 62 = .ok (.istore 5, 2) := by decide +kernel
theorem dX8_restOf_64 : decode cX8_restOf 64 = .ok (.iload 5, 2) := by decide +kernel
theorem dX8_restOf_66 : decode cX8_restOf 66 = .ok (.aload_n 0, 1) := by decide +kernel
theorem dX8_restOf_67 : decode cX8_restOf 67 = .ok (.iload_n 3, 1) := by decide +kernel
theorem dX8_restOf_68 : decode cX8_restOf 68 = .ok (.invokevirtual 68, 3) := by decide +kernel
theorem dX8_restOf_71 : decode cX8_restOf 71 = .ok (.if_icmp .ge 34, 3) := by decide +kernel
theorem dX8_restOf_74 : decode cX8_restOf 74 = .ok (.aload_n 0, 1) := by decide +kernel
theorem dX8_restOf_75 : decode cX8_restOf 75 = .ok (.iload_n 3, 1) := by decide +kernel
theorem dX8_restOf_76 : decode cX8_restOf 76 = .ok (.iload 5, 2) := by decide +kernel
theorem dX8_restOf_78 : decode cX8_restOf 78 = .ok (.invokevirtual 85, 3) := by decide +kernel
theorem dX8_restOf_81 : decode cX8_restOf 81 = .ok (.istore 6, 2) := by decide +kernel
theorem dX8_restOf_83 : decode cX8_restOf 83 = .ok (.iload 6, 2) := by decide +kernel
theorem dX8_restOf_85 : decode cX8_restOf 85 = .ok (.ifCond .lt 14, 3) := by decide +kernel
theorem dX8_restOf_88 : decode cX8_restOf 88 = .ok (.iload 4, 2) := by decide +kernel
theorem dX8_restOf_90 : decode cX8_restOf 90 = .ok (.aload_n 0, 1) := by decide +kernel
theorem dX8_restOf_91 : decode cX8_restOf 91 = .ok (.iload 6, 2) := by decide +kernel
theorem dX8_restOf_93 : decode cX8_restOf 93 = .ok (.invokevirtual 139, 3) := by decide +kernel
theorem dX8_restOf_96 : decode cX8_restOf 96 = .ok (.iadd, 1) := by decide +kernel
theorem dX8_restOf_97 : decode cX8_restOf 97 = .ok (.istore 4, 2) := by decide +kernel
theorem dX8_restOf_99 : decode cX8_restOf 99 = .ok (.iinc 5 1, 3) := by decide +kernel
theorem dX8_restOf_102 : decode cX8_restOf 102 = .ok (.goto (-38), 3) := by decide +kernel
theorem dX8_restOf_105 : decode cX8_restOf 105 = .ok (.iload 4, 2) := by decide +kernel
theorem dX8_restOf_107 : decode cX8_restOf 107 = .ok (.ireturn, 1) := by decide +kernel
theorem dX8_whenUnder_0 : decode cX8_whenUnder 0 = .ok (.iload_n 1, 1) := by decide +kernel
theorem dX8_whenUnder_1 : decode cX8_whenUnder 1 = .ok (.invokestatic 98, 3) := by decide +kernel
theorem dX8_whenUnder_4 : decode cX8_whenUnder 4 = .ok (.ifCond .eq 13, 3) := by decide +kernel
theorem dX8_whenUnder_7 : decode cX8_whenUnder 7 = .ok (.iload_n 2, 1) := by decide +kernel
theorem dX8_whenUnder_8 : decode cX8_whenUnder 8 = .ok (.ifCond .lt 9, 3) := by decide +kernel
theorem dX8_whenUnder_11 : decode cX8_whenUnder 11 = .ok (.iload_n 2, 1) := by decide +kernel
theorem dX8_whenUnder_12 : decode cX8_whenUnder 12 = .ok (.bipush 24, 2) := by decide +kernel
theorem dX8_whenUnder_14 : decode cX8_whenUnder 14 = .ok (.if_icmp .le 9, 3) := by decide +kernel
theorem dX8_whenUnder_17 : decode cX8_whenUnder 17 = .ok (.aload_n 0, 1) := by decide +kernel
theorem dX8_whenUnder_18 : decode cX8_whenUnder 18 = .ok (.iconst 1, 1) := by decide +kernel
theorem dX8_whenUnder_19 : decode cX8_whenUnder 19 = .ok (.invokevirtual 101, 3) := by decide +kernel
theorem dX8_whenUnder_22 : decode cX8_whenUnder 22 = .ok (.ireturn, 1) := by decide +kernel
theorem dX8_whenUnder_23 : decode cX8_whenUnder 23 = .ok (.aload_n 0, 1) := by decide +kernel
theorem dX8_whenUnder_24 : decode cX8_whenUnder 24 = .ok (.iload_n 1, 1) := by decide +kernel
theorem dX8_whenUnder_25 : decode cX8_whenUnder 25 = .ok (.invokevirtual 104, 3) := by decide +kernel
theorem dX8_whenUnder_28 : decode cX8_whenUnder 28 = .ok (.ifCond .lt 24, 3) := by decide +kernel
theorem dX8_whenUnder_31 : decode cX8_whenUnder 31 = .ok (.aload_n 0, 1) := by decide +kernel
theorem dX8_whenUnder_32 : decode cX8_whenUnder 32 = .ok (.aload_n 0, 1) := by decide +kernel
theorem dX8_whenUnder_33 : decode cX8_whenUnder 33 = .ok (.aload_n 0, 1) := by decide +kernel
theorem dX8_whenUnder_34 : decode cX8_whenUnder 34 = .ok (.iload_n 1, 1) := by decide +kernel
theorem dX8_whenUnder_35 : decode cX8_whenUnder 35 = .ok (.invokevirtual 104, 3) := by decide +kernel
theorem dX8_whenUnder_38 : decode cX8_whenUnder 38 = .ok (.invokevirtual 78, 3) := by decide +kernel
theorem dX8_whenUnder_41 : decode cX8_whenUnder 41 = .ok (.iload_n 2, 1) := by decide +kernel
theorem dX8_whenUnder_42 : decode cX8_whenUnder 42 = .ok (.invokevirtual 62, 3) := by decide +kernel
theorem dX8_whenUnder_45 : decode cX8_whenUnder 45 = .ok (.ifCond .eq 7, 3) := by decide +kernel
theorem dX8_whenUnder_48 : decode cX8_whenUnder 48 = .ok (.iconst 1, 1) := by decide +kernel
theorem dX8_whenUnder_49 : decode cX8_whenUnder 49 = .ok (.goto 4, 3) := by decide +kernel
theorem dX8_whenUnder_52 : decode cX8_whenUnder 52 = .ok (.iconst 0, 1) := by decide +kernel
theorem dX8_whenUnder_53 : decode cX8_whenUnder 53 = .ok (.ireturn, 1) := by decide +kernel
theorem dX8_done_0 : decode cX8_done 0 = .ok (.aload_n 1, 1) := by decide +kernel
theorem dX8_done_1 : decode cX8_done 1 = .ok (.iload_n 2, 1) := by decide +kernel
theorem dX8_done_2 : decode cX8_done 2 = .ok (.iconst 1, 1) := by decide +kernel
theorem dX8_done_3 : decode cX8_done 3 = .ok (.iadd, 1) := by decide +kernel
theorem dX8_done_4 : decode cX8_done 4 = .ok (.iaload, 1) := by decide +kernel
theorem dX8_done_5 : decode cX8_done 5 = .ok (.istore 5, 2) := by decide +kernel
theorem dX8_done_7 : decode cX8_done 7 = .ok (.aload_n 1, 1) := by decide +kernel
theorem dX8_done_8 : decode cX8_done 8 = .ok (.iload_n 2, 1) := by decide +kernel
theorem dX8_done_9 : decode cX8_done 9 = .ok (.iconst 2, 1) := by decide +kernel
theorem dX8_done_10 : decode cX8_done 10 = .ok (.iadd, 1) := by decide +kernel
theorem dX8_done_11 : decode cX8_done 11 = .ok (.iaload, 1) := by decide +kernel
theorem dX8_done_12 : decode cX8_done 12 = .ok (.istore 6, 2) := by decide +kernel
theorem dX8_done_14 : decode cX8_done 14 = .ok (.aload_n 1, 1) := by decide +kernel
theorem dX8_done_15 : decode cX8_done 15 = .ok (.iload_n 2, 1) := by decide +kernel
theorem dX8_done_16 : decode cX8_done 16 = .ok (.iconst 3, 1) := by decide +kernel
theorem dX8_done_17 : decode cX8_done 17 = .ok (.iadd, 1) := by decide +kernel
theorem dX8_done_18 : decode cX8_done 18 = .ok (.iaload, 1) := by decide +kernel
theorem dX8_done_19 : decode cX8_done 19 = .ok (.istore 7, 2) := by decide +kernel
theorem dX8_done_21 : decode cX8_done 21 = .ok (.aload_n 0, 1) := by decide +kernel
theorem dX8_done_22 : decode cX8_done 22 = .ok (.iconst 0, 1) := by decide +kernel
theorem dX8_done_23 : decode cX8_done 23 = .ok (.putfield 71, 3) := by decide +kernel
theorem dX8_done_26 : decode cX8_done 26 = .ok (.aload_n 1, 1) := by decide +kernel
theorem dX8_done_27 : decode cX8_done 27 = .ok (.iload_n 2, 1) := by decide +kernel
theorem dX8_done_28 : decode cX8_done 28 = .ok (.iaload, 1) := by decide +kernel
theorem dX8_done_29 : decode cX8_done 29 = .ok (.tableswitch 175 1 11 #[59, 70, 79, 90, 101, 122, 132, 141, 150, 159, 168], 59) := by decide +kernel
theorem dX8_done_88 : decode cX8_done 88 = .ok (.aload_n 0, 1) := by decide +kernel
theorem dX8_done_89 : decode cX8_done 89 = .ok (.iload 5, 2) := by decide +kernel
theorem dX8_done_91 : decode cX8_done 91 = .ok (.iload 6, 2) := by decide +kernel
theorem dX8_done_93 : decode cX8_done 93 = .ok (.iload 7, 2) := by decide +kernel
theorem dX8_done_95 : decode cX8_done 95 = .ok (.invokevirtual 142, 3) := by decide +kernel
theorem dX8_done_98 : decode cX8_done 98 = .ok (.ireturn, 1) := by decide +kernel
theorem dX8_done_99 : decode cX8_done 99 = .ok (.aload_n 0, 1) := by decide +kernel
theorem dX8_done_100 : decode cX8_done 100 = .ok (.iload 5, 2) := by decide +kernel
theorem dX8_done_102 : decode cX8_done 102 = .ok (.iload 6, 2) := by decide +kernel
theorem dX8_done_104 : decode cX8_done 104 = .ok (.invokevirtual 146, 3) := by decide +kernel
theorem dX8_done_107 : decode cX8_done 107 = .ok (.ireturn, 1) := by decide +kernel
theorem dX8_done_108 : decode cX8_done 108 = .ok (.aload_n 0, 1) := by decide +kernel
theorem dX8_done_109 : decode cX8_done 109 = .ok (.iload 5, 2) := by decide +kernel
theorem dX8_done_111 : decode cX8_done 111 = .ok (.iload 6, 2) := by decide +kernel
theorem dX8_done_113 : decode cX8_done 113 = .ok (.iload 7, 2) := by decide +kernel
theorem dX8_done_115 : decode cX8_done 115 = .ok (.invokevirtual 149, 3) := by decide +kernel
theorem dX8_done_118 : decode cX8_done 118 = .ok (.ireturn, 1) := by decide +kernel
theorem dX8_done_119 : decode cX8_done 119 = .ok (.aload_n 0, 1) := by decide +kernel
theorem dX8_done_120 : decode cX8_done 120 = .ok (.iload 5, 2) := by decide +kernel
theorem dX8_done_122 : decode cX8_done 122 = .ok (.iload 6, 2) := by decide +kernel
theorem dX8_done_124 : decode cX8_done 124 = .ok (.iload 7, 2) := by decide +kernel
theorem dX8_done_126 : decode cX8_done 126 = .ok (.invokevirtual 152, 3) := by decide +kernel
theorem dX8_done_129 : decode cX8_done 129 = .ok (.ireturn, 1) := by decide +kernel
theorem dX8_done_130 : decode cX8_done 130 = .ok (.aload_n 0, 1) := by decide +kernel
theorem dX8_done_131 : decode cX8_done 131 = .ok (.iload 5, 2) := by decide +kernel
theorem dX8_done_133 : decode cX8_done 133 = .ok (.iload 6, 2) := by decide +kernel
theorem dX8_done_135 : decode cX8_done 135 = .ok (.iload 7, 2) := by decide +kernel
theorem dX8_done_137 : decode cX8_done 137 = .ok (.aload_n 1, 1) := by decide +kernel
theorem dX8_done_138 : decode cX8_done 138 = .ok (.iload_n 2, 1) := by decide +kernel
theorem dX8_done_139 : decode cX8_done 139 = .ok (.iconst 4, 1) := by decide +kernel
theorem dX8_done_140 : decode cX8_done 140 = .ok (.iadd, 1) := by decide +kernel
theorem dX8_done_141 : decode cX8_done 141 = .ok (.iaload, 1) := by decide +kernel
theorem dX8_done_142 : decode cX8_done 142 = .ok (.aload_n 1, 1) := by decide +kernel
theorem dX8_done_143 : decode cX8_done 143 = .ok (.iload_n 2, 1) := by decide +kernel
theorem dX8_done_144 : decode cX8_done 144 = .ok (.iconst 5, 1) := by decide +kernel
theorem dX8_done_145 : decode cX8_done 145 = .ok (.iadd, 1) := by decide +kernel
theorem dX8_done_146 : decode cX8_done 146 = .ok (.iaload, 1) := by decide +kernel
theorem dX8_done_147 : decode cX8_done 147 = .ok (.invokevirtual 155, 3) := by decide +kernel
theorem dX8_done_150 : decode cX8_done 150 = .ok (.ireturn, 1) := by decide +kernel
theorem dX8_done_151 : decode cX8_done 151 = .ok (.aload_n 0, 1) := by decide +kernel
theorem dX8_done_152 : decode cX8_done 152 = .ok (.iload 5, 2) := by decide +kernel
theorem dX8_done_154 : decode cX8_done 154 = .ok (.iload 6, 2) := by decide +kernel
theorem dX8_done_156 : decode cX8_done 156 = .ok (.lload_n 3, 1) := by decide +kernel
theorem dX8_done_157 : decode cX8_done 157 = .ok (.invokevirtual 158, 3) := by decide +kernel
theorem dX8_done_160 : decode cX8_done 160 = .ok (.ireturn, 1) := by decide +kernel
theorem dX8_done_161 : decode cX8_done 161 = .ok (.aload_n 0, 1) := by decide +kernel
theorem dX8_done_162 : decode cX8_done 162 = .ok (.iload 5, 2) := by decide +kernel
theorem dX8_done_164 : decode cX8_done 164 = .ok (.iload 6, 2) := by decide +kernel
theorem dX8_done_166 : decode cX8_done 166 = .ok (.invokevirtual 162, 3) := by decide +kernel
theorem dX8_done_169 : decode cX8_done 169 = .ok (.ireturn, 1) := by decide +kernel
theorem dX8_done_170 : decode cX8_done 170 = .ok (.aload_n 0, 1) := by decide +kernel
theorem dX8_done_171 : decode cX8_done 171 = .ok (.iload 5, 2) := by decide +kernel
theorem dX8_done_173 : decode cX8_done 173 = .ok (.iload 6, 2) := by decide +kernel
theorem dX8_done_175 : decode cX8_done 175 = .ok (.invokevirtual 165, 3) := by decide +kernel
theorem dX8_done_178 : decode cX8_done 178 = .ok (.ireturn, 1) := by decide +kernel
theorem dX8_done_179 : decode cX8_done 179 = .ok (.aload_n 0, 1) := by decide +kernel
theorem dX8_done_180 : decode cX8_done 180 = .ok (.iload 5, 2) := by decide +kernel
theorem dX8_done_182 : decode cX8_done 182 = .ok (.iload 6, 2) := by decide +kernel
theorem dX8_done_184 : decode cX8_done 184 = .ok (.invokevirtual 168, 3) := by decide +kernel
theorem dX8_done_187 : decode cX8_done 187 = .ok (.ireturn, 1) := by decide +kernel
theorem dX8_done_188 : decode cX8_done 188 = .ok (.aload_n 0, 1) := by decide +kernel
theorem dX8_done_189 : decode cX8_done 189 = .ok (.iload 5, 2) := by decide +kernel
theorem dX8_done_191 : decode cX8_done 191 = .ok (.iload 6, 2) := by decide +kernel
theorem dX8_done_193 : decode cX8_done 193 = .ok (.invokevirtual 171, 3) := by decide +kernel
theorem dX8_done_196 : decode cX8_done 196 = .ok (.ireturn, 1) := by decide +kernel
theorem dX8_done_197 : decode cX8_done 197 = .ok (.aload_n 0, 1) := by decide +kernel
theorem dX8_done_198 : decode cX8_done 198 = .ok (.iload 5, 2) := by decide +kernel
theorem dX8_done_200 : decode cX8_done 200 = .ok (.invokevirtual 174, 3) := by decide +kernel
theorem dX8_done_203 : decode cX8_done 203 = .ok (.ireturn, 1) := by decide +kernel
theorem dX8_done_204 : decode cX8_done 204 = .ok (.aload_n 0, 1) := by decide +kernel
theorem dX8_done_205 : decode cX8_done 205 = .ok (.iload 5, 2) := by decide +kernel
theorem dX8_done_207 : decode cX8_done 207 = .ok (.iload 6, 2) := by decide +kernel
theorem dX8_done_209 : decode cX8_done 209 = .ok (.invokevirtual 177, 3) := by decide +kernel
theorem dX8_done_212 : decode cX8_done 212 = .ok (.ireturn, 1) := by decide +kernel
theorem dX8_carried_0 : decode cX8_carried 0 = .ok (.iconst 0, 1) := by decide +kernel
theorem dX8_carried_1 : decode cX8_carried 1 = .ok (.istore 4, 2) := by decide +kernel
theorem dX8_carried_3 : decode cX8_carried 3 = .ok (.iconst 0, 1) := by decide +kernel
theorem dX8_carried_4 : decode cX8_carried 4 = .ok (.istore 5, 2) := by decide +kernel
theorem dX8_carried_6 : decode cX8_carried 6 = .ok (.iload 5, 2) := by decide +kernel
theorem dX8_carried_8 : decode cX8_carried 8 = .ok (.iload_n 1, 1) := by decide +kernel
theorem dX8_carried_9 : decode cX8_carried 9 = .ok (.if_icmp .ge 112, 3) := by decide +kernel
theorem dX8_carried_12 : decode cX8_carried 12 = .ok (.iconst 0, 1) := by decide +kernel
theorem dX8_carried_13 : decode cX8_carried 13 = .ok (.istore 6, 2) := by decide +kernel
theorem dX8_carried_15 : decode cX8_carried 15 = .ok (.iconst 0, 1) := by decide +kernel
theorem dX8_carried_16 : decode cX8_carried 16 = .ok (.istore 7, 2) := by decide +kernel
theorem dX8_carried_18 : decode cX8_carried 18 = .ok (.iload 7, 2) := by decide +kernel
theorem dX8_carried_20 : decode cX8_carried 20 = .ok (.iload_n 3, 1) := by decide +kernel
theorem dX8_carried_21 : decode cX8_carried 21 = .ok (.if_icmp .ge 94, 3) := by decide +kernel
theorem dX8_carried_24 : decode cX8_carried 24 = .ok (.iload 6, 2) := by decide +kernel
theorem dX8_carried_26 : decode cX8_carried 26 = .ok (.ifCond .eq 9, 3) := by decide +kernel
theorem dX8_carried_29 : decode cX8_carried 29 = .ok (.iconst 0, 1) := by decide +kernel
theorem dX8_carried_30 : decode cX8_carried 30 = .ok (.istore 6, 2) := by decide +kernel
theorem dX8_carried_32 : decode cX8_carried 32 = .ok (.goto 77, 3) := by decide +kernel
theorem dX8_carried_35 : decode cX8_carried 35 = .ok (.aload_n 0, 1) := by decide +kernel
theorem dX8_carried_36 : decode cX8_carried 36 = .ok (.aload_n 0, 1) := by decide +kernel
theorem dX8_carried_37 : decode cX8_carried 37 = .ok (.getfield 35, 3) := by decide +kernel
theorem dX8_carried_40 : decode cX8_carried 40 = .ok (.bipush 6, 2) := by decide +kernel
theorem dX8_carried_42 : decode cX8_carried 42 = .ok (.iload_n 2, 1) := by decide +kernel
theorem dX8_carried_43 : decode cX8_carried 43 = .ok (.iload 7, 2) := by decide +kernel
theorem dX8_carried_45 : decode cX8_carried 45 = .ok (.iadd, 1) := by decide +kernel
theorem dX8_carried_46 : decode cX8_carried 46 = .ok (.imul, 1) := by decide +kernel
theorem dX8_carried_47 : decode cX8_carried 47 = .ok (.aload_n 0, 1) := by decide +kernel
theorem dX8_carried_48 : decode cX8_carried 48 = .ok (.getfield 38, 3) := by decide +kernel
theorem dX8_carried_51 : decode cX8_carried 51 = .ok (.iload_n 2, 1) := by decide +kernel
theorem dX8_carried_52 : decode cX8_carried 52 = .ok (.iload 7, 2) := by decide +kernel
theorem dX8_carried_54 : decode cX8_carried 54 = .ok (.iadd, 1) := by decide +kernel
theorem dX8_carried_55 : decode cX8_carried 55 = .ok (.laload, 1) := by decide +kernel
theorem dX8_carried_56 : decode cX8_carried 56 = .ok (.invokevirtual 180, 3) := by decide +kernel
theorem dX8_carried_59 : decode cX8_carried 59 = .ok (.istore 8, 2) := by decide +kernel
theorem dX8_carried_61 : decode cX8_carried 61 = .ok (.aload_n 0, 1) := by decide +kernel
theorem dX8_carried_62 : decode cX8_carried 62 = .ok (.getfield 71, 3) := by decide +kernel
theorem dX8_carried_65 : decode cX8_carried 65 = .ok (.ifCond .le 8, 3) := by decide +kernel
theorem dX8_carried_68 : decode cX8_carried 68 = .ok (.iload 7, 2) := by decide +kernel
theorem dX8_carried_70 : decode cX8_carried 70 = .ok (.iconst 1, 1) := by decide +kernel
theorem dX8_carried_71 : decode cX8_carried 71 = .ok (.iadd, 1) := by decide +kernel
theorem dX8_carried_72 : decode cX8_carried 72 = .ok (.ireturn, 1) := by decide +kernel
theorem dX8_carried_73 : decode cX8_carried 73 = .ok (.aload_n 0, 1) := by decide +kernel
theorem dX8_carried_74 : decode cX8_carried 74 = .ok (.getfield 35, 3) := by decide +kernel
theorem dX8_carried_77 : decode cX8_carried 77 = .ok (.bipush 6, 2) := by decide +kernel
theorem dX8_carried_79 : decode cX8_carried 79 = .ok (.iload_n 2, 1) := by decide +kernel
theorem dX8_carried_80 : decode cX8_carried 80 = .ok (.iload 7, 2) := by decide +kernel
theorem dX8_carried_82 : decode cX8_carried 82 = .ok (.iadd, 1) := by decide +kernel
theorem dX8_carried_83 : decode cX8_carried 83 = .ok (.imul, 1) := by decide +kernel
theorem dX8_carried_84 : decode cX8_carried 84 = .ok (.iaload, 1) := by decide +kernel
theorem dX8_carried_85 : decode cX8_carried 85 = .ok (.bipush 12, 2) := by decide +kernel
theorem dX8_carried_87 : decode cX8_carried 87 = .ok (.if_icmp .ne 12, 3) := by decide +kernel
theorem dX8_carried_90 : decode cX8_carried 90 = .ok (.iload 8, 2) := by decide +kernel
theorem dX8_carried_92 : decode cX8_carried 92 = .ok (.ifCond .ne 7, 3) := by decide +kernel
theorem dX8_carried_95 : decode cX8_carried 95 = .ok (.iconst 1, 1) := by decide +kernel
theorem dX8_carried_96 : decode cX8_carried 96 = .ok (.goto 4, 3) := by decide +kernel
theorem dX8_carried_99 : decode cX8_carried 99 = .ok (.iconst 0, 1) := by decide +kernel
theorem dX8_carried_100 : decode cX8_carried 100 = .ok (.istore 6, 2) := by decide +kernel
theorem dX8_carried_102 : decode cX8_carried 102 = .ok (.iload 4, 2) := by decide +kernel
theorem dX8_carried_104 : decode cX8_carried 104 = .ok (.iload 8, 2) := by decide +kernel
theorem dX8_carried_106 : decode cX8_carried 106 = .ok (.iadd, 1) := by decide +kernel
theorem dX8_carried_107 : decode cX8_carried 107 = .ok (.istore 4, 2) := by decide +kernel
theorem dX8_carried_109 : decode cX8_carried 109 = .ok (.iinc 7 1, 3) := by decide +kernel
theorem dX8_carried_112 : decode cX8_carried 112 = .ok (.goto (-94), 3) := by decide +kernel
theorem dX8_carried_115 : decode cX8_carried 115 = .ok (.iinc 5 1, 3) := by decide +kernel
theorem dX8_carried_118 : decode cX8_carried 118 = .ok (.goto (-112), 3) := by decide +kernel
theorem dX8_carried_121 : decode cX8_carried 121 = .ok (.iload 4, 2) := by decide +kernel
theorem dX8_carried_123 : decode cX8_carried 123 = .ok (.ireturn, 1) := by decide +kernel
theorem dX8_copyInts_0 : decode cX8_copyInts 0 = .ok (.iconst 0, 1) := by decide +kernel
theorem dX8_copyInts_1 : decode cX8_copyInts 1 = .ok (.istore 5, 2) := by decide +kernel
theorem dX8_copyInts_3 : decode cX8_copyInts 3 = .ok (.iload 5, 2) := by decide +kernel
theorem dX8_copyInts_5 : decode cX8_copyInts 5 = .ok (.iload 4, 2) := by decide +kernel
theorem dX8_copyInts_7 : decode cX8_copyInts 7 = .ok (.if_icmp .ge 21, 3) := by decide +kernel
theorem dX8_copyInts_10 : decode cX8_copyInts 10 = .ok (.aload_n 2, 1) := by decide +kernel
theorem dX8_copyInts_11 : decode cX8_copyInts 11 = .ok (.iload_n 3, 1) := by decide +kernel
theorem dX8_copyInts_12 : decode cX8_copyInts 12 = .ok (.iload 5, 2) := by decide +kernel
theorem dX8_copyInts_14 : decode cX8_copyInts 14 = .ok (.iadd, 1) := by decide +kernel
theorem dX8_copyInts_15 : decode cX8_copyInts 15 = .ok (.aload_n 0, 1) := by decide +kernel
theorem dX8_copyInts_16 : decode cX8_copyInts 16 = .ok (.iload_n 1, 1) := by decide +kernel
theorem dX8_copyInts_17 : decode cX8_copyInts 17 = .ok (.iload 5, 2) := by decide +kernel
theorem dX8_copyInts_19 : decode cX8_copyInts 19 = .ok (.iadd, 1) := by decide +kernel
theorem dX8_copyInts_20 : decode cX8_copyInts 20 = .ok (.iaload, 1) := by decide +kernel
theorem dX8_copyInts_21 : decode cX8_copyInts 21 = .ok (.iastore, 1) := by decide +kernel
theorem dX8_copyInts_22 : decode cX8_copyInts 22 = .ok (.iinc 5 1, 3) := by decide +kernel
theorem dX8_copyInts_25 : decode cX8_copyInts 25 = .ok (.goto (-22), 3) := by decide +kernel
theorem dX8_copyInts_28 : decode cX8_copyInts 28 = .ok (.return_, 1) := by decide +kernel
theorem dX8_keepAct_0 : decode cX8_keepAct 0 = .ok (.aload_n 0, 1) := by decide +kernel
theorem dX8_keepAct_1 : decode cX8_keepAct 1 = .ok (.getfield 44, 3) := by decide +kernel
theorem dX8_keepAct_4 : decode cX8_keepAct 4 = .ok (.iconst 0, 1) := by decide +kernel
theorem dX8_keepAct_5 : decode cX8_keepAct 5 = .ok (.aload_n 0, 1) := by decide +kernel
theorem dX8_keepAct_6 : decode cX8_keepAct 6 = .ok (.getfield 29, 3) := by decide +kernel
theorem dX8_keepAct_9 : decode cX8_keepAct 9 = .ok (.bipush 6, 2) := by decide +kernel
theorem dX8_keepAct_11 : decode cX8_keepAct 11 = .ok (.aload_n 0, 1) := by decide +kernel
theorem dX8_keepAct_12 : decode cX8_keepAct 12 = .ok (.getfield 184, 3) := by decide +kernel
theorem dX8_keepAct_15 : decode cX8_keepAct 15 = .ok (.imul, 1) := by decide +kernel
theorem dX8_keepAct_16 : decode cX8_keepAct 16 = .ok (.bipush 6, 2) := by decide +kernel
theorem dX8_keepAct_18 : decode cX8_keepAct 18 = .ok (.invokestatic 187, 3) := by decide +kernel
theorem dX8_keepAct_21 : decode cX8_keepAct 21 = .ok (.aload_n 0, 1) := by decide +kernel
theorem dX8_keepAct_22 : decode cX8_keepAct 22 = .ok (.getfield 32, 3) := by decide +kernel
theorem dX8_keepAct_25 : decode cX8_keepAct 25 = .ok (.aload_n 0, 1) := by decide +kernel
theorem dX8_keepAct_26 : decode cX8_keepAct 26 = .ok (.getfield 184, 3) := by decide +kernel
theorem dX8_keepAct_29 : decode cX8_keepAct 29 = .ok (.lload_n 1, 1) := by decide +kernel
theorem dX8_keepAct_30 : decode cX8_keepAct 30 = .ok (.lastore, 1) := by decide +kernel
theorem dX8_keepAct_31 : decode cX8_keepAct 31 = .ok (.aload_n 0, 1) := by decide +kernel
theorem dX8_keepAct_32 : decode cX8_keepAct 32 = .ok (.dup, 1) := by decide +kernel
theorem dX8_keepAct_33 : decode cX8_keepAct 33 = .ok (.getfield 184, 3) := by decide +kernel
theorem dX8_keepAct_36 : decode cX8_keepAct 36 = .ok (.iconst 1, 1) := by decide +kernel
theorem dX8_keepAct_37 : decode cX8_keepAct 37 = .ok (.iadd, 1) := by decide +kernel
theorem dX8_keepAct_38 : decode cX8_keepAct 38 = .ok (.putfield 184, 3) := by decide +kernel
theorem dX8_keepAct_41 : decode cX8_keepAct 41 = .ok (.return_, 1) := by decide +kernel
theorem dX8_called_0 : decode cX8_called 0 = .ok (.aload_n 0, 1) := by decide +kernel
theorem dX8_called_1 : decode cX8_called 1 = .ok (.getfield 44, 3) := by decide +kernel
theorem dX8_called_4 : decode cX8_called 4 = .ok (.iconst 0, 1) := by decide +kernel
theorem dX8_called_5 : decode cX8_called 5 = .ok (.iload_n 1, 1) := by decide +kernel
theorem dX8_called_6 : decode cX8_called 6 = .ok (.iastore, 1) := by decide +kernel
theorem dX8_called_7 : decode cX8_called 7 = .ok (.aload_n 0, 1) := by decide +kernel
theorem dX8_called_8 : decode cX8_called 8 = .ok (.getfield 44, 3) := by decide +kernel
theorem dX8_called_11 : decode cX8_called 11 = .ok (.iconst 1, 1) := by decide +kernel
theorem dX8_called_12 : decode cX8_called 12 = .ok (.iload_n 2, 1) := by decide +kernel
theorem dX8_called_13 : decode cX8_called 13 = .ok (.iastore, 1) := by decide +kernel
theorem dX8_called_14 : decode cX8_called 14 = .ok (.aload_n 0, 1) := by decide +kernel
theorem dX8_called_15 : decode cX8_called 15 = .ok (.getfield 44, 3) := by decide +kernel
theorem dX8_called_18 : decode cX8_called 18 = .ok (.iconst 2, 1) := by decide +kernel
theorem dX8_called_19 : decode cX8_called 19 = .ok (.iload_n 3, 1) := by decide +kernel
theorem dX8_called_20 : decode cX8_called 20 = .ok (.iastore, 1) := by decide +kernel
theorem dX8_called_21 : decode cX8_called 21 = .ok (.aload_n 0, 1) := by decide +kernel
theorem dX8_called_22 : decode cX8_called 22 = .ok (.getfield 44, 3) := by decide +kernel
theorem dX8_called_25 : decode cX8_called 25 = .ok (.iconst 3, 1) := by decide +kernel
theorem dX8_called_26 : decode cX8_called 26 = .ok (.iload 4, 2) := by decide +kernel
theorem dX8_called_28 : decode cX8_called 28 = .ok (.iastore, 1) := by decide +kernel
theorem dX8_called_29 : decode cX8_called 29 = .ok (.aload_n 0, 1) := by decide +kernel
theorem dX8_called_30 : decode cX8_called 30 = .ok (.getfield 44, 3) := by decide +kernel
theorem dX8_called_33 : decode cX8_called 33 = .ok (.iconst 4, 1) := by decide +kernel
theorem dX8_called_34 : decode cX8_called 34 = .ok (.iload 5, 2) := by decide +kernel
theorem dX8_called_36 : decode cX8_called 36 = .ok (.iastore, 1) := by decide +kernel
theorem dX8_called_37 : decode cX8_called 37 = .ok (.aload_n 0, 1) := by decide +kernel
theorem dX8_called_38 : decode cX8_called 38 = .ok (.getfield 44, 3) := by decide +kernel
theorem dX8_called_41 : decode cX8_called 41 = .ok (.iconst 5, 1) := by decide +kernel
theorem dX8_called_42 : decode cX8_called 42 = .ok (.iload 6, 2) := by decide +kernel
theorem dX8_called_44 : decode cX8_called 44 = .ok (.iastore, 1) := by decide +kernel
theorem dX8_called_45 : decode cX8_called 45 = .ok (.aload_n 0, 1) := by decide +kernel
theorem dX8_called_46 : decode cX8_called 46 = .ok (.getfield 191, 3) := by decide +kernel
theorem dX8_called_49 : decode cX8_called 49 = .ok (.ifCond .eq 10, 3) := by decide +kernel
theorem dX8_called_52 : decode cX8_called 52 = .ok (.aload_n 0, 1) := by decide +kernel
theorem dX8_called_53 : decode cX8_called 53 = .ok (.lload 7, 2) := by decide +kernel
theorem dX8_called_55 : decode cX8_called 55 = .ok (.invokevirtual 195, 3) := by decide +kernel
theorem dX8_called_58 : decode cX8_called 58 = .ok (.ireturn, 1) := by decide +kernel
theorem dX8_called_59 : decode cX8_called 59 = .ok (.aload_n 0, 1) := by decide +kernel
theorem dX8_called_60 : decode cX8_called 60 = .ok (.aload_n 0, 1) := by decide +kernel
theorem dX8_called_61 : decode cX8_called 61 = .ok (.getfield 44, 3) := by decide +kernel
theorem dX8_called_64 : decode cX8_called 64 = .ok (.iconst 0, 1) := by decide +kernel
theorem dX8_called_65 : decode cX8_called 65 = .ok (.lload 7, 2) := by decide +kernel
theorem dX8_called_67 : decode cX8_called 67 = .ok (.invokevirtual 180, 3) := by decide +kernel
theorem dX8_called_70 : decode cX8_called 70 = .ok (.istore 9, 2) := by decide +kernel
theorem dX8_called_72 : decode cX8_called 72 = .ok (.aload_n 0, 1) := by decide +kernel
theorem dX8_called_73 : decode cX8_called 73 = .ok (.getfield 71, 3) := by decide +kernel
theorem dX8_called_76 : decode cX8_called 76 = .ok (.ifCond .eq 16, 3) := by decide +kernel
theorem dX8_called_79 : decode cX8_called 79 = .ok (.aload_n 0, 1) := by decide +kernel
theorem dX8_called_80 : decode cX8_called 80 = .ok (.getfield 71, 3) := by decide +kernel
theorem dX8_called_83 : decode cX8_called 83 = .ok (.iconst 5, 1) := by decide +kernel
theorem dX8_called_84 : decode cX8_called 84 = .ok (.if_icmp .ne 14, 3) := by decide +kernel
theorem dX8_called_87 : decode cX8_called 87 = .ok (.iload_n 1, 1) := by decide +kernel
theorem dX8_called_88 : decode cX8_called 88 = .ok (.iconst 5, 1) := by decide +kernel
theorem dX8_called_89 : decode cX8_called 89 = .ok (.if_icmp .ne 9, 3) := by decide +kernel
theorem dX8_called_92 : decode cX8_called 92 = .ok (.aload_n 0, 1) := by decide +kernel
theorem dX8_called_93 : decode cX8_called 93 = .ok (.lload 7, 2) := by decide +kernel
theorem dX8_called_95 : decode cX8_called 95 = .ok (.invokevirtual 199, 3) := by decide +kernel
theorem dX8_called_98 : decode cX8_called 98 = .ok (.iload 9, 2) := by decide +kernel
theorem dX8_called_100 : decode cX8_called 100 = .ok (.ireturn, 1) := by decide +kernel
theorem dX8_lineMore_0 : decode cX8_lineMore 0 = .ok (.aload_n 0, 1) := by decide +kernel
theorem dX8_lineMore_1 : decode cX8_lineMore 1 = .ok (.getfield 203, 3) := by decide +kernel
theorem dX8_lineMore_4 : decode cX8_lineMore 4 = .ok (.bipush 16, 2) := by decide +kernel
theorem dX8_lineMore_6 : decode cX8_lineMore 6 = .ok (.if_icmp .ne 10, 3) := by decide +kernel
theorem dX8_lineMore_9 : decode cX8_lineMore 9 = .ok (.aload_n 0, 1) := by decide +kernel
theorem dX8_lineMore_10 : decode cX8_lineMore 10 = .ok (.bipush 6, 2) := by decide +kernel
theorem dX8_lineMore_12 : decode cX8_lineMore 12 = .ok (.invokevirtual 101, 3) := by decide +kernel
theorem dX8_lineMore_15 : decode cX8_lineMore 15 = .ok (.ireturn, 1) := by decide +kernel
theorem dX8_lineMore_16 : decode cX8_lineMore 16 = .ok (.aload_n 0, 1) := by decide +kernel
theorem dX8_lineMore_17 : decode cX8_lineMore 17 = .ok (.getfield 44, 3) := by decide +kernel
theorem dX8_lineMore_20 : decode cX8_lineMore 20 = .ok (.iconst 0, 1) := by decide +kernel
theorem dX8_lineMore_21 : decode cX8_lineMore 21 = .ok (.aload_n 0, 1) := by decide +kernel
theorem dX8_lineMore_22 : decode cX8_lineMore 22 = .ok (.getfield 35, 3) := by decide +kernel
theorem dX8_lineMore_25 : decode cX8_lineMore 25 = .ok (.bipush 6, 2) := by decide +kernel
theorem dX8_lineMore_27 : decode cX8_lineMore 27 = .ok (.aload_n 0, 1) := by decide +kernel
theorem dX8_lineMore_28 : decode cX8_lineMore 28 = .ok (.getfield 206, 3) := by decide +kernel
theorem dX8_lineMore_31 : decode cX8_lineMore 31 = .ok (.imul, 1) := by decide +kernel
theorem dX8_lineMore_32 : decode cX8_lineMore 32 = .ok (.bipush 6, 2) := by decide +kernel
theorem dX8_lineMore_34 : decode cX8_lineMore 34 = .ok (.invokestatic 187, 3) := by decide +kernel
theorem dX8_lineMore_37 : decode cX8_lineMore 37 = .ok (.aload_n 0, 1) := by decide +kernel
theorem dX8_lineMore_38 : decode cX8_lineMore 38 = .ok (.getfield 38, 3) := by decide +kernel
theorem dX8_lineMore_41 : decode cX8_lineMore 41 = .ok (.aload_n 0, 1) := by decide +kernel
theorem dX8_lineMore_42 : decode cX8_lineMore 42 = .ok (.getfield 206, 3) := by decide +kernel
theorem dX8_lineMore_45 : decode cX8_lineMore 45 = .ok (.lload_n 1, 1) := by decide +kernel
theorem dX8_lineMore_46 : decode cX8_lineMore 46 = .ok (.lastore, 1) := by decide +kernel
theorem dX8_lineMore_47 : decode cX8_lineMore 47 = .ok (.aload_n 0, 1) := by decide +kernel
theorem dX8_lineMore_48 : decode cX8_lineMore 48 = .ok (.dup, 1) := by decide +kernel
theorem dX8_lineMore_49 : decode cX8_lineMore 49 = .ok (.getfield 206, 3) := by decide +kernel
theorem dX8_lineMore_52 : decode cX8_lineMore 52 = .ok (.iconst 1, 1) := by decide +kernel
theorem dX8_lineMore_53 : decode cX8_lineMore 53 = .ok (.iadd, 1) := by decide +kernel
theorem dX8_lineMore_54 : decode cX8_lineMore 54 = .ok (.putfield 206, 3) := by decide +kernel
theorem dX8_lineMore_57 : decode cX8_lineMore 57 = .ok (.aload_n 0, 1) := by decide +kernel
theorem dX8_lineMore_58 : decode cX8_lineMore 58 = .ok (.dup, 1) := by decide +kernel
theorem dX8_lineMore_59 : decode cX8_lineMore 59 = .ok (.getfield 203, 3) := by decide +kernel
theorem dX8_lineMore_62 : decode cX8_lineMore 62 = .ok (.iconst 1, 1) := by decide +kernel
theorem dX8_lineMore_63 : decode cX8_lineMore 63 = .ok (.iadd, 1) := by decide +kernel
theorem dX8_lineMore_64 : decode cX8_lineMore 64 = .ok (.putfield 203, 3) := by decide +kernel
theorem dX8_lineMore_67 : decode cX8_lineMore 67 = .ok (.aload_n 0, 1) := by decide +kernel
theorem dX8_lineMore_68 : decode cX8_lineMore 68 = .ok (.iconst 0, 1) := by decide +kernel
theorem dX8_lineMore_69 : decode cX8_lineMore 69 = .ok (.putfield 71, 3) := by decide +kernel
theorem dX8_lineMore_72 : decode cX8_lineMore 72 = .ok (.aload_n 0, 1) := by decide +kernel
theorem dX8_lineMore_73 : decode cX8_lineMore 73 = .ok (.getfield 203, 3) := by decide +kernel
theorem dX8_lineMore_76 : decode cX8_lineMore 76 = .ok (.ireturn, 1) := by decide +kernel
theorem dX8_make_0 : decode cX8_make 0 = .ok (.aload_n 0, 1) := by decide +kernel
theorem dX8_make_1 : decode cX8_make 1 = .ok (.iconst 1, 1) := by decide +kernel
theorem dX8_make_2 : decode cX8_make 2 = .ok (.iload_n 1, 1) := by decide +kernel
theorem dX8_make_3 : decode cX8_make 3 = .ok (.iload_n 2, 1) := by decide +kernel
theorem dX8_make_4 : decode cX8_make 4 = .ok (.iload_n 3, 1) := by decide +kernel
theorem dX8_make_5 : decode cX8_make 5 = .ok (.iconst 0, 1) := by decide +kernel
theorem dX8_make_6 : decode cX8_make 6 = .ok (.iconst 0, 1) := by decide +kernel
theorem dX8_make_7 : decode cX8_make 7 = .ok (.lconst 0, 1) := by decide +kernel
theorem dX8_make_8 : decode cX8_make 8 = .ok (.invokevirtual 209, 3) := by decide +kernel
theorem dX8_make_11 : decode cX8_make 11 = .ok (.ireturn, 1) := by decide +kernel
theorem dX8_lay_0 : decode cX8_lay 0 = .ok (.aload_n 0, 1) := by decide +kernel
theorem dX8_lay_1 : decode cX8_lay 1 = .ok (.iconst 2, 1) := by decide +kernel
theorem dX8_lay_2 : decode cX8_lay 2 = .ok (.iload_n 1, 1) := by decide +kernel
theorem dX8_lay_3 : decode cX8_lay 3 = .ok (.iload_n 2, 1) := by decide +kernel
theorem dX8_lay_4 : decode cX8_lay 4 = .ok (.iconst 0, 1) := by decide +kernel
theorem dX8_lay_5 : decode cX8_lay 5 = .ok (.iconst 0, 1) := by decide +kernel
theorem dX8_lay_6 : decode cX8_lay 6 = .ok (.iconst 0, 1) := by decide +kernel
theorem dX8_lay_7 : decode cX8_lay 7 = .ok (.lconst 0, 1) := by decide +kernel
theorem dX8_lay_8 : decode cX8_lay 8 = .ok (.invokevirtual 209, 3) := by decide +kernel
theorem dX8_lay_11 : decode cX8_lay 11 = .ok (.ireturn, 1) := by decide +kernel
theorem dX8_plug_0 : decode cX8_plug 0 = .ok (.aload_n 0, 1) := by decide +kernel
theorem dX8_plug_1 : decode cX8_plug 1 = .ok (.iconst 3, 1) := by decide +kernel
theorem dX8_plug_2 : decode cX8_plug 2 = .ok (.iload_n 1, 1) := by decide +kernel
theorem dX8_plug_3 : decode cX8_plug 3 = .ok (.iload_n 2, 1) := by decide +kernel
theorem dX8_plug_4 : decode cX8_plug 4 = .ok (.iload_n 3, 1) := by decide +kernel
theorem dX8_plug_5 : decode cX8_plug 5 = .ok (.iconst 0, 1) := by decide +kernel
theorem dX8_plug_6 : decode cX8_plug 6 = .ok (.iconst 0, 1) := by decide +kernel
theorem dX8_plug_7 : decode cX8_plug 7 = .ok (.lconst 0, 1) := by decide +kernel
theorem dX8_plug_8 : decode cX8_plug 8 = .ok (.invokevirtual 209, 3) := by decide +kernel
theorem dX8_plug_11 : decode cX8_plug 11 = .ok (.ireturn, 1) := by decide +kernel
theorem dX8_pull_0 : decode cX8_pull 0 = .ok (.aload_n 0, 1) := by decide +kernel
theorem dX8_pull_1 : decode cX8_pull 1 = .ok (.iconst 4, 1) := by decide +kernel
theorem dX8_pull_2 : decode cX8_pull 2 = .ok (.iload_n 1, 1) := by decide +kernel
theorem dX8_pull_3 : decode cX8_pull 3 = .ok (.iload_n 2, 1) := by decide +kernel
theorem dX8_pull_4 : decode cX8_pull 4 = .ok (.iload_n 3, 1) := by decide +kernel
theorem dX8_pull_5 : decode cX8_pull 5 = .ok (.iconst 0, 1) := by decide +kernel
theorem dX8_pull_6 : decode cX8_pull 6 = .ok (.iconst 0, 1) := by decide +kernel
theorem dX8_pull_7 : decode cX8_pull 7 = .ok (.lconst 0, 1) := by decide +kernel
theorem dX8_pull_8 : decode cX8_pull 8 = .ok (.invokevirtual 209, 3) := by decide +kernel
theorem dX8_pull_11 : decode cX8_pull 11 = .ok (.ireturn, 1) := by decide +kernel
theorem dX8_copy_0 : decode cX8_copy 0 = .ok (.aload_n 0, 1) := by decide +kernel
theorem dX8_copy_1 : decode cX8_copy 1 = .ok (.iconst 5, 1) := by decide +kernel
theorem dX8_copy_2 : decode cX8_copy 2 = .ok (.iload_n 1, 1) := by decide +kernel
theorem dX8_copy_3 : decode cX8_copy 3 = .ok (.iload_n 2, 1) := by decide +kernel
theorem dX8_copy_4 : decode cX8_copy 4 = .ok (.iload_n 3, 1) := by decide +kernel
theorem dX8_copy_5 : decode cX8_copy 5 = .ok (.iload 4, 2) := by decide +kernel
theorem dX8_copy_7 : decode cX8_copy 7 = .ok (.iload 5, 2) := by decide +kernel
theorem dX8_copy_9 : decode cX8_copy 9 = .ok (.lconst 0, 1) := by decide +kernel
theorem dX8_copy_10 : decode cX8_copy 10 = .ok (.invokevirtual 209, 3) := by decide +kernel
theorem dX8_copy_13 : decode cX8_copy 13 = .ok (.ireturn, 1) := by decide +kernel
theorem dX8_write_0 : decode cX8_write 0 = .ok (.aload_n 0, 1) := by decide +kernel
theorem dX8_write_1 : decode cX8_write 1 = .ok (.bipush 6, 2) := by decide +kernel
theorem dX8_write_3 : decode cX8_write 3 = .ok (.iload_n 1, 1) := by decide +kernel
theorem dX8_write_4 : decode cX8_write 4 = .ok (.iload_n 2, 1) := by decide +kernel
theorem dX8_write_5 : decode cX8_write 5 = .ok (.iconst 0, 1) := by decide +kernel
theorem dX8_write_6 : decode cX8_write 6 = .ok (.iconst 0, 1) := by decide +kernel
theorem dX8_write_7 : decode cX8_write 7 = .ok (.iconst 0, 1) := by decide +kernel
theorem dX8_write_8 : decode cX8_write 8 = .ok (.lload_n 3, 1) := by decide +kernel
theorem dX8_write_9 : decode cX8_write 9 = .ok (.invokevirtual 209, 3) := by decide +kernel
theorem dX8_write_12 : decode cX8_write 12 = .ok (.ireturn, 1) := by decide +kernel
theorem dX8_knob_0 : decode cX8_knob 0 = .ok (.aload_n 0, 1) := by decide +kernel
theorem dX8_knob_1 : decode cX8_knob 1 = .ok (.bipush 7, 2) := by decide +kernel
theorem dX8_knob_3 : decode cX8_knob 3 = .ok (.iload_n 1, 1) := by decide +kernel
theorem dX8_knob_4 : decode cX8_knob 4 = .ok (.iload_n 2, 1) := by decide +kernel
theorem dX8_knob_5 : decode cX8_knob 5 = .ok (.iconst 0, 1) := by decide +kernel
theorem dX8_knob_6 : decode cX8_knob 6 = .ok (.iconst 0, 1) := by decide +kernel
theorem dX8_knob_7 : decode cX8_knob 7 = .ok (.iconst 0, 1) := by decide +kernel
theorem dX8_knob_8 : decode cX8_knob 8 = .ok (.lconst 0, 1) := by decide +kernel
theorem dX8_knob_9 : decode cX8_knob 9 = .ok (.invokevirtual 209, 3) := by decide +kernel
theorem dX8_knob_12 : decode cX8_knob 12 = .ok (.ireturn, 1) := by decide +kernel
theorem dX8_play_0 : decode cX8_play 0 = .ok (.aload_n 0, 1) := by decide +kernel
theorem dX8_play_1 : decode cX8_play 1 = .ok (.bipush 8, 2) := by decide +kernel
theorem dX8_play_3 : decode cX8_play 3 = .ok (.iload_n 1, 1) := by decide +kernel
theorem dX8_play_4 : decode cX8_play 4 = .ok (.iload_n 2, 1) := by decide +kernel
theorem dX8_play_5 : decode cX8_play 5 = .ok (.iconst 0, 1) := by decide +kernel
theorem dX8_play_6 : decode cX8_play 6 = .ok (.iconst 0, 1) := by decide +kernel
theorem dX8_play_7 : decode cX8_play 7 = .ok (.iconst 0, 1) := by decide +kernel
theorem dX8_play_8 : decode cX8_play 8 = .ok (.lconst 0, 1) := by decide +kernel
theorem dX8_play_9 : decode cX8_play 9 = .ok (.invokevirtual 209, 3) := by decide +kernel
theorem dX8_play_12 : decode cX8_play 12 = .ok (.ireturn, 1) := by decide +kernel
theorem dX8_run_0 : decode cX8_run 0 = .ok (.aload_n 0, 1) := by decide +kernel
theorem dX8_run_1 : decode cX8_run 1 = .ok (.bipush 9, 2) := by decide +kernel
theorem dX8_run_3 : decode cX8_run 3 = .ok (.iload_n 1, 1) := by decide +kernel
theorem dX8_run_4 : decode cX8_run 4 = .ok (.iload_n 2, 1) := by decide +kernel
theorem dX8_run_5 : decode cX8_run 5 = .ok (.iconst 0, 1) := by decide +kernel
theorem dX8_run_6 : decode cX8_run 6 = .ok (.iconst 0, 1) := by decide +kernel
theorem dX8_run_7 : decode cX8_run 7 = .ok (.iconst 0, 1) := by decide +kernel
theorem dX8_run_8 : decode cX8_run 8 = .ok (.lconst 0, 1) := by decide +kernel
theorem dX8_run_9 : decode cX8_run 9 = .ok (.invokevirtual 209, 3) := by decide +kernel
theorem dX8_run_12 : decode cX8_run 12 = .ok (.ireturn, 1) := by decide +kernel
theorem dX8_ticks_0 : decode cX8_ticks 0 = .ok (.aload_n 0, 1) := by decide +kernel
theorem dX8_ticks_1 : decode cX8_ticks 1 = .ok (.bipush 10, 2) := by decide +kernel
theorem dX8_ticks_3 : decode cX8_ticks 3 = .ok (.iload_n 1, 1) := by decide +kernel
theorem dX8_ticks_4 : decode cX8_ticks 4 = .ok (.iload_n 2, 1) := by decide +kernel
theorem dX8_ticks_5 : decode cX8_ticks 5 = .ok (.iconst 0, 1) := by decide +kernel
theorem dX8_ticks_6 : decode cX8_ticks 6 = .ok (.iconst 0, 1) := by decide +kernel
theorem dX8_ticks_7 : decode cX8_ticks 7 = .ok (.iconst 0, 1) := by decide +kernel
theorem dX8_ticks_8 : decode cX8_ticks 8 = .ok (.lconst 0, 1) := by decide +kernel
theorem dX8_ticks_9 : decode cX8_ticks 9 = .ok (.invokevirtual 209, 3) := by decide +kernel
theorem dX8_ticks_12 : decode cX8_ticks 12 = .ok (.ireturn, 1) := by decide +kernel
theorem dX8_rest_0 : decode cX8_rest 0 = .ok (.aload_n 0, 1) := by decide +kernel
theorem dX8_rest_1 : decode cX8_rest 1 = .ok (.bipush 11, 2) := by decide +kernel
theorem dX8_rest_3 : decode cX8_rest 3 = .ok (.iload_n 1, 1) := by decide +kernel
theorem dX8_rest_4 : decode cX8_rest 4 = .ok (.iconst 0, 1) := by decide +kernel
theorem dX8_rest_5 : decode cX8_rest 5 = .ok (.iconst 0, 1) := by decide +kernel
theorem dX8_rest_6 : decode cX8_rest 6 = .ok (.iconst 0, 1) := by decide +kernel
theorem dX8_rest_7 : decode cX8_rest 7 = .ok (.iconst 0, 1) := by decide +kernel
theorem dX8_rest_8 : decode cX8_rest 8 = .ok (.lconst 0, 1) := by decide +kernel
theorem dX8_rest_9 : decode cX8_rest 9 = .ok (.invokevirtual 209, 3) := by decide +kernel
theorem dX8_rest_12 : decode cX8_rest 12 = .ok (.ireturn, 1) := by decide +kernel
theorem dX8_when_0 : decode cX8_when 0 = .ok (.aload_n 0, 1) := by decide +kernel
theorem dX8_when_1 : decode cX8_when 1 = .ok (.getfield 191, 3) := by decide +kernel
theorem dX8_when_4 : decode cX8_when 4 = .ok (.ifCond .ne 10, 3) := by decide +kernel
theorem dX8_when_7 : decode cX8_when 7 = .ok (.aload_n 0, 1) := by decide +kernel
theorem dX8_when_8 : decode cX8_when 8 = .ok (.bipush 7, 2) := by decide +kernel
theorem dX8_when_10 : decode cX8_when 10 = .ok (.invokevirtual 101, 3) := by decide +kernel
theorem dX8_when_13 : decode cX8_when 13 = .ok (.ireturn, 1) := by decide +kernel
theorem dX8_when_14 : decode cX8_when 14 = .ok (.aload_n 0, 1) := by decide +kernel
theorem dX8_when_15 : decode cX8_when 15 = .ok (.bipush 12, 2) := by decide +kernel
theorem dX8_when_17 : decode cX8_when 17 = .ok (.iload_n 1, 1) := by decide +kernel
theorem dX8_when_18 : decode cX8_when 18 = .ok (.iload_n 2, 1) := by decide +kernel
theorem dX8_when_19 : decode cX8_when 19 = .ok (.iconst 0, 1) := by decide +kernel
theorem dX8_when_20 : decode cX8_when 20 = .ok (.iconst 0, 1) := by decide +kernel
theorem dX8_when_21 : decode cX8_when 21 = .ok (.iconst 0, 1) := by decide +kernel
theorem dX8_when_22 : decode cX8_when 22 = .ok (.lconst 0, 1) := by decide +kernel
theorem dX8_when_23 : decode cX8_when 23 = .ok (.invokevirtual 209, 3) := by decide +kernel
theorem dX8_when_26 : decode cX8_when 26 = .ok (.ireturn, 1) := by decide +kernel
theorem dX8_begin_0 : decode cX8_begin 0 = .ok (.aload_n 0, 1) := by decide +kernel
theorem dX8_begin_1 : decode cX8_begin 1 = .ok (.getfield 191, 3) := by decide +kernel
theorem dX8_begin_4 : decode cX8_begin 4 = .ok (.ifCond .eq 10, 3) := by decide +kernel
theorem dX8_begin_7 : decode cX8_begin 7 = .ok (.aload_n 0, 1) := by decide +kernel
theorem dX8_begin_8 : decode cX8_begin 8 = .ok (.bipush 7, 2) := by decide +kernel
theorem dX8_begin_10 : decode cX8_begin 10 = .ok (.invokevirtual 101, 3) := by decide +kernel
theorem dX8_begin_13 : decode cX8_begin 13 = .ok (.ireturn, 1) := by decide +kernel
theorem dX8_begin_14 : decode cX8_begin 14 = .ok (.aload_n 0, 1) := by decide +kernel
theorem dX8_begin_15 : decode cX8_begin 15 = .ok (.iconst 1, 1) := by decide +kernel
theorem dX8_begin_16 : decode cX8_begin 16 = .ok (.putfield 191, 3) := by decide +kernel
theorem dX8_begin_19 : decode cX8_begin 19 = .ok (.aload_n 0, 1) := by decide +kernel
theorem dX8_begin_20 : decode cX8_begin 20 = .ok (.aload_n 0, 1) := by decide +kernel
theorem dX8_begin_21 : decode cX8_begin 21 = .ok (.getfield 206, 3) := by decide +kernel
theorem dX8_begin_24 : decode cX8_begin 24 = .ok (.putfield 213, 3) := by decide +kernel
theorem dX8_begin_27 : decode cX8_begin 27 = .ok (.aload_n 0, 1) := by decide +kernel
theorem dX8_begin_28 : decode cX8_begin 28 = .ok (.iconst 0, 1) := by decide +kernel
theorem dX8_begin_29 : decode cX8_begin 29 = .ok (.putfield 203, 3) := by decide +kernel
theorem dX8_begin_32 : decode cX8_begin 32 = .ok (.aload_n 0, 1) := by decide +kernel
theorem dX8_begin_33 : decode cX8_begin 33 = .ok (.iconst 0, 1) := by decide +kernel
theorem dX8_begin_34 : decode cX8_begin 34 = .ok (.putfield 71, 3) := by decide +kernel
theorem dX8_begin_37 : decode cX8_begin 37 = .ok (.iconst 1, 1) := by decide +kernel
theorem dX8_begin_38 : decode cX8_begin 38 = .ok (.ireturn, 1) := by decide +kernel
theorem dX8_end_0 : decode cX8_end 0 = .ok (.aload_n 0, 1) := by decide +kernel
theorem dX8_end_1 : decode cX8_end 1 = .ok (.getfield 191, 3) := by decide +kernel
theorem dX8_end_4 : decode cX8_end 4 = .ok (.ifCond .ne 10, 3) := by decide +kernel
theorem dX8_end_7 : decode cX8_end 7 = .ok (.aload_n 0, 1) := by decide +kernel
theorem dX8_end_8 : decode cX8_end 8 = .ok (.bipush 7, 2) := by decide +kernel
theorem dX8_end_10 : decode cX8_end 10 = .ok (.invokevirtual 101, 3) := by decide +kernel
theorem dX8_end_13 : decode cX8_end 13 = .ok (.ireturn, 1) := by decide +kernel
theorem dX8_end_14 : decode cX8_end 14 = .ok (.aload_n 0, 1) := by decide +kernel
theorem dX8_end_15 : decode cX8_end 15 = .ok (.iconst 0, 1) := by decide +kernel
theorem dX8_end_16 : decode cX8_end 16 = .ok (.putfield 191, 3) := by decide +kernel
theorem dX8_end_19 : decode cX8_end 19 = .ok (.aload_n 0, 1) := by decide +kernel
theorem dX8_end_20 : decode cX8_end 20 = .ok (.iconst 0, 1) := by decide +kernel
theorem dX8_end_21 : decode cX8_end 21 = .ok (.putfield 71, 3) := by decide +kernel
theorem dX8_end_24 : decode cX8_end 24 = .ok (.aload_n 0, 1) := by decide +kernel
theorem dX8_end_25 : decode cX8_end 25 = .ok (.getfield 203, 3) := by decide +kernel
theorem dX8_end_28 : decode cX8_end 28 = .ok (.ireturn, 1) := by decide +kernel
theorem dX8_keepState_0 : decode cX8_keepState 0 = .ok (.aload_n 0, 1) := by decide +kernel
theorem dX8_keepState_1 : decode cX8_keepState 1 = .ok (.getfield 16, 3) := by decide +kernel
theorem dX8_keepState_4 : decode cX8_keepState 4 = .ok (.iconst 0, 1) := by decide +kernel
theorem dX8_keepState_5 : decode cX8_keepState 5 = .ok (.aload_n 0, 1) := by decide +kernel
theorem dX8_keepState_6 : decode cX8_keepState 6 = .ok (.getfield 23, 3) := by decide +kernel
theorem dX8_keepState_9 : decode cX8_keepState 9 = .ok (.iconst 0, 1) := by decide +kernel
theorem dX8_keepState_10 : decode cX8_keepState 10 = .ok (.sipush 557, 3) := by decide +kernel
theorem dX8_keepState_13 : decode cX8_keepState 13 = .ok (.invokestatic 187, 3) := by decide +kernel
theorem dX8_keepState_16 : decode cX8_keepState 16 = .ok (.iconst 0, 1) := by decide +kernel
theorem dX8_keepState_17 : decode cX8_keepState 17 = .ok (.istore_n 1, 1) := by decide +kernel
theorem dX8_keepState_18 : decode cX8_keepState 18 = .ok (.iload_n 1, 1) := by decide +kernel
theorem dX8_keepState_19 : decode cX8_keepState 19 = .ok (.sipush 720, 3) := by decide +kernel
theorem dX8_keepState_22 : decode cX8_keepState 22 = .ok (.if_icmp .ge 21, 3) := by decide +kernel
theorem dX8_keepState_25 : decode cX8_keepState 25 = .ok (.aload_n 0, 1) := by decide +kernel
theorem dX8_keepState_26 : decode cX8_keepState 26 = .ok (.getfield 26, 3) := by decide +kernel
theorem dX8_keepState_29 : decode cX8_keepState 29 = .ok (.iload_n 1, 1) := by decide +kernel
theorem dX8_keepState_30 : decode cX8_keepState 30 = .ok (.aload_n 0, 1) := by decide +kernel
theorem dX8_keepState_31 : decode cX8_keepState 31 = .ok (.getfield 19, 3) := by decide +kernel
theorem dX8_keepState_34 : decode cX8_keepState 34 = .ok (.iload_n 1, 1) := by decide +kernel
theorem dX8_keepState_35 : decode cX8_keepState 35 = .ok (.laload, 1) := by decide +kernel
theorem dX8_keepState_36 : decode cX8_keepState 36 = .ok (.lastore, 1) := by decide +kernel
theorem dX8_keepState_37 : decode cX8_keepState 37 = .ok (.iinc 1 1, 3) := by decide +kernel
theorem dX8_keepState_40 : decode cX8_keepState 40 = .ok (.goto (-22), 3) := by decide +kernel
theorem dX8_keepState_43 : decode cX8_keepState 43 = .ok (.return_, 1) := by decide +kernel
theorem dX8_putBack_0 : decode cX8_putBack 0 = .ok (.aload_n 0, 1) := by decide +kernel
theorem dX8_putBack_1 : decode cX8_putBack 1 = .ok (.getfield 23, 3) := by decide +kernel
theorem dX8_putBack_4 : decode cX8_putBack 4 = .ok (.iconst 0, 1) := by decide +kernel
theorem dX8_putBack_5 : decode cX8_putBack 5 = .ok (.aload_n 0, 1) := by decide +kernel
theorem dX8_putBack_6 : decode cX8_putBack 6 = .ok (.getfield 16, 3) := by decide +kernel
theorem dX8_putBack_9 : decode cX8_putBack 9 = .ok (.iconst 0, 1) := by decide +kernel
theorem dX8_putBack_10 : decode cX8_putBack 10 = .ok (.sipush 557, 3) := by decide +kernel
theorem dX8_putBack_13 : decode cX8_putBack 13 = .ok (.invokestatic 187, 3) := by decide +kernel
theorem dX8_putBack_16 : decode cX8_putBack 16 = .ok (.iconst 0, 1) := by decide +kernel
theorem dX8_putBack_17 : decode cX8_putBack 17 = .ok (.istore_n 1, 1) := by decide +kernel
theorem dX8_putBack_18 : decode cX8_putBack 18 = .ok (.iload_n 1, 1) := by decide +kernel
theorem dX8_putBack_19 : decode cX8_putBack 19 = .ok (.sipush 720, 3) := by decide +kernel
theorem dX8_putBack_22 : decode cX8_putBack 22 = .ok (.if_icmp .ge 21, 3) := by decide +kernel
theorem dX8_putBack_25 : decode cX8_putBack 25 = .ok (.aload_n 0, 1) := by decide +kernel
theorem dX8_putBack_26 : decode cX8_putBack 26 = .ok (.getfield 19, 3) := by decide +kernel
theorem dX8_putBack_29 : decode cX8_putBack 29 = .ok (.iload_n 1, 1) := by decide +kernel
theorem dX8_putBack_30 : decode cX8_putBack 30 = .ok (.aload_n 0, 1) := by decide +kernel
theorem dX8_putBack_31 : decode cX8_putBack 31 = .ok (.getfield 26, 3) := by decide +kernel
theorem dX8_putBack_34 : decode cX8_putBack 34 = .ok (.iload_n 1, 1) := by decide +kernel
theorem dX8_putBack_35 : decode cX8_putBack 35 = .ok (.laload, 1) := by decide +kernel
theorem dX8_putBack_36 : decode cX8_putBack 36 = .ok (.lastore, 1) := by decide +kernel
theorem dX8_putBack_37 : decode cX8_putBack 37 = .ok (.iinc 1 1, 3) := by decide +kernel
theorem dX8_putBack_40 : decode cX8_putBack 40 = .ok (.goto (-22), 3) := by decide +kernel
theorem dX8_putBack_43 : decode cX8_putBack 43 = .ok (.return_, 1) := by decide +kernel
theorem dX8_carry_0 : decode cX8_carry 0 = .ok (.iload_n 1, 1) := by decide +kernel
theorem dX8_carry_1 : decode cX8_carry 1 = .ok (.iconst 1, 1) := by decide +kernel
theorem dX8_carry_2 : decode cX8_carry 2 = .ok (.if_icmp .lt 8, 3) := by decide +kernel
theorem dX8_carry_5 : decode cX8_carry 5 = .ok (.iload_n 1, 1) := by decide +kernel
theorem dX8_carry_6 : decode cX8_carry 6 = .ok (.iconst 4, 1) := by decide +kernel
theorem dX8_carry_7 : decode cX8_carry 7 = .ok (.if_icmp .le 9, 3) := by decide +kernel
theorem dX8_carry_10 : decode cX8_carry 10 = .ok (.aload_n 0, 1) := by decide +kernel
theorem dX8_carry_11 : decode cX8_carry 11 = .ok (.iconst 1, 1) := by decide +kernel
theorem dX8_carry_12 : decode cX8_carry 12 = .ok (.invokevirtual 101, 3) := by decide +kernel
theorem dX8_carry_15 : decode cX8_carry 15 = .ok (.ireturn, 1) := by decide +kernel
theorem dX8_carry_16 : decode cX8_carry 16 = .ok (.aload_n 0, 1) := by decide +kernel
theorem dX8_carry_17 : decode cX8_carry 17 = .ok (.getfield 191, 3) := by decide +kernel
theorem dX8_carry_20 : decode cX8_carry 20 = .ok (.ifCond .eq 10, 3) := by decide +kernel
theorem dX8_carry_23 : decode cX8_carry 23 = .ok (.aload_n 0, 1) := by decide +kernel
theorem dX8_carry_24 : decode cX8_carry 24 = .ok (.bipush 7, 2) := by decide +kernel
theorem dX8_carry_26 : decode cX8_carry 26 = .ok (.invokevirtual 101, 3) := by decide +kernel
theorem dX8_carry_29 : decode cX8_carry 29 = .ok (.ireturn, 1) := by decide +kernel
theorem dX8_carry_30 : decode cX8_carry 30 = .ok (.aload_n 0, 1) := by decide +kernel
theorem dX8_carry_31 : decode cX8_carry 31 = .ok (.invokevirtual 216, 3) := by decide +kernel
theorem dX8_carry_34 : decode cX8_carry 34 = .ok (.aload_n 0, 1) := by decide +kernel
theorem dX8_carry_35 : decode cX8_carry 35 = .ok (.iconst 0, 1) := by decide +kernel
theorem dX8_carry_36 : decode cX8_carry 36 = .ok (.putfield 71, 3) := by decide +kernel
theorem dX8_carry_39 : decode cX8_carry 39 = .ok (.aload_n 0, 1) := by decide +kernel
theorem dX8_carry_40 : decode cX8_carry 40 = .ok (.iload_n 1, 1) := by decide +kernel
theorem dX8_carry_41 : decode cX8_carry 41 = .ok (.aload_n 0, 1) := by decide +kernel
theorem dX8_carry_42 : decode cX8_carry 42 = .ok (.getfield 213, 3) := by decide +kernel
theorem dX8_carry_45 : decode cX8_carry 45 = .ok (.aload_n 0, 1) := by decide +kernel
theorem dX8_carry_46 : decode cX8_carry 46 = .ok (.getfield 203, 3) := by decide +kernel
theorem dX8_carry_49 : decode cX8_carry 49 = .ok (.invokevirtual 219, 3) := by decide +kernel
theorem dX8_carry_52 : decode cX8_carry 52 = .ok (.istore_n 2, 1) := by decide +kernel
theorem dX8_carry_53 : decode cX8_carry 53 = .ok (.aload_n 0, 1) := by decide +kernel
theorem dX8_carry_54 : decode cX8_carry 54 = .ok (.getfield 71, 3) := by decide +kernel
theorem dX8_carry_57 : decode cX8_carry 57 = .ok (.ifCond .le 9, 3) := by decide +kernel
theorem dX8_carry_60 : decode cX8_carry 60 = .ok (.aload_n 0, 1) := by decide +kernel
theorem dX8_carry_61 : decode cX8_carry 61 = .ok (.invokevirtual 222, 3) := by decide +kernel
theorem dX8_carry_64 : decode cX8_carry 64 = .ok (.iload_n 2, 1) := by decide +kernel
theorem dX8_carry_65 : decode cX8_carry 65 = .ok (.ireturn, 1) := by decide +kernel
theorem dX8_carry_66 : decode cX8_carry 66 = .ok (.aload_n 0, 1) := by decide +kernel
theorem dX8_carry_67 : decode cX8_carry 67 = .ok (.getfield 44, 3) := by decide +kernel
theorem dX8_carry_70 : decode cX8_carry 70 = .ok (.iconst 0, 1) := by decide +kernel
theorem dX8_carry_71 : decode cX8_carry 71 = .ok (.bipush 13, 2) := by decide +kernel
theorem dX8_carry_73 : decode cX8_carry 73 = .ok (.iastore, 1) := by decide +kernel
theorem dX8_carry_74 : decode cX8_carry 74 = .ok (.aload_n 0, 1) := by decide +kernel
theorem dX8_carry_75 : decode cX8_carry 75 = .ok (.getfield 44, 3) := by decide +kernel
theorem dX8_carry_78 : decode cX8_carry 78 = .ok (.iconst 1, 1) := by decide +kernel
theorem dX8_carry_79 : decode cX8_carry 79 = .ok (.iload_n 1, 1) := by decide +kernel
theorem dX8_carry_80 : decode cX8_carry 80 = .ok (.iastore, 1) := by decide +kernel
theorem dX8_carry_81 : decode cX8_carry 81 = .ok (.aload_n 0, 1) := by decide +kernel
theorem dX8_carry_82 : decode cX8_carry 82 = .ok (.getfield 44, 3) := by decide +kernel
theorem dX8_carry_85 : decode cX8_carry 85 = .ok (.iconst 2, 1) := by decide +kernel
theorem dX8_carry_86 : decode cX8_carry 86 = .ok (.aload_n 0, 1) := by decide +kernel
theorem dX8_carry_87 : decode cX8_carry 87 = .ok (.getfield 213, 3) := by decide +kernel
theorem dX8_carry_90 : decode cX8_carry 90 = .ok (.iastore, 1) := by decide +kernel
theorem dX8_carry_91 : decode cX8_carry 91 = .ok (.aload_n 0, 1) := by decide +kernel
theorem dX8_carry_92 : decode cX8_carry 92 = .ok (.getfield 44, 3) := by decide +kernel
theorem dX8_carry_95 : decode cX8_carry 95 = .ok (.iconst 3, 1) := by decide +kernel
theorem dX8_carry_96 : decode cX8_carry 96 = .ok (.aload_n 0, 1) := by decide +kernel
theorem dX8_carry_97 : decode cX8_carry 97 = .ok (.getfield 203, 3) := by decide +kernel
theorem dX8_carry_100 : decode cX8_carry 100 = .ok (.iastore, 1) := by decide +kernel
theorem dX8_carry_101 : decode cX8_carry 101 = .ok (.aload_n 0, 1) := by decide +kernel
theorem dX8_carry_102 : decode cX8_carry 102 = .ok (.lconst 0, 1) := by decide +kernel
theorem dX8_carry_103 : decode cX8_carry 103 = .ok (.invokevirtual 199, 3) := by decide +kernel
theorem dX8_carry_106 : decode cX8_carry 106 = .ok (.iload_n 2, 1) := by decide +kernel
theorem dX8_carry_107 : decode cX8_carry 107 = .ok (.ireturn, 1) := by decide +kernel
theorem dX8_undo_0 : decode cX8_undo 0 = .ok (.aload_n 0, 1) := by decide +kernel
theorem dX8_undo_1 : decode cX8_undo 1 = .ok (.getfield 191, 3) := by decide +kernel
theorem dX8_undo_4 : decode cX8_undo 4 = .ok (.ifCond .ne 10, 3) := by decide +kernel
theorem dX8_undo_7 : decode cX8_undo 7 = .ok (.aload_n 0, 1) := by decide +kernel
theorem dX8_undo_8 : decode cX8_undo 8 = .ok (.getfield 184, 3) := by decide +kernel
theorem dX8_undo_11 : decode cX8_undo 11 = .ok (.ifCond .ne 10, 3) := by decide +kernel
theorem dX8_undo_14 : decode cX8_undo 14 = .ok (.aload_n 0, 1) := by decide +kernel
theorem dX8_undo_15 : decode cX8_undo 15 = .ok (.bipush 7, 2) := by decide +kernel
theorem dX8_undo_17 : decode cX8_undo 17 = .ok (.invokevirtual 101, 3) := by decide +kernel
theorem dX8_undo_20 : decode cX8_undo 20 = .ok (.ireturn, 1) := by decide +kernel
theorem dX8_undo_21 : decode cX8_undo 21 = .ok (.aload_n 0, 1) := by decide +kernel
theorem dX8_undo_22 : decode cX8_undo 22 = .ok (.dup, 1) := by decide +kernel
theorem dX8_undo_23 : decode cX8_undo 23 = .ok (.getfield 184, 3) := by decide +kernel
theorem dX8_undo_26 : decode cX8_undo 26 = .ok (.iconst 1, 1) := by decide +kernel
theorem dX8_undo_27 : decode cX8_undo 27 = .ok (.isub, 1) := by decide +kernel
theorem dX8_undo_28 : decode cX8_undo 28 = .ok (.putfield 184, 3) := by decide +kernel
theorem dX8_undo_31 : decode cX8_undo 31 = .ok (.iconst 0, 1) := by decide +kernel
theorem dX8_undo_32 : decode cX8_undo 32 = .ok (.istore_n 1, 1) := by decide +kernel
theorem dX8_undo_33 : decode cX8_undo 33 = .ok (.iload_n 1, 1) := by decide +kernel
theorem dX8_undo_34 : decode cX8_undo 34 = .ok (.sipush 557, 3) := by decide +kernel
theorem dX8_undo_37 : decode cX8_undo 37 = .ok (.if_icmp .ge 16, 3) := by decide +kernel
theorem dX8_undo_40 : decode cX8_undo 40 = .ok (.aload_n 0, 1) := by decide +kernel
theorem dX8_undo_41 : decode cX8_undo 41 = .ok (.getfield 16, 3) := by decide +kernel
theorem dX8_undo_44 : decode cX8_undo 44 = .ok (.iload_n 1, 1) := by decide +kernel
theorem dX8_undo_45 : decode cX8_undo 45 = .ok (.iconst 0, 1) := by decide +kernel
theorem dX8_undo_46 : decode cX8_undo 46 = .ok (.iastore, 1) := by decide +kernel
theorem dX8_undo_47 : decode cX8_undo 47 = .ok (.iinc 1 1, 3) := by decide +kernel
theorem dX8_undo_50 : decode cX8_undo 50 = .ok (.goto (-17), 3) := by decide +kernel
theorem dX8_undo_53 : decode cX8_undo 53 = .ok (.iconst 0, 1) := by decide +kernel
theorem dX8_undo_54 : decode cX8_undo 54 = .ok (.istore_n 1, 1) := by decide +kernel
theorem dX8_undo_55 : decode cX8_undo 55 = .ok (.iload_n 1, 1) := by decide +kernel
theorem dX8_undo_56 : decode cX8_undo 56 = .ok (.sipush 720, 3) := by decide +kernel
theorem dX8_undo_59 : decode cX8_undo 59 = .ok (.if_icmp .ge 16, 3) := by decide +kernel
theorem dX8_undo_62 : decode cX8_undo 62 = .ok (.aload_n 0, 1) := by decide +kernel
theorem dX8_undo_63 : decode cX8_undo 63 = .ok (.getfield 19, 3) := by decide +kernel
theorem dX8_undo_66 : decode cX8_undo 66 = .ok (.iload_n 1, 1) := by decide +kernel
theorem dX8_undo_67 : decode cX8_undo 67 = .ok (.lconst 0, 1) := by decide +kernel
theorem dX8_undo_68 : decode cX8_undo 68 = .ok (.lastore, 1) := by decide +kernel
theorem dX8_undo_69 : decode cX8_undo 69 = .ok (.iinc 1 1, 3) := by decide +kernel
theorem dX8_undo_72 : decode cX8_undo 72 = .ok (.goto (-17), 3) := by decide +kernel
theorem dX8_undo_75 : decode cX8_undo 75 = .ok (.iconst 0, 1) := by decide +kernel
theorem dX8_undo_76 : decode cX8_undo 76 = .ok (.istore_n 1, 1) := by decide +kernel
theorem dX8_undo_77 : decode cX8_undo 77 = .ok (.iconst 0, 1) := by decide +kernel
theorem dX8_undo_78 : decode cX8_undo 78 = .ok (.istore_n 2, 1) := by decide +kernel
theorem dX8_undo_79 : decode cX8_undo 79 = .ok (.iload_n 2, 1) := by decide +kernel
theorem dX8_undo_80 : decode cX8_undo 80 = .ok (.aload_n 0, 1) := by decide +kernel
theorem dX8_undo_81 : decode cX8_undo 81 = .ok (.getfield 184, 3) := by decide +kernel
theorem dX8_undo_84 : decode cX8_undo 84 = .ok (.if_icmp .ge 72, 3) := by decide +kernel
theorem dX8_undo_87 : decode cX8_undo 87 = .ok (.bipush 6, 2) := by decide +kernel
theorem dX8_undo_89 : decode cX8_undo 89 = .ok (.iload_n 2, 1) := by decide +kernel
theorem dX8_undo_90 : decode cX8_undo 90 = .ok (.imul, 1) := by decide +kernel
theorem dX8_undo_91 : decode cX8_undo 91 = .ok (.istore_n 3, 1) := by decide +kernel
theorem dX8_undo_92 : decode cX8_undo 92 = .ok (.aload_n 0, 1) := by decide +kernel
theorem dX8_undo_93 : decode cX8_undo 93 = .ok (.getfield 29, 3) := by decide +kernel
theorem dX8_undo_96 : decode cX8_undo 96 = .ok (.iload_n 3, 1) := by decide +kernel
theorem dX8_undo_97 : decode cX8_undo 97 = .ok (.iaload, 1) := by decide +kernel
theorem dX8_undo_98 : decode cX8_undo 98 = .ok (.bipush 13, 2) := by decide +kernel
theorem dX8_undo_100 : decode cX8_undo 100 = .ok (.if_icmp .ne 34, 3) := by decide +kernel
theorem dX8_undo_103 : decode cX8_undo 103 = .ok (.aload_n 0, 1) := by decide +kernel
theorem dX8_undo_104 : decode cX8_undo 104 = .ok (.aload_n 0, 1) := by decide +kernel
theorem dX8_undo_105 : decode cX8_undo 105 = .ok (.getfield 29, 3) := by decide +kernel
theorem dX8_undo_108 : decode cX8_undo 108 = .ok (.iload_n 3, 1) := by decide +kernel
theorem dX8_undo_109 : decode cX8_undo 109 = .ok (.iconst 1, 1) := by decide +kernel
theorem dX8_undo_110 : decode cX8_undo 110 = .ok (.iadd, 1) := by decide +kernel
theorem dX8_undo_111 : decode cX8_undo 111 = .ok (.iaload, 1) := by decide +kernel
theorem dX8_undo_112 : decode cX8_undo 112 = .ok (.aload_n 0, 1) := by decide +kernel
theorem dX8_undo_113 : decode cX8_undo 113 = .ok (.getfield 29, 3) := by decide +kernel
theorem dX8_undo_116 : decode cX8_undo 116 = .ok (.iload_n 3, 1) := by decide +kernel
theorem dX8_undo_117 : decode cX8_undo 117 = .ok (.iconst 2, 1) := by decide +kernel
theorem dX8_undo_118 : decode cX8_undo 118 = .ok (.iadd, 1) := by decide +kernel
theorem dX8_undo_119 : decode cX8_undo 119 = .ok (.iaload, 1) := by decide +kernel
theorem dX8_undo_120 : decode cX8_undo 120 = .ok (.aload_n 0, 1) := by decide +kernel
theorem dX8_undo_121 : decode cX8_undo 121 = .ok (.getfield 29, 3) := by decide +kernel
theorem dX8_undo_124 : decode cX8_undo 124 = .ok (.iload_n 3, 1) := by decide +kernel
theorem dX8_undo_125 : decode cX8_undo 125 = .ok (.iconst 3, 1) := by decide +kernel
theorem dX8_undo_126 : decode cX8_undo 126 = .ok (.iadd, 1) := by decide +kernel
theorem dX8_undo_127 : decode cX8_undo 127 = .ok (.iaload, 1) := by decide +kernel
theorem dX8_undo_128 : decode cX8_undo 128 = .ok (.invokevirtual 219, 3) := by decide +kernel
theorem dX8_undo_131 : decode cX8_undo 131 = .ok (.goto 18, 3) := by decide +kernel
theorem dX8_undo_134 : decode cX8_undo 134 = .ok (.aload_n 0, 1) := by decide +kernel
theorem dX8_undo_135 : decode cX8_undo 135 = .ok (.aload_n 0, 1) := by decide +kernel
theorem dX8_undo_136 : decode cX8_undo 136 = .ok (.getfield 29, 3) := by decide +kernel
theorem dX8_undo_139 : decode cX8_undo 139 = .ok (.iload_n 3, 1) := by decide +kernel
theorem dX8_undo_140 : decode cX8_undo 140 = .ok (.aload_n 0, 1) := by decide +kernel
theorem dX8_undo_141 : decode cX8_undo 141 = .ok (.getfield 32, 3) := by decide +kernel
theorem dX8_undo_144 : decode cX8_undo 144 = .ok (.iload_n 2, 1) := by decide +kernel
theorem dX8_undo_145 : decode cX8_undo 145 = .ok (.laload, 1) := by decide +kernel
theorem dX8_undo_146 : decode cX8_undo 146 = .ok (.invokevirtual 180, 3) := by decide +kernel
theorem dX8_undo_149 : decode cX8_undo 149 = .ok (.istore_n 1, 1) := by decide +kernel
theorem dX8_undo_150 : decode cX8_undo 150 = .ok (.iinc 2 1, 3) := by decide +kernel
theorem dX8_undo_153 : decode cX8_undo 153 = .ok (.goto (-74), 3) := by decide +kernel
theorem dX8_undo_156 : decode cX8_undo 156 = .ok (.aload_n 0, 1) := by decide +kernel
theorem dX8_undo_157 : decode cX8_undo 157 = .ok (.iconst 0, 1) := by decide +kernel
theorem dX8_undo_158 : decode cX8_undo 158 = .ok (.putfield 71, 3) := by decide +kernel
theorem dX8_undo_161 : decode cX8_undo 161 = .ok (.aload_n 0, 1) := by decide +kernel
theorem dX8_undo_162 : decode cX8_undo 162 = .ok (.getfield 184, 3) := by decide +kernel
theorem dX8_undo_165 : decode cX8_undo 165 = .ok (.ireturn, 1) := by decide +kernel
theorem dX8_acts_0 : decode cX8_acts 0 = .ok (.aload_n 0, 1) := by decide +kernel
theorem dX8_acts_1 : decode cX8_acts 1 = .ok (.iconst 0, 1) := by decide +kernel
theorem dX8_acts_2 : decode cX8_acts 2 = .ok (.putfield 71, 3) := by decide +kernel
theorem dX8_acts_5 : decode cX8_acts 5 = .ok (.aload_n 0, 1) := by decide +kernel
theorem dX8_acts_6 : decode cX8_acts 6 = .ok (.getfield 184, 3) := by decide +kernel
theorem dX8_acts_9 : decode cX8_acts 9 = .ok (.ireturn, 1) := by decide +kernel
theorem dX8_ask_0 : decode cX8_ask 0 = .ok (.aload_n 0, 1) := by decide +kernel
theorem dX8_ask_1 : decode cX8_ask 1 = .ok (.iconst 0, 1) := by decide +kernel
theorem dX8_ask_2 : decode cX8_ask 2 = .ok (.putfield 71, 3) := by decide +kernel
theorem dX8_ask_5 : decode cX8_ask 5 = .ok (.aload_n 0, 1) := by decide +kernel
theorem dX8_ask_6 : decode cX8_ask 6 = .ok (.iload_n 1, 1) := by decide +kernel
theorem dX8_ask_7 : decode cX8_ask 7 = .ok (.iload_n 2, 1) := by decide +kernel
theorem dX8_ask_8 : decode cX8_ask 8 = .ok (.invokevirtual 177, 3) := by decide +kernel
theorem dX8_ask_11 : decode cX8_ask 11 = .ok (.ireturn, 1) := by decide +kernel
theorem dX8_toldAs_0 : decode cX8_toldAs 0 = .ok (.iload_n 2, 1) := by decide +kernel
theorem dX8_toldAs_1 : decode cX8_toldAs 1 = .ok (.tableswitch 227 0 24 #[115, 127, 134, 148, 148, 160, 160, 160, 160, 172, 172, 184, 196, 203, 203, 203, 215, 227, 227, 227, 227, 227, 227, 215, 215], 115) := by decide +kernel
theorem dX8_toldAs_116 : decode cX8_toldAs 116 = .ok (.aload_n 0, 1) := by decide +kernel
theorem dX8_toldAs_117 : decode cX8_toldAs 117 = .ok (.getfield 16, 3) := by decide +kernel
theorem dX8_toldAs_120 : decode cX8_toldAs 120 = .ok (.sipush 180, 3) := by decide +kernel
theorem dX8_toldAs_123 : decode cX8_toldAs 123 = .ok (.iload_n 1, 1) := by decide +kernel
theorem dX8_toldAs_124 : decode cX8_toldAs 124 = .ok (.iadd, 1) := by decide +kernel
theorem dX8_toldAs_125 : decode cX8_toldAs 125 = .ok (.iaload, 1) := by decide +kernel
theorem dX8_toldAs_126 : decode cX8_toldAs 126 = .ok (.i2l, 1) := by decide +kernel
theorem dX8_toldAs_127 : decode cX8_toldAs 127 = .ok (.lreturn, 1) := by decide +kernel
theorem dX8_toldAs_128 : decode cX8_toldAs 128 = .ok (.aload_n 0, 1) := by decide +kernel
theorem dX8_toldAs_129 : decode cX8_toldAs 129 = .ok (.iload_n 1, 1) := by decide +kernel
theorem dX8_toldAs_130 : decode cX8_toldAs 130 = .ok (.invokevirtual 225, 3) := by decide +kernel
theorem dX8_toldAs_133 : decode cX8_toldAs 133 = .ok (.i2l, 1) := by decide +kernel
theorem dX8_toldAs_134 : decode cX8_toldAs 134 = .ok (.lreturn, 1) := by decide +kernel
theorem dX8_toldAs_135 : decode cX8_toldAs 135 = .ok (.aload_n 0, 1) := by decide +kernel
theorem dX8_toldAs_136 : decode cX8_toldAs 136 = .ok (.getfield 16, 3) := by decide +kernel
theorem dX8_toldAs_139 : decode cX8_toldAs 139 = .ok (.bipush 120, 2) := by decide +kernel
theorem dX8_toldAs_141 : decode cX8_toldAs 141 = .ok (.iload_n 1, 1) := by decide +kernel
theorem dX8_toldAs_142 : decode cX8_toldAs 142 = .ok (.iadd, 1) := by decide +kernel
theorem dX8_toldAs_143 : decode cX8_toldAs 143 = .ok (.iaload, 1) := by decide +kernel
theorem dX8_toldAs_144 : decode cX8_toldAs 144 = .ok (.invokestatic 75, 3) := by decide +kernel
theorem dX8_toldAs_147 : decode cX8_toldAs 147 = .ok (.i2l, 1) := by decide +kernel
theorem dX8_toldAs_148 : decode cX8_toldAs 148 = .ok (.lreturn, 1) := by decide +kernel
theorem dX8_toldAs_149 : decode cX8_toldAs 149 = .ok (.aload_n 0, 1) := by decide +kernel
theorem dX8_toldAs_150 : decode cX8_toldAs 150 = .ok (.getfield 16, 3) := by decide +kernel
theorem dX8_toldAs_153 : decode cX8_toldAs 153 = .ok (.sipush 240, 3) := by decide +kernel
theorem dX8_toldAs_156 : decode cX8_toldAs 156 = .ok (.iload_n 1, 1) := by decide +kernel
theorem dX8_toldAs_157 : decode cX8_toldAs 157 = .ok (.iadd, 1) := by decide +kernel
theorem dX8_toldAs_158 : decode cX8_toldAs 158 = .ok (.iaload, 1) := by decide +kernel
theorem dX8_toldAs_159 : decode cX8_toldAs 159 = .ok (.i2l, 1) := by decide +kernel
theorem dX8_toldAs_160 : decode cX8_toldAs 160 = .ok (.lreturn, 1) := by decide +kernel
theorem dX8_toldAs_161 : decode cX8_toldAs 161 = .ok (.aload_n 0, 1) := by decide +kernel
theorem dX8_toldAs_162 : decode cX8_toldAs 162 = .ok (.getfield 16, 3) := by decide +kernel
theorem dX8_toldAs_165 : decode cX8_toldAs 165 = .ok (.sipush 300, 3) := by decide +kernel
theorem dX8_toldAs_168 : decode cX8_toldAs 168 = .ok (.iload_n 1, 1) := by decide +kernel
theorem dX8_toldAs_169 : decode cX8_toldAs 169 = .ok (.iadd, 1) := by decide +kernel
theorem dX8_toldAs_170 : decode cX8_toldAs 170 = .ok (.iaload, 1) := by decide +kernel
theorem dX8_toldAs_171 : decode cX8_toldAs 171 = .ok (.i2l, 1) := by decide +kernel
theorem dX8_toldAs_172 : decode cX8_toldAs 172 = .ok (.lreturn, 1) := by decide +kernel
theorem dX8_toldAs_173 : decode cX8_toldAs 173 = .ok (.aload_n 0, 1) := by decide +kernel
theorem dX8_toldAs_174 : decode cX8_toldAs 174 = .ok (.getfield 16, 3) := by decide +kernel
theorem dX8_toldAs_177 : decode cX8_toldAs 177 = .ok (.sipush 360, 3) := by decide +kernel
theorem dX8_toldAs_180 : decode cX8_toldAs 180 = .ok (.iload_n 1, 1) := by decide +kernel
theorem dX8_toldAs_181 : decode cX8_toldAs 181 = .ok (.iadd, 1) := by decide +kernel
theorem dX8_toldAs_182 : decode cX8_toldAs 182 = .ok (.iaload, 1) := by decide +kernel
theorem dX8_toldAs_183 : decode cX8_toldAs 183 = .ok (.i2l, 1) := by decide +kernel
theorem dX8_toldAs_184 : decode cX8_toldAs 184 = .ok (.lreturn, 1) := by decide +kernel
theorem dX8_toldAs_185 : decode cX8_toldAs 185 = .ok (.aload_n 0, 1) := by decide +kernel
theorem dX8_toldAs_186 : decode cX8_toldAs 186 = .ok (.getfield 16, 3) := by decide +kernel
theorem dX8_toldAs_189 : decode cX8_toldAs 189 = .ok (.sipush 480, 3) := by decide +kernel
theorem dX8_toldAs_192 : decode cX8_toldAs 192 = .ok (.iload_n 1, 1) := by decide +kernel
theorem dX8_toldAs_193 : decode cX8_toldAs 193 = .ok (.iadd, 1) := by decide +kernel
theorem dX8_toldAs_194 : decode cX8_toldAs 194 = .ok (.iaload, 1) := by decide +kernel
theorem dX8_toldAs_195 : decode cX8_toldAs 195 = .ok (.i2l, 1) := by decide +kernel
theorem dX8_toldAs_196 : decode cX8_toldAs 196 = .ok (.lreturn, 1) := by decide +kernel
theorem dX8_toldAs_197 : decode cX8_toldAs 197 = .ok (.aload_n 0, 1) := by decide +kernel
theorem dX8_toldAs_198 : decode cX8_toldAs 198 = .ok (.iload_n 1, 1) := by decide +kernel
theorem dX8_toldAs_199 : decode cX8_toldAs 199 = .ok (.invokevirtual 78, 3) := by decide +kernel
theorem dX8_toldAs_202 : decode cX8_toldAs 202 = .ok (.i2l, 1) := by decide +kernel
theorem dX8_toldAs_203 : decode cX8_toldAs 203 = .ok (.lreturn, 1) := by decide +kernel
theorem dX8_toldAs_204 : decode cX8_toldAs 204 = .ok (.aload_n 0, 1) := by decide +kernel
theorem dX8_toldAs_205 : decode cX8_toldAs 205 = .ok (.getfield 19, 3) := by decide +kernel
theorem dX8_toldAs_208 : decode cX8_toldAs 208 = .ok (.bipush 12, 2) := by decide +kernel
theorem dX8_toldAs_210 : decode cX8_toldAs 210 = .ok (.iload_n 1, 1) := by decide +kernel
theorem dX8_toldAs_211 : decode cX8_toldAs 211 = .ok (.imul, 1) := by decide +kernel
theorem dX8_toldAs_212 : decode cX8_toldAs 212 = .ok (.iload_n 3, 1) := by decide +kernel
theorem dX8_toldAs_213 : decode cX8_toldAs 213 = .ok (.iadd, 1) := by decide +kernel
theorem dX8_toldAs_214 : decode cX8_toldAs 214 = .ok (.laload, 1) := by decide +kernel
theorem dX8_toldAs_215 : decode cX8_toldAs 215 = .ok (.lreturn, 1) := by decide +kernel
theorem dX8_toldAs_216 : decode cX8_toldAs 216 = .ok (.aload_n 0, 1) := by decide +kernel
theorem dX8_toldAs_217 : decode cX8_toldAs 217 = .ok (.aload_n 0, 1) := by decide +kernel
theorem dX8_toldAs_218 : decode cX8_toldAs 218 = .ok (.iload_n 1, 1) := by decide +kernel
theorem dX8_toldAs_219 : decode cX8_toldAs 219 = .ok (.iload_n 3, 1) := by decide +kernel
theorem dX8_toldAs_220 : decode cX8_toldAs 220 = .ok (.invokevirtual 85, 3) := by decide +kernel
theorem dX8_toldAs_223 : decode cX8_toldAs 223 = .ok (.invokevirtual 68, 3) := by decide +kernel
theorem dX8_toldAs_226 : decode cX8_toldAs 226 = .ok (.i2l, 1) := by decide +kernel
theorem dX8_toldAs_227 : decode cX8_toldAs 227 = .ok (.lreturn, 1) := by decide +kernel
theorem dX8_toldAs_228 : decode cX8_toldAs 228 = .ok (.aload_n 0, 1) := by decide +kernel
theorem dX8_toldAs_229 : decode cX8_toldAs 229 = .ok (.iload_n 1, 1) := by decide +kernel
theorem dX8_toldAs_230 : decode cX8_toldAs 230 = .ok (.iload_n 3, 1) := by decide +kernel
theorem dX8_toldAs_231 : decode cX8_toldAs 231 = .ok (.invokevirtual 85, 3) := by decide +kernel
theorem dX8_toldAs_234 : decode cX8_toldAs 234 = .ok (.i2l, 1) := by decide +kernel
theorem dX8_toldAs_235 : decode cX8_toldAs 235 = .ok (.lreturn, 1) := by decide +kernel
theorem dX8_take_0 : decode cX8_take 0 = .ok (.aload_n 0, 1) := by decide +kernel
theorem dX8_take_1 : decode cX8_take 1 = .ok (.iconst 0, 1) := by decide +kernel
theorem dX8_take_2 : decode cX8_take 2 = .ok (.putfield 71, 3) := by decide +kernel
theorem dX8_take_5 : decode cX8_take 5 = .ok (.iload_n 1, 1) := by decide +kernel
theorem dX8_take_6 : decode cX8_take 6 = .ok (.invokestatic 98, 3) := by decide +kernel
theorem dX8_take_9 : decode cX8_take 9 = .ok (.ifCond .eq 13, 3) := by decide +kernel
theorem dX8_take_12 : decode cX8_take 12 = .ok (.iload_n 2, 1) := by decide +kernel
theorem dX8_take_13 : decode cX8_take 13 = .ok (.ifCond .lt 9, 3) := by decide +kernel
theorem dX8_take_16 : decode cX8_take 16 = .ok (.iload_n 2, 1) := by decide +kernel
theorem dX8_take_17 : decode cX8_take 17 = .ok (.bipush 24, 2) := by decide +kernel
theorem dX8_take_19 : decode cX8_take 19 = .ok (.if_icmp .le 10, 3) := by decide +kernel
theorem dX8_take_22 : decode cX8_take 22 = .ok (.aload_n 0, 1) := by decide +kernel
theorem dX8_take_23 : decode cX8_take 23 = .ok (.iconst 1, 1) := by decide +kernel
theorem dX8_take_24 : decode cX8_take 24 = .ok (.invokevirtual 101, 3) := by decide +kernel
theorem dX8_take_27 : decode cX8_take 27 = .ok (.i2l, 1) := by decide +kernel
theorem dX8_take_28 : decode cX8_take 28 = .ok (.lreturn, 1) := by decide +kernel
theorem dX8_take_29 : decode cX8_take 29 = .ok (.aload_n 0, 1) := by decide +kernel
theorem dX8_take_30 : decode cX8_take 30 = .ok (.iload_n 1, 1) := by decide +kernel
theorem dX8_take_31 : decode cX8_take 31 = .ok (.invokevirtual 104, 3) := by decide +kernel
theorem dX8_take_34 : decode cX8_take 34 = .ok (.istore 4, 2) := by decide +kernel
theorem dX8_take_36 : decode cX8_take 36 = .ok (.iload 4, 2) := by decide +kernel
theorem dX8_take_38 : decode cX8_take 38 = .ok (.ifCond .lt 24, 3) := by decide +kernel
theorem dX8_take_41 : decode cX8_take 41 = .ok (.aload_n 0, 1) := by decide +kernel
theorem dX8_take_42 : decode cX8_take 42 = .ok (.aload_n 0, 1) := by decide +kernel
theorem dX8_take_43 : decode cX8_take 43 = .ok (.iload 4, 2) := by decide +kernel
theorem dX8_take_45 : decode cX8_take 45 = .ok (.invokevirtual 78, 3) := by decide +kernel
theorem dX8_take_48 : decode cX8_take 48 = .ok (.iload_n 2, 1) := by decide +kernel
theorem dX8_take_49 : decode cX8_take 49 = .ok (.invokevirtual 62, 3) := by decide +kernel
theorem dX8_take_52 : decode cX8_take 52 = .ok (.ifCond .ne 10, 3) := by decide +kernel
theorem dX8_take_55 : decode cX8_take 55 = .ok (.aload_n 0, 1) := by decide +kernel
theorem dX8_take_56 : decode cX8_take 56 = .ok (.iconst 3, 1) := by decide +kernel
theorem dX8_take_57 : decode cX8_take 57 = .ok (.invokevirtual 101, 3) := by decide +kernel
theorem dX8_take_60 : decode cX8_take 60 = .ok (.i2l, 1) := by decide +kernel
theorem dX8_take_61 : decode cX8_take 61 = .ok (.lreturn, 1) := by decide +kernel
theorem dX8_take_62 : decode cX8_take 62 = .ok (.iload 4, 2) := by decide +kernel
theorem dX8_take_64 : decode cX8_take 64 = .ok (.ifCond .ge 10, 3) := by decide +kernel
theorem dX8_take_67 : decode cX8_take 67 = .ok (.aload_n 0, 1) := by decide +kernel
theorem dX8_take_68 : decode cX8_take 68 = .ok (.iconst 2, 1) := by decide +kernel
theorem dX8_take_69 : decode cX8_take 69 = .ok (.invokevirtual 101, 3) := by decide +kernel
theorem dX8_take_72 : decode cX8_take 72 = .ok (.i2l, 1) := by decide +kernel
theorem dX8_take_73 : decode cX8_take 73 = .ok (.lreturn, 1) := by decide +kernel
theorem dX8_take_74 : decode cX8_take 74 = .ok (.iload_n 2, 1) := by decide +kernel
theorem dX8_take_75 : decode cX8_take 75 = .ok (.bipush 13, 2) := by decide +kernel
theorem dX8_take_77 : decode cX8_take 77 = .ok (.if_icmp .lt 20, 3) := by decide +kernel
theorem dX8_take_80 : decode cX8_take 80 = .ok (.aload_n 0, 1) := by decide +kernel
theorem dX8_take_81 : decode cX8_take 81 = .ok (.iload 4, 2) := by decide +kernel
theorem dX8_take_83 : decode cX8_take 83 = .ok (.iload_n 3, 1) := by decide +kernel
theorem dX8_take_84 : decode cX8_take 84 = .ok (.invokevirtual 110, 3) := by decide +kernel
theorem dX8_take_87 : decode cX8_take 87 = .ok (.ifCond .ne 10, 3) := by decide +kernel
theorem dX8_take_90 : decode cX8_take 90 = .ok (.aload_n 0, 1) := by decide +kernel
theorem dX8_take_91 : decode cX8_take 91 = .ok (.iconst 4, 1) := by decide +kernel
theorem dX8_take_92 : decode cX8_take 92 = .ok (.invokevirtual 101, 3) := by decide +kernel
theorem dX8_take_95 : decode cX8_take 95 = .ok (.i2l, 1) := by decide +kernel
theorem dX8_take_96 : decode cX8_take 96 = .ok (.lreturn, 1) := by decide +kernel
theorem dX8_take_97 : decode cX8_take 97 = .ok (.iload_n 2, 1) := by decide +kernel
theorem dX8_take_98 : decode cX8_take 98 = .ok (.bipush 16, 2) := by decide +kernel
theorem dX8_take_100 : decode cX8_take 100 = .ok (.if_icmp .lt 20, 3) := by decide +kernel
theorem dX8_take_103 : decode cX8_take 103 = .ok (.aload_n 0, 1) := by decide +kernel
theorem dX8_take_104 : decode cX8_take 104 = .ok (.iload 4, 2) := by decide +kernel
theorem dX8_take_106 : decode cX8_take 106 = .ok (.iload_n 3, 1) := by decide +kernel
theorem dX8_take_107 : decode cX8_take 107 = .ok (.invokevirtual 85, 3) := by decide +kernel
theorem dX8_take_110 : decode cX8_take 110 = .ok (.ifCond .ge 10, 3) := by decide +kernel
theorem dX8_take_113 : decode cX8_take 113 = .ok (.aload_n 0, 1) := by decide +kernel
theorem dX8_take_114 : decode cX8_take 114 = .ok (.iconst 2, 1) := by decide +kernel
theorem dX8_take_115 : decode cX8_take 115 = .ok (.invokevirtual 101, 3) := by decide +kernel
theorem dX8_take_118 : decode cX8_take 118 = .ok (.i2l, 1) := by decide +kernel
theorem dX8_take_119 : decode cX8_take 119 = .ok (.lreturn, 1) := by decide +kernel
theorem dX8_take_120 : decode cX8_take 120 = .ok (.aload_n 0, 1) := by decide +kernel
theorem dX8_take_121 : decode cX8_take 121 = .ok (.iload 4, 2) := by decide +kernel
theorem dX8_take_123 : decode cX8_take 123 = .ok (.iload_n 2, 1) := by decide +kernel
theorem dX8_take_124 : decode cX8_take 124 = .ok (.iload_n 3, 1) := by decide +kernel
theorem dX8_take_125 : decode cX8_take 125 = .ok (.invokevirtual 228, 3) := by decide +kernel
theorem dX8_take_128 : decode cX8_take 128 = .ok (.lreturn, 1) := by decide +kernel
theorem dX8_size_0 : decode cX8_size 0 = .ok (.aload_n 0, 1) := by decide +kernel
theorem dX8_size_1 : decode cX8_size 1 = .ok (.iconst 0, 1) := by decide +kernel
theorem dX8_size_2 : decode cX8_size 2 = .ok (.putfield 71, 3) := by decide +kernel
theorem dX8_size_5 : decode cX8_size 5 = .ok (.iload_n 1, 1) := by decide +kernel
theorem dX8_size_6 : decode cX8_size 6 = .ok (.invokestatic 98, 3) := by decide +kernel
theorem dX8_size_9 : decode cX8_size 9 = .ok (.ifCond .ne 9, 3) := by decide +kernel
theorem dX8_size_12 : decode cX8_size 12 = .ok (.aload_n 0, 1) := by decide +kernel
theorem dX8_size_13 : decode cX8_size 13 = .ok (.iconst 1, 1) := by decide +kernel
theorem dX8_size_14 : decode cX8_size 14 = .ok (.invokevirtual 101, 3) := by decide +kernel
theorem dX8_size_17 : decode cX8_size 17 = .ok (.ireturn, 1) := by decide +kernel
theorem dX8_size_18 : decode cX8_size 18 = .ok (.aload_n 0, 1) := by decide +kernel
theorem dX8_size_19 : decode cX8_size 19 = .ok (.iload_n 1, 1) := by decide +kernel
theorem dX8_size_20 : decode cX8_size 20 = .ok (.invokevirtual 104, 3) := by decide +kernel
theorem dX8_size_23 : decode cX8_size 23 = .ok (.ifCond .ge 9, 3) := by decide +kernel
theorem dX8_size_26 : decode cX8_size 26 = .ok (.aload_n 0, 1) := by decide +kernel
theorem dX8_size_27 : decode cX8_size 27 = .ok (.iconst 2, 1) := by decide +kernel
theorem dX8_size_28 : decode cX8_size 28 = .ok (.invokevirtual 101, 3) := by decide +kernel
theorem dX8_size_31 : decode cX8_size 31 = .ok (.ireturn, 1) := by decide +kernel
theorem dX8_size_32 : decode cX8_size 32 = .ok (.aload_n 0, 1) := by decide +kernel
theorem dX8_size_33 : decode cX8_size 33 = .ok (.aload_n 0, 1) := by decide +kernel
theorem dX8_size_34 : decode cX8_size 34 = .ok (.iload_n 1, 1) := by decide +kernel
theorem dX8_size_35 : decode cX8_size 35 = .ok (.invokevirtual 104, 3) := by decide +kernel
theorem dX8_size_38 : decode cX8_size 38 = .ok (.invokevirtual 78, 3) := by decide +kernel
theorem dX8_size_41 : decode cX8_size 41 = .ok (.bipush 13, 2) := by decide +kernel
theorem dX8_size_43 : decode cX8_size 43 = .ok (.if_icmp .ge 9, 3) := by decide +kernel
theorem dX8_size_46 : decode cX8_size 46 = .ok (.aload_n 0, 1) := by decide +kernel
theorem dX8_size_47 : decode cX8_size 47 = .ok (.iconst 3, 1) := by decide +kernel
theorem dX8_size_48 : decode cX8_size 48 = .ok (.invokevirtual 101, 3) := by decide +kernel
theorem dX8_size_51 : decode cX8_size 51 = .ok (.ireturn, 1) := by decide +kernel
theorem dX8_size_52 : decode cX8_size 52 = .ok (.aload_n 0, 1) := by decide +kernel
theorem dX8_size_53 : decode cX8_size 53 = .ok (.aload_n 0, 1) := by decide +kernel
theorem dX8_size_54 : decode cX8_size 54 = .ok (.iload_n 1, 1) := by decide +kernel
theorem dX8_size_55 : decode cX8_size 55 = .ok (.invokevirtual 104, 3) := by decide +kernel
theorem dX8_size_58 : decode cX8_size 58 = .ok (.invokevirtual 68, 3) := by decide +kernel
theorem dX8_size_61 : decode cX8_size 61 = .ok (.ireturn, 1) := by decide +kernel
theorem dX8_read_0 : decode cX8_read 0 = .ok (.aload_n 0, 1) := by decide +kernel
theorem dX8_read_1 : decode cX8_read 1 = .ok (.iconst 0, 1) := by decide +kernel
theorem dX8_read_2 : decode cX8_read 2 = .ok (.putfield 71, 3) := by decide +kernel
theorem dX8_read_5 : decode cX8_read 5 = .ok (.iload_n 1, 1) := by decide +kernel
theorem dX8_read_6 : decode cX8_read 6 = .ok (.invokestatic 98, 3) := by decide +kernel
theorem dX8_read_9 : decode cX8_read 9 = .ok (.ifCond .ne 10, 3) := by decide +kernel
theorem dX8_read_12 : decode cX8_read 12 = .ok (.aload_n 0, 1) := by decide +kernel
theorem dX8_read_13 : decode cX8_read 13 = .ok (.iconst 1, 1) := by decide +kernel
theorem dX8_read_14 : decode cX8_read 14 = .ok (.invokevirtual 101, 3) := by decide +kernel
theorem dX8_read_17 : decode cX8_read 17 = .ok (.i2l, 1) := by decide +kernel
theorem dX8_read_18 : decode cX8_read 18 = .ok (.lreturn, 1) := by decide +kernel
theorem dX8_read_19 : decode cX8_read 19 = .ok (.aload_n 0, 1) := by decide +kernel
theorem dX8_read_20 : decode cX8_read 20 = .ok (.iload_n 1, 1) := by decide +kernel
theorem dX8_read_21 : decode cX8_read 21 = .ok (.invokevirtual 104, 3) := by decide +kernel
theorem dX8_read_24 : decode cX8_read 24 = .ok (.ifCond .ge 10, 3) := by decide +kernel
theorem dX8_read_27 : decode cX8_read 27 = .ok (.aload_n 0, 1) := by decide +kernel
theorem dX8_read_28 : decode cX8_read 28 = .ok (.iconst 2, 1) := by decide +kernel
theorem dX8_read_29 : decode cX8_read 29 = .ok (.invokevirtual 101, 3) := by decide +kernel
theorem dX8_read_32 : decode cX8_read 32 = .ok (.i2l, 1) := by decide +kernel
theorem dX8_read_33 : decode cX8_read 33 = .ok (.lreturn, 1) := by decide +kernel
theorem dX8_read_34 : decode cX8_read 34 = .ok (.aload_n 0, 1) := by decide +kernel
theorem dX8_read_35 : decode cX8_read 35 = .ok (.aload_n 0, 1) := by decide +kernel
theorem dX8_read_36 : decode cX8_read 36 = .ok (.iload_n 1, 1) := by decide +kernel
theorem dX8_read_37 : decode cX8_read 37 = .ok (.invokevirtual 104, 3) := by decide +kernel
theorem dX8_read_40 : decode cX8_read 40 = .ok (.invokevirtual 78, 3) := by decide +kernel
theorem dX8_read_43 : decode cX8_read 43 = .ok (.invokestatic 120, 3) := by decide +kernel
theorem dX8_read_46 : decode cX8_read 46 = .ok (.ifCond .ne 10, 3) := by decide +kernel
theorem dX8_read_49 : decode cX8_read 49 = .ok (.aload_n 0, 1) := by decide +kernel
theorem dX8_read_50 : decode cX8_read 50 = .ok (.iconst 3, 1) := by decide +kernel
theorem dX8_read_51 : decode cX8_read 51 = .ok (.invokevirtual 101, 3) := by decide +kernel
theorem dX8_read_54 : decode cX8_read 54 = .ok (.i2l, 1) := by decide +kernel
theorem dX8_read_55 : decode cX8_read 55 = .ok (.lreturn, 1) := by decide +kernel
theorem dX8_read_56 : decode cX8_read 56 = .ok (.aload_n 0, 1) := by decide +kernel
theorem dX8_read_57 : decode cX8_read 57 = .ok (.aload_n 0, 1) := by decide +kernel
theorem dX8_read_58 : decode cX8_read 58 = .ok (.iload_n 1, 1) := by decide +kernel
theorem dX8_read_59 : decode cX8_read 59 = .ok (.invokevirtual 104, 3) := by decide +kernel
theorem dX8_read_62 : decode cX8_read 62 = .ok (.iload_n 2, 1) := by decide +kernel
theorem dX8_read_63 : decode cX8_read 63 = .ok (.invokevirtual 110, 3) := by decide +kernel
theorem dX8_read_66 : decode cX8_read 66 = .ok (.ifCond .ne 10, 3) := by decide +kernel
theorem dX8_read_69 : decode cX8_read 69 = .ok (.aload_n 0, 1) := by decide +kernel
theorem dX8_read_70 : decode cX8_read 70 = .ok (.iconst 4, 1) := by decide +kernel
theorem dX8_read_71 : decode cX8_read 71 = .ok (.invokevirtual 101, 3) := by decide +kernel
theorem dX8_read_74 : decode cX8_read 74 = .ok (.i2l, 1) := by decide +kernel
theorem dX8_read_75 : decode cX8_read 75 = .ok (.lreturn, 1) := by decide +kernel
theorem dX8_read_76 : decode cX8_read 76 = .ok (.aload_n 0, 1) := by decide +kernel
theorem dX8_read_77 : decode cX8_read 77 = .ok (.getfield 19, 3) := by decide +kernel
theorem dX8_read_80 : decode cX8_read 80 = .ok (.bipush 12, 2) := by decide +kernel
theorem dX8_read_82 : decode cX8_read 82 = .ok (.aload_n 0, 1) := by decide +kernel
theorem dX8_read_83 : decode cX8_read 83 = .ok (.iload_n 1, 1) := by decide +kernel
theorem dX8_read_84 : decode cX8_read 84 = .ok (.invokevirtual 104, 3) := by decide +kernel
theorem dX8_read_87 : decode cX8_read 87 = .ok (.imul, 1) := by decide +kernel
theorem dX8_read_88 : decode cX8_read 88 = .ok (.iload_n 2, 1) := by decide +kernel
theorem dX8_read_89 : decode cX8_read 89 = .ok (.iadd, 1) := by decide +kernel
theorem dX8_read_90 : decode cX8_read 90 = .ok (.laload, 1) := by decide +kernel
theorem dX8_read_91 : decode cX8_read 91 = .ok (.lreturn, 1) := by decide +kernel
theorem dX8_at_0 : decode cX8_at 0 = .ok (.aload_n 0, 1) := by decide +kernel
theorem dX8_at_1 : decode cX8_at 1 = .ok (.iconst 0, 1) := by decide +kernel
theorem dX8_at_2 : decode cX8_at 2 = .ok (.putfield 71, 3) := by decide +kernel
theorem dX8_at_5 : decode cX8_at 5 = .ok (.iload_n 1, 1) := by decide +kernel
theorem dX8_at_6 : decode cX8_at 6 = .ok (.invokestatic 98, 3) := by decide +kernel
theorem dX8_at_9 : decode cX8_at 9 = .ok (.ifCond .ne 9, 3) := by decide +kernel
theorem dX8_at_12 : decode cX8_at 12 = .ok (.aload_n 0, 1) := by decide +kernel
theorem dX8_at_13 : decode cX8_at 13 = .ok (.iconst 1, 1) := by decide +kernel
theorem dX8_at_14 : decode cX8_at 14 = .ok (.invokevirtual 101, 3) := by decide +kernel
theorem dX8_at_17 : decode cX8_at 17 = .ok (.ireturn, 1) := by decide +kernel
theorem dX8_at_18 : decode cX8_at 18 = .ok (.aload_n 0, 1) := by decide +kernel
theorem dX8_at_19 : decode cX8_at 19 = .ok (.iload_n 1, 1) := by decide +kernel
theorem dX8_at_20 : decode cX8_at 20 = .ok (.invokevirtual 104, 3) := by decide +kernel
theorem dX8_at_23 : decode cX8_at 23 = .ok (.ifCond .ge 9, 3) := by decide +kernel
theorem dX8_at_26 : decode cX8_at 26 = .ok (.aload_n 0, 1) := by decide +kernel
theorem dX8_at_27 : decode cX8_at 27 = .ok (.iconst 2, 1) := by decide +kernel
theorem dX8_at_28 : decode cX8_at 28 = .ok (.invokevirtual 101, 3) := by decide +kernel
theorem dX8_at_31 : decode cX8_at 31 = .ok (.ireturn, 1) := by decide +kernel
theorem dX8_at_32 : decode cX8_at 32 = .ok (.aload_n 0, 1) := by decide +kernel
theorem dX8_at_33 : decode cX8_at 33 = .ok (.aload_n 0, 1) := by decide +kernel
theorem dX8_at_34 : decode cX8_at 34 = .ok (.iload_n 1, 1) := by decide +kernel
theorem dX8_at_35 : decode cX8_at 35 = .ok (.invokevirtual 104, 3) := by decide +kernel
theorem dX8_at_38 : decode cX8_at 38 = .ok (.invokevirtual 78, 3) := by decide +kernel
theorem dX8_at_41 : decode cX8_at 41 = .ok (.istore 4, 2) := by decide +kernel
theorem dX8_at_43 : decode cX8_at 43 = .ok (.iload 4, 2) := by decide +kernel
theorem dX8_at_45 : decode cX8_at 45 = .ok (.bipush 16, 2) := by decide +kernel
theorem dX8_at_47 : decode cX8_at 47 = .ok (.if_icmp .eq 17, 3) := by decide +kernel
theorem dX8_at_50 : decode cX8_at 50 = .ok (.iload 4, 2) := by decide +kernel
theorem dX8_at_52 : decode cX8_at 52 = .ok (.invokestatic 55, 3) := by decide +kernel
theorem dX8_at_55 : decode cX8_at 55 = .ok (.ifCond .ne 9, 3) := by decide +kernel
theorem dX8_at_58 : decode cX8_at 58 = .ok (.aload_n 0, 1) := by decide +kernel
theorem dX8_at_59 : decode cX8_at 59 = .ok (.iconst 3, 1) := by decide +kernel
theorem dX8_at_60 : decode cX8_at 60 = .ok (.invokevirtual 101, 3) := by decide +kernel
theorem dX8_at_63 : decode cX8_at 63 = .ok (.ireturn, 1) := by decide +kernel
theorem dX8_at_64 : decode cX8_at 64 = .ok (.aload_n 0, 1) := by decide +kernel
theorem dX8_at_65 : decode cX8_at 65 = .ok (.aload_n 0, 1) := by decide +kernel
theorem dX8_at_66 : decode cX8_at 66 = .ok (.iload_n 1, 1) := by decide +kernel
theorem dX8_at_67 : decode cX8_at 67 = .ok (.invokevirtual 104, 3) := by decide +kernel
theorem dX8_at_70 : decode cX8_at 70 = .ok (.iload_n 2, 1) := by decide +kernel
theorem dX8_at_71 : decode cX8_at 71 = .ok (.invokevirtual 110, 3) := by decide +kernel
theorem dX8_at_74 : decode cX8_at 74 = .ok (.ifCond .ne 9, 3) := by decide +kernel
theorem dX8_at_77 : decode cX8_at 77 = .ok (.aload_n 0, 1) := by decide +kernel
theorem dX8_at_78 : decode cX8_at 78 = .ok (.iconst 4, 1) := by decide +kernel
theorem dX8_at_79 : decode cX8_at 79 = .ok (.invokevirtual 101, 3) := by decide +kernel
theorem dX8_at_82 : decode cX8_at 82 = .ok (.ireturn, 1) := by decide +kernel
theorem dX8_at_83 : decode cX8_at 83 = .ok (.aload_n 0, 1) := by decide +kernel
theorem dX8_at_84 : decode cX8_at 84 = .ok (.aload_n 0, 1) := by decide +kernel
theorem dX8_at_85 : decode cX8_at 85 = .ok (.iload_n 1, 1) := by decide +kernel
theorem dX8_at_86 : decode cX8_at 86 = .ok (.invokevirtual 104, 3) := by decide +kernel
theorem dX8_at_89 : decode cX8_at 89 = .ok (.iload_n 2, 1) := by decide +kernel
theorem dX8_at_90 : decode cX8_at 90 = .ok (.invokevirtual 85, 3) := by decide +kernel
theorem dX8_at_93 : decode cX8_at 93 = .ok (.istore 5, 2) := by decide +kernel
theorem dX8_at_95 : decode cX8_at 95 = .ok (.iload 5, 2) := by decide +kernel
theorem dX8_at_97 : decode cX8_at 97 = .ok (.ifCond .ge 9, 3) := by decide +kernel
theorem dX8_at_100 : decode cX8_at 100 = .ok (.aload_n 0, 1) := by decide +kernel
theorem dX8_at_101 : decode cX8_at 101 = .ok (.iconst 2, 1) := by decide +kernel
theorem dX8_at_102 : decode cX8_at 102 = .ok (.invokevirtual 101, 3) := by decide +kernel
theorem dX8_at_105 : decode cX8_at 105 = .ok (.ireturn, 1) := by decide +kernel
theorem dX8_at_106 : decode cX8_at 106 = .ok (.aload_n 0, 1) := by decide +kernel
theorem dX8_at_107 : decode cX8_at 107 = .ok (.iload 5, 2) := by decide +kernel
theorem dX8_at_109 : decode cX8_at 109 = .ok (.iload_n 3, 1) := by decide +kernel
theorem dX8_at_110 : decode cX8_at 110 = .ok (.invokevirtual 110, 3) := by decide +kernel
theorem dX8_at_113 : decode cX8_at 113 = .ok (.ifCond .ne 9, 3) := by decide +kernel
theorem dX8_at_116 : decode cX8_at 116 = .ok (.aload_n 0, 1) := by decide +kernel
theorem dX8_at_117 : decode cX8_at 117 = .ok (.iconst 4, 1) := by decide +kernel
theorem dX8_at_118 : decode cX8_at 118 = .ok (.invokevirtual 101, 3) := by decide +kernel
theorem dX8_at_121 : decode cX8_at 121 = .ok (.ireturn, 1) := by decide +kernel
theorem dX8_at_122 : decode cX8_at 122 = .ok (.iload 4, 2) := by decide +kernel
theorem dX8_at_124 : decode cX8_at 124 = .ok (.bipush 16, 2) := by decide +kernel
theorem dX8_at_126 : decode cX8_at 126 = .ok (.if_icmp .ne 17, 3) := by decide +kernel
theorem dX8_at_129 : decode cX8_at 129 = .ok (.aload_n 0, 1) := by decide +kernel
theorem dX8_at_130 : decode cX8_at 130 = .ok (.getfield 19, 3) := by decide +kernel
theorem dX8_at_133 : decode cX8_at 133 = .ok (.bipush 12, 2) := by decide +kernel
theorem dX8_at_135 : decode cX8_at 135 = .ok (.iload 5, 2) := by decide +kernel
theorem dX8_at_137 : decode cX8_at 137 = .ok (.imul, 1) := by decide +kernel
theorem dX8_at_138 : decode cX8_at 138 = .ok (.iload_n 3, 1) := by decide +kernel
theorem dX8_at_139 : decode cX8_at 139 = .ok (.iadd, 1) := by decide +kernel
theorem dX8_at_140 : decode cX8_at 140 = .ok (.laload, 1) := by decide +kernel
theorem dX8_at_141 : decode cX8_at 141 = .ok (.l2i, 1) := by decide +kernel
theorem dX8_at_142 : decode cX8_at 142 = .ok (.ireturn, 1) := by decide +kernel
theorem dX8_at_143 : decode cX8_at 143 = .ok (.aload_n 0, 1) := by decide +kernel
theorem dX8_at_144 : decode cX8_at 144 = .ok (.iload 5, 2) := by decide +kernel
theorem dX8_at_146 : decode cX8_at 146 = .ok (.iload_n 3, 1) := by decide +kernel
theorem dX8_at_147 : decode cX8_at 147 = .ok (.invokevirtual 85, 3) := by decide +kernel
theorem dX8_at_150 : decode cX8_at 150 = .ok (.ifCond .ge 11, 3) := by decide +kernel
theorem dX8_at_153 : decode cX8_at 153 = .ok (.aload_n 0, 1) := by decide +kernel
theorem dX8_at_154 : decode cX8_at 154 = .ok (.iconst 2, 1) := by decide +kernel
theorem dX8_at_155 : decode cX8_at 155 = .ok (.invokevirtual 101, 3) := by decide +kernel
theorem dX8_at_158 : decode cX8_at 158 = .ok (.goto 10, 3) := by decide +kernel
theorem dX8_at_161 : decode cX8_at 161 = .ok (.aload_n 0, 1) := by decide +kernel
theorem dX8_at_162 : decode cX8_at 162 = .ok (.iload 5, 2) := by decide +kernel
theorem dX8_at_164 : decode cX8_at 164 = .ok (.iload_n 3, 1) := by decide +kernel
theorem dX8_at_165 : decode cX8_at 165 = .ok (.invokevirtual 85, 3) := by decide +kernel
theorem dX8_at_168 : decode cX8_at 168 = .ok (.ireturn, 1) := by decide +kernel
theorem dX8_tell_0 : decode cX8_tell 0 = .ok (.aload_n 0, 1) := by decide +kernel
theorem dX8_tell_1 : decode cX8_tell 1 = .ok (.iconst 0, 1) := by decide +kernel
theorem dX8_tell_2 : decode cX8_tell 2 = .ok (.putfield 71, 3) := by decide +kernel
theorem dX8_tell_5 : decode cX8_tell 5 = .ok (.iload_n 1, 1) := by decide +kernel
theorem dX8_tell_6 : decode cX8_tell 6 = .ok (.invokestatic 98, 3) := by decide +kernel
theorem dX8_tell_9 : decode cX8_tell 9 = .ok (.ifCond .eq 13, 3) := by decide +kernel
theorem dX8_tell_12 : decode cX8_tell 12 = .ok (.iload_n 2, 1) := by decide +kernel
theorem dX8_tell_13 : decode cX8_tell 13 = .ok (.ifCond .lt 9, 3) := by decide +kernel
theorem dX8_tell_16 : decode cX8_tell 16 = .ok (.iload_n 2, 1) := by decide +kernel
theorem dX8_tell_17 : decode cX8_tell 17 = .ok (.bipush 9, 2) := by decide +kernel
theorem dX8_tell_19 : decode cX8_tell 19 = .ok (.if_icmp .le 9, 3) := by decide +kernel
theorem dX8_tell_22 : decode cX8_tell 22 = .ok (.aload_n 0, 1) := by decide +kernel
theorem dX8_tell_23 : decode cX8_tell 23 = .ok (.iconst 1, 1) := by decide +kernel
theorem dX8_tell_24 : decode cX8_tell 24 = .ok (.invokevirtual 101, 3) := by decide +kernel
theorem dX8_tell_27 : decode cX8_tell 27 = .ok (.ireturn, 1) := by decide +kernel
theorem dX8_tell_28 : decode cX8_tell 28 = .ok (.aload_n 0, 1) := by decide +kernel
theorem dX8_tell_29 : decode cX8_tell 29 = .ok (.iload_n 1, 1) := by decide +kernel
theorem dX8_tell_30 : decode cX8_tell 30 = .ok (.invokevirtual 104, 3) := by decide +kernel
theorem dX8_tell_33 : decode cX8_tell 33 = .ok (.istore_n 3, 1) := by decide +kernel
theorem dX8_tell_34 : decode cX8_tell 34 = .ok (.iload_n 3, 1) := by decide +kernel
theorem dX8_tell_35 : decode cX8_tell 35 = .ok (.ifCond .ge 9, 3) := by decide +kernel
theorem dX8_tell_38 : decode cX8_tell 38 = .ok (.aload_n 0, 1) := by decide +kernel
theorem dX8_tell_39 : decode cX8_tell 39 = .ok (.iconst 2, 1) := by decide +kernel
theorem dX8_tell_40 : decode cX8_tell 40 = .ok (.invokevirtual 101, 3) := by decide +kernel
theorem dX8_tell_43 : decode cX8_tell 43 = .ok (.ireturn, 1) := by decide +kernel
theorem dX8_tell_44 : decode cX8_tell 44 = .ok (.iload_n 2, 1) := by decide +kernel
theorem dX8_tell_45 : decode cX8_tell 45 = .ok (.tableswitch 146 0 8 #[51, 57, 59, 69, 80, 91, 102, 113, 135], 51) := by decide +kernel
theorem dX8_tell_96 : decode cX8_tell 96 = .ok (.aload_n 0, 1) := by decide +kernel
theorem dX8_tell_97 : decode cX8_tell 97 = .ok (.iload_n 3, 1) := by decide +kernel
theorem dX8_tell_98 : decode cX8_tell 98 = .ok (.invokevirtual 78, 3) := by decide +kernel
theorem dX8_tell_101 : decode cX8_tell 101 = .ok (.ireturn, 1) := by decide +kernel
theorem dX8_tell_102 : decode cX8_tell 102 = .ok (.iload_n 3, 1) := by decide +kernel
theorem dX8_tell_103 : decode cX8_tell 103 = .ok (.ireturn, 1) := by decide +kernel
theorem dX8_tell_104 : decode cX8_tell 104 = .ok (.aload_n 0, 1) := by decide +kernel
theorem dX8_tell_105 : decode cX8_tell 105 = .ok (.getfield 16, 3) := by decide +kernel
theorem dX8_tell_108 : decode cX8_tell 108 = .ok (.bipush 120, 2) := by decide +kernel
theorem dX8_tell_110 : decode cX8_tell 110 = .ok (.iload_n 3, 1) := by decide +kernel
theorem dX8_tell_111 : decode cX8_tell 111 = .ok (.iadd, 1) := by decide +kernel
theorem dX8_tell_112 : decode cX8_tell 112 = .ok (.iaload, 1) := by decide +kernel
theorem dX8_tell_113 : decode cX8_tell 113 = .ok (.ireturn, 1) := by decide +kernel
theorem dX8_tell_114 : decode cX8_tell 114 = .ok (.aload_n 0, 1) := by decide +kernel
theorem dX8_tell_115 : decode cX8_tell 115 = .ok (.getfield 16, 3) := by decide +kernel
theorem dX8_tell_118 : decode cX8_tell 118 = .ok (.sipush 180, 3) := by decide +kernel
theorem dX8_tell_121 : decode cX8_tell 121 = .ok (.iload_n 3, 1) := by decide +kernel
theorem dX8_tell_122 : decode cX8_tell 122 = .ok (.iadd, 1) := by decide +kernel
theorem dX8_tell_123 : decode cX8_tell 123 = .ok (.iaload, 1) := by decide +kernel
theorem dX8_tell_124 : decode cX8_tell 124 = .ok (.ireturn, 1) := by decide +kernel
theorem dX8_tell_125 : decode cX8_tell 125 = .ok (.aload_n 0, 1) := by decide +kernel
theorem dX8_tell_126 : decode cX8_tell 126 = .ok (.getfield 16, 3) := by decide +kernel
theorem dX8_tell_129 : decode cX8_tell 129 = .ok (.sipush 240, 3) := by decide +kernel
theorem dX8_tell_132 : decode cX8_tell 132 = .ok (.iload_n 3, 1) := by decide +kernel
theorem dX8_tell_133 : decode cX8_tell 133 = .ok (.iadd, 1) := by decide +kernel
theorem dX8_tell_134 : decode cX8_tell 134 = .ok (.iaload, 1) := by decide +kernel
theorem dX8_tell_135 : decode cX8_tell 135 = .ok (.ireturn, 1) := by decide +kernel
theorem dX8_tell_136 : decode cX8_tell 136 = .ok (.aload_n 0, 1) := by decide +kernel
theorem dX8_tell_137 : decode cX8_tell 137 = .ok (.getfield 16, 3) := by decide +kernel
theorem dX8_tell_140 : decode cX8_tell 140 = .ok (.sipush 300, 3) := by decide +kernel
theorem dX8_tell_143 : decode cX8_tell 143 = .ok (.iload_n 3, 1) := by decide +kernel
theorem dX8_tell_144 : decode cX8_tell 144 = .ok (.iadd, 1) := by decide +kernel
theorem dX8_tell_145 : decode cX8_tell 145 = .ok (.iaload, 1) := by decide +kernel
theorem dX8_tell_146 : decode cX8_tell 146 = .ok (.ireturn, 1) := by decide +kernel
theorem dX8_tell_147 : decode cX8_tell 147 = .ok (.aload_n 0, 1) := by decide +kernel
theorem dX8_tell_148 : decode cX8_tell 148 = .ok (.getfield 16, 3) := by decide +kernel
theorem dX8_tell_151 : decode cX8_tell 151 = .ok (.sipush 360, 3) := by decide +kernel
theorem dX8_tell_154 : decode cX8_tell 154 = .ok (.iload_n 3, 1) := by decide +kernel
theorem dX8_tell_155 : decode cX8_tell 155 = .ok (.iadd, 1) := by decide +kernel
theorem dX8_tell_156 : decode cX8_tell 156 = .ok (.iaload, 1) := by decide +kernel
theorem dX8_tell_157 : decode cX8_tell 157 = .ok (.ireturn, 1) := by decide +kernel
theorem dX8_tell_158 : decode cX8_tell 158 = .ok (.aload_n 0, 1) := by decide +kernel
theorem dX8_tell_159 : decode cX8_tell 159 = .ok (.aload_n 0, 1) := by decide +kernel
theorem dX8_tell_160 : decode cX8_tell 160 = .ok (.iload_n 3, 1) := by decide +kernel
theorem dX8_tell_161 : decode cX8_tell 161 = .ok (.invokevirtual 78, 3) := by decide +kernel
theorem dX8_tell_164 : decode cX8_tell 164 = .ok (.invokevirtual 65, 3) := by decide +kernel
theorem dX8_tell_167 : decode cX8_tell 167 = .ok (.ifCond .eq 11, 3) := by decide +kernel
theorem dX8_tell_170 : decode cX8_tell 170 = .ok (.aload_n 0, 1) := by decide +kernel
theorem dX8_tell_171 : decode cX8_tell 171 = .ok (.iload_n 3, 1) := by decide +kernel
theorem dX8_tell_172 : decode cX8_tell 172 = .ok (.invokevirtual 225, 3) := by decide +kernel
theorem dX8_tell_175 : decode cX8_tell 175 = .ok (.goto 4, 3) := by decide +kernel
theorem dX8_tell_178 : decode cX8_tell 178 = .ok (.iconst 0, 1) := by decide +kernel
theorem dX8_tell_179 : decode cX8_tell 179 = .ok (.ireturn, 1) := by decide +kernel
theorem dX8_tell_180 : decode cX8_tell 180 = .ok (.aload_n 0, 1) := by decide +kernel
theorem dX8_tell_181 : decode cX8_tell 181 = .ok (.getfield 16, 3) := by decide +kernel
theorem dX8_tell_184 : decode cX8_tell 184 = .ok (.sipush 420, 3) := by decide +kernel
theorem dX8_tell_187 : decode cX8_tell 187 = .ok (.iload_n 3, 1) := by decide +kernel
theorem dX8_tell_188 : decode cX8_tell 188 = .ok (.iadd, 1) := by decide +kernel
theorem dX8_tell_189 : decode cX8_tell 189 = .ok (.iaload, 1) := by decide +kernel
theorem dX8_tell_190 : decode cX8_tell 190 = .ok (.ireturn, 1) := by decide +kernel
theorem dX8_tell_191 : decode cX8_tell 191 = .ok (.aload_n 0, 1) := by decide +kernel
theorem dX8_tell_192 : decode cX8_tell 192 = .ok (.getfield 16, 3) := by decide +kernel
theorem dX8_tell_195 : decode cX8_tell 195 = .ok (.sipush 480, 3) := by decide +kernel
theorem dX8_tell_198 : decode cX8_tell 198 = .ok (.iload_n 3, 1) := by decide +kernel
theorem dX8_tell_199 : decode cX8_tell 199 = .ok (.iadd, 1) := by decide +kernel
theorem dX8_tell_200 : decode cX8_tell 200 = .ok (.iaload, 1) := by decide +kernel
theorem dX8_tell_201 : decode cX8_tell 201 = .ok (.ireturn, 1) := by decide +kernel
theorem dX8_why_0 : decode cX8_why 0 = .ok (.aload_n 0, 1) := by decide +kernel
theorem dX8_why_1 : decode cX8_why 1 = .ok (.getfield 71, 3) := by decide +kernel
theorem dX8_why_4 : decode cX8_why 4 = .ok (.ireturn, 1) := by decide +kernel
