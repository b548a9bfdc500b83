theorem dX9_init_0 : decode cX9_init 0 = .ok (.aload_n 0, 1) := by decide +kernel
theorem dX9_init_1 : decode cX9_init 1 = .ok (.invokespecial 1, 3) := by decide +kernel
theorem dX9_init_4 : decode cX9_init 4 = .ok (.aload_n 0, 1) := by decide +kernel
theorem dX9_init_5 : decode cX9_init 5 = .ok (.sipush 13326, 3) := by decide +kernel
theorem dX9_init_8 : decode cX9_init 8 = .ok (.newarray .int, 2) := by decide +kernel
theorem dX9_init_10 : decode cX9_init 10 = .ok (.putfield 7, 3) := by decide +kernel
theorem dX9_init_13 : decode cX9_init 13 = .ok (.aload_n 0, 1) := by decide +kernel
theorem dX9_init_14 : decode cX9_init 14 = .ok (.sipush 13326, 3) := by decide +kernel
theorem dX9_init_17 : decode cX9_init 17 = .ok (.newarray .int, 2) := by decide +kernel
theorem dX9_init_19 : decode cX9_init 19 = .ok (.putfield 13, 3) := by decide +kernel
theorem dX9_init_22 : decode cX9_init 22 = .ok (.aload_n 0, 1) := by decide +kernel
theorem dX9_init_23 : decode cX9_init 23 = .ok (.sipush 26652, 3) := by decide +kernel
theorem dX9_init_26 : decode cX9_init 26 = .ok (.newarray .int, 2) := by decide +kernel
theorem dX9_init_28 : decode cX9_init 28 = .ok (.putfield 16, 3) := by decide +kernel
theorem dX9_init_31 : decode cX9_init 31 = .ok (.aload_n 0, 1) := by decide +kernel
theorem dX9_init_32 : decode cX9_init 32 = .ok (.iconst 2, 1) := by decide +kernel
theorem dX9_init_33 : decode cX9_init 33 = .ok (.newarray .boolean, 2) := by decide +kernel
theorem dX9_init_35 : decode cX9_init 35 = .ok (.putfield 19, 3) := by decide +kernel
theorem dX9_init_38 : decode cX9_init 38 = .ok (.aload_n 0, 1) := by decide +kernel
theorem dX9_init_39 : decode cX9_init 39 = .ok (.bipush 31, 2) := by decide +kernel
theorem dX9_init_41 : decode cX9_init 41 = .ok (.newarray .int, 2) := by decide +kernel
theorem dX9_init_43 : decode cX9_init 43 = .ok (.putfield 23, 3) := by decide +kernel
theorem dX9_init_46 : decode cX9_init 46 = .ok (.aload_n 0, 1) := by decide +kernel
theorem dX9_init_47 : decode cX9_init 47 = .ok (.bipush 31, 2) := by decide +kernel
theorem dX9_init_49 : decode cX9_init 49 = .ok (.newarray .int, 2) := by decide +kernel
theorem dX9_init_51 : decode cX9_init 51 = .ok (.putfield 26, 3) := by decide +kernel
theorem dX9_init_54 : decode cX9_init 54 = .ok (.aload_n 0, 1) := by decide +kernel
theorem dX9_init_55 : decode cX9_init 55 = .ok (.bipush 31, 2) := by decide +kernel
theorem dX9_init_57 : decode cX9_init 57 = .ok (.newarray .int, 2) := by decide +kernel
theorem dX9_init_59 : decode cX9_init 59 = .ok (.putfield 29, 3) := by decide +kernel
theorem dX9_init_62 : decode cX9_init 62 = .ok (.aload_n 0, 1) := by decide +kernel
theorem dX9_init_63 : decode cX9_init 63 = .ok (.bipush 31, 2) := by decide +kernel
theorem dX9_init_65 : decode cX9_init 65 = .ok (.newarray .int, 2) := by decide +kernel
theorem dX9_init_67 : decode cX9_init 67 = .ok (.putfield 32, 3) := by decide +kernel
theorem dX9_init_70 : decode cX9_init 70 = .ok (.aload_n 0, 1) := by decide +kernel
theorem dX9_init_71 : decode cX9_init 71 = .ok (.bipush 30, 2) := by decide +kernel
theorem dX9_init_73 : decode cX9_init 73 = .ok (.newarray .int, 2) := by decide +kernel
theorem dX9_init_75 : decode cX9_init 75 = .ok (.putfield 35, 3) := by decide +kernel
theorem dX9_init_78 : decode cX9_init 78 = .ok (.aload_n 0, 1) := by decide +kernel
theorem dX9_init_79 : decode cX9_init 79 = .ok (.bipush 31, 2) := by decide +kernel
theorem dX9_init_81 : decode cX9_init 81 = .ok (.newarray .boolean, 2) := by decide +kernel
theorem dX9_init_83 : decode cX9_init 83 = .ok (.putfield 38, 3) := by decide +kernel
theorem dX9_init_86 : decode cX9_init 86 = .ok (.aload_n 0, 1) := by decide +kernel
theorem dX9_init_87 : decode cX9_init 87 = .ok (.bipush 31, 2) := by decide +kernel
theorem dX9_init_89 : decode cX9_init 89 = .ok (.newarray .boolean, 2) := by decide +kernel
theorem dX9_init_91 : decode cX9_init 91 = .ok (.putfield 41, 3) := by decide +kernel
theorem dX9_init_94 : decode cX9_init 94 = .ok (.aload_n 0, 1) := by decide +kernel
theorem dX9_init_95 : decode cX9_init 95 = .ok (.bipush 31, 2) := by decide +kernel
theorem dX9_init_97 : decode cX9_init 97 = .ok (.newarray .boolean, 2) := by decide +kernel
theorem dX9_init_99 : decode cX9_init 99 = .ok (.putfield 44, 3) := by decide +kernel
theorem dX9_init_102 : decode cX9_init 102 = .ok (.aload_n 0, 1) := by decide +kernel
theorem dX9_init_103 : decode cX9_init 103 = .ok (.sipush 400, 3) := by decide +kernel
theorem dX9_init_106 : decode cX9_init 106 = .ok (.newarray .int, 2) := by decide +kernel
theorem dX9_init_108 : decode cX9_init 108 = .ok (.putfield 47, 3) := by decide +kernel
theorem dX9_init_111 : decode cX9_init 111 = .ok (.aload_n 0, 1) := by decide +kernel
theorem dX9_init_112 : decode cX9_init 112 = .ok (.sipush 402, 3) := by decide +kernel
theorem dX9_init_115 : decode cX9_init 115 = .ok (.newarray .int, 2) := by decide +kernel
theorem dX9_init_117 : decode cX9_init 117 = .ok (.putfield 50, 3) := by decide +kernel
theorem dX9_init_120 : decode cX9_init 120 = .ok (.aload_n 0, 1) := by decide +kernel
theorem dX9_init_121 : decode cX9_init 121 = .ok (.sipush 400, 3) := by decide +kernel
theorem dX9_init_124 : decode cX9_init 124 = .ok (.newarray .byte, 2) := by decide +kernel
theorem dX9_init_126 : decode cX9_init 126 = .ok (.putfield 53, 3) := by decide +kernel
theorem dX9_init_129 : decode cX9_init 129 = .ok (.aload_n 0, 1) := by decide +kernel
theorem dX9_init_130 : decode cX9_init 130 = .ok (.bipush 31, 2) := by decide +kernel
theorem dX9_init_132 : decode cX9_init 132 = .ok (.newarray .boolean, 2) := by decide +kernel
theorem dX9_init_134 : decode cX9_init 134 = .ok (.putfield 57, 3) := by decide +kernel
theorem dX9_init_137 : decode cX9_init 137 = .ok (.aload_n 0, 1) := by decide +kernel
theorem dX9_init_138 : decode cX9_init 138 = .ok (.bipush 8, 2) := by decide +kernel
theorem dX9_init_140 : decode cX9_init 140 = .ok (.newarray .int, 2) := by decide +kernel
theorem dX9_init_142 : decode cX9_init 142 = .ok (.putfield 60, 3) := by decide +kernel
theorem dX9_init_145 : decode cX9_init 145 = .ok (.aload_n 0, 1) := by decide +kernel
theorem dX9_init_146 : decode cX9_init 146 = .ok (.getfield 7, 3) := by decide +kernel
theorem dX9_init_149 : decode cX9_init 149 = .ok (.bipush 12, 2) := by decide +kernel
theorem dX9_init_151 : decode cX9_init 151 = .ok (.iconst (-1), 1) := by decide +kernel
theorem dX9_init_152 : decode cX9_init 152 = .ok (.iastore, 1) := by decide +kernel
theorem dX9_init_153 : decode cX9_init 153 = .ok (.aload_n 0, 1) := by decide +kernel
theorem dX9_init_154 : decode cX9_init 154 = .ok (.getfield 7, 3) := by decide +kernel
theorem dX9_init_157 : decode cX9_init 157 = .ok (.bipush 13, 2) := by decide +kernel
theorem dX9_init_159 : decode cX9_init 159 = .ok (.iconst (-1), 1) := by decide +kernel
theorem dX9_init_160 : decode cX9_init 160 = .ok (.iastore, 1) := by decide +kernel
theorem dX9_init_161 : decode cX9_init 161 = .ok (.aload_n 0, 1) := by decide +kernel
theorem dX9_init_162 : decode cX9_init 162 = .ok (.getfield 7, 3) := by decide +kernel
theorem dX9_init_165 : decode cX9_init 165 = .ok (.bipush 14, 2) := by decide +kernel
theorem dX9_init_167 : decode cX9_init 167 = .ok (.iconst (-1), 1) := by decide +kernel
theorem dX9_init_168 : decode cX9_init 168 = .ok (.iastore, 1) := by decide +kernel
theorem dX9_init_169 : decode cX9_init 169 = .ok (.aload_n 0, 1) := by decide +kernel
theorem dX9_init_170 : decode cX9_init 170 = .ok (.getfield 7, 3) := by decide +kernel
theorem dX9_init_173 : decode cX9_init 173 = .ok (.bipush 15, 2) := by decide +kernel
theorem dX9_init_175 : decode cX9_init 175 = .ok (.iconst (-1), 1) := by decide +kernel
theorem dX9_init_176 : decode cX9_init 176 = .ok (.iastore, 1) := by decide +kernel
theorem dX9_init_177 : decode cX9_init 177 = .ok (.return_, 1) := by decide +kernel
theorem dX9_thrown_0 : decode cX9_thrown 0 = .ok (.aload_n 0, 1) := by decide +kernel
theorem dX9_thrown_1 : decode cX9_thrown 1 = .ok (.getfield 63, 3) := by decide +kernel
theorem dX9_thrown_4 : decode cX9_thrown 4 = .ok (.ireturn, 1) := by decide +kernel
theorem dX9_isIn_0 : decode cX9_isIn 0 = .ok (.iload_n 0, 1) := by decide +kernel
theorem dX9_isIn_1 : decode cX9_isIn 1 = .ok (.iload_n 1, 1) := by decide +kernel
theorem dX9_isIn_2 : decode cX9_isIn 2 = .ok (.if_icmp .lt 12, 3) := by decide +kernel
theorem dX9_isIn_5 : decode cX9_isIn 5 = .ok (.iload_n 0, 1) := by decide +kernel
theorem dX9_isIn_6 : decode cX9_isIn 6 = .ok (.iload_n 2, 1) := by decide +kernel
theorem dX9_isIn_7 : decode cX9_isIn 7 = .ok (.if_icmp .gt 7, 3) := by decide +kernel
theorem dX9_isIn_10 : decode cX9_isIn 10 = .ok (.iconst 1, 1) := by decide +kernel
theorem dX9_isIn_11 : decode cX9_isIn 11 = .ok (.goto 4, 3) := by decide +kernel
theorem dX9_isIn_14 : decode cX9_isIn 14 = .ok (.iconst 0, 1) := by decide +kernel
theorem dX9_isIn_15 : decode cX9_isIn 15 = .ok (.ireturn, 1) := by decide +kernel
theorem dX9_size_0 : decode cX9_size 0 = .ok (.iload_n 0, 1) := by decide +kernel
theorem dX9_size_1 : decode cX9_size 1 = .ok (.ifCond .ge 8, 3) := by decide +kernel
theorem dX9_size_4 : decode cX9_size 4 = .ok (.iload_n 0, 1) := by decide +kernel
theorem dX9_size_5 : decode cX9_size 5 = .ok (.ineg, 1) := by decide +kernel
theorem dX9_size_6 : decode cX9_size 6 = .ok (.goto 4, 3) := by decide +kernel
theorem dX9_size_9 : decode cX9_size 9 = .ok (.iload_n 0, 1) := by decide +kernel
theorem dX9_size_10 : decode cX9_size 10 = .ok (.ireturn, 1) := by decide +kernel
theorem dX9_isVariable_0 : decode cX9_isVariable 0 = .ok (.iload_n 1, 1) := by decide +kernel
theorem dX9_isVariable_1 : decode cX9_isVariable 1 = .ok (.iconst 1, 1) := by decide +kernel
theorem dX9_isVariable_2 : decode cX9_isVariable 2 = .ok (.aload_n 0, 1) := by decide +kernel
theorem dX9_isVariable_3 : decode cX9_isVariable 3 = .ok (.getfield 7, 3) := by decide +kernel
theorem dX9_isVariable_6 : decode cX9_isVariable 6 = .ok (.iconst 0, 1) := by decide +kernel
theorem dX9_isVariable_7 : decode cX9_isVariable 7 = .ok (.iaload, 1) := by decide +kernel
theorem dX9_isVariable_8 : decode cX9_isVariable 8 = .ok (.invokestatic 67, 3) := by decide +kernel
theorem dX9_isVariable_11 : decode cX9_isVariable 11 = .ok (.ireturn, 1) := by decide +kernel
theorem dX9_isLiteral_0 : decode cX9_isLiteral 0 = .ok (.iload_n 1, 1) := by decide +kernel
theorem dX9_isLiteral_1 : decode cX9_isLiteral 1 = .ok (.bipush (-30), 2) := by decide +kernel
theorem dX9_isLiteral_3 : decode cX9_isLiteral 3 = .ok (.if_icmp .lt 24, 3) := by decide +kernel
theorem dX9_isLiteral_6 : decode cX9_isLiteral 6 = .ok (.iload_n 1, 1) := by decide +kernel
theorem dX9_isLiteral_7 : decode cX9_isLiteral 7 = .ok (.bipush 30, 2) := by decide +kernel
theorem dX9_isLiteral_9 : decode cX9_isLiteral 9 = .ok (.if_icmp .gt 18, 3) := by decide +kernel
theorem dX9_isLiteral_12 : decode cX9_isLiteral 12 = .ok (.aload_n 0, 1) := by decide +kernel
theorem dX9_isLiteral_13 : decode cX9_isLiteral 13 = .ok (.iload_n 1, 1) := by decide +kernel
theorem dX9_isLiteral_14 : decode cX9_isLiteral 14 = .ok (.invokestatic 71, 3) := by decide +kernel
theorem dX9_isLiteral_17 : decode cX9_isLiteral 17 = .ok (.invokevirtual 75, 3) := by decide +kernel
theorem dX9_isLiteral_20 : decode cX9_isLiteral 20 = .ok (.ifCond .eq 7, 3) := by decide +kernel
theorem dX9_isLiteral_23 : decode cX9_isLiteral 23 = .ok (.iconst 1, 1) := by decide +kernel
theorem dX9_isLiteral_24 : decode cX9_isLiteral 24 = .ok (.goto 4, 3) := by decide +kernel
theorem dX9_isLiteral_27 : decode cX9_isLiteral 27 = .ok (.iconst 0, 1) := by decide +kernel
theorem dX9_isLiteral_28 : decode cX9_isLiteral 28 = .ok (.ireturn, 1) := by decide +kernel
theorem dX9_literal_0 : decode cX9_literal 0 = .ok (.aload_n 0, 1) := by decide +kernel
theorem dX9_literal_1 : decode cX9_literal 1 = .ok (.getfield 7, 3) := by decide +kernel
theorem dX9_literal_4 : decode cX9_literal 4 = .ok (.sipush 1326, 3) := by decide +kernel
theorem dX9_literal_7 : decode cX9_literal 7 = .ok (.bipush 30, 2) := by decide +kernel
theorem dX9_literal_9 : decode cX9_literal 9 = .ok (.iload_n 1, 1) := by decide +kernel
theorem dX9_literal_10 : decode cX9_literal 10 = .ok (.imul, 1) := by decide +kernel
theorem dX9_literal_11 : decode cX9_literal 11 = .ok (.iadd, 1) := by decide +kernel
theorem dX9_literal_12 : decode cX9_literal 12 = .ok (.iload_n 2, 1) := by decide +kernel
theorem dX9_literal_13 : decode cX9_literal 13 = .ok (.iadd, 1) := by decide +kernel
theorem dX9_literal_14 : decode cX9_literal 14 = .ok (.iaload, 1) := by decide +kernel
theorem dX9_literal_15 : decode cX9_literal 15 = .ok (.ireturn, 1) := by decide +kernel
theorem dX9_sizeOf_0 : decode cX9_sizeOf 0 = .ok (.aload_n 0, 1) := by decide +kernel
theorem dX9_sizeOf_1 : decode cX9_sizeOf 1 = .ok (.getfield 7, 3) := by decide +kernel
theorem dX9_sizeOf_4 : decode cX9_sizeOf 4 = .ok (.bipush 125, 2) := by decide +kernel
theorem dX9_sizeOf_6 : decode cX9_sizeOf 6 = .ok (.iload_n 1, 1) := by decide +kernel
theorem dX9_sizeOf_7 : decode cX9_sizeOf 7 = .ok (.iadd, 1) := by decide +kernel
theorem dX9_sizeOf_8 : decode cX9_sizeOf 8 = .ok (.iaload, 1) := by decide +kernel
theorem dX9_sizeOf_9 : decode cX9_sizeOf 9 = .ok (.ireturn, 1) := by decide +kernel
theorem dX9_isGone_0 : decode cX9_isGone 0 = .ok (.aload_n 0, 1) := by decide +kernel
theorem dX9_isGone_1 : decode cX9_isGone 1 = .ok (.getfield 7, 3) := by decide +kernel
theorem dX9_isGone_4 : decode cX9_isGone 4 = .ok (.sipush 525, 3) := by decide +kernel
theorem dX9_isGone_7 : decode cX9_isGone 7 = .ok (.iload_n 1, 1) := by decide +kernel
theorem dX9_isGone_8 : decode cX9_isGone 8 = .ok (.iadd, 1) := by decide +kernel
theorem dX9_isGone_9 : decode cX9_isGone 9 = .ok (.iaload, 1) := by decide +kernel
theorem dX9_isGone_10 : decode cX9_isGone 10 = .ok (.iconst 2, 1) := by decide +kernel
theorem dX9_isGone_11 : decode cX9_isGone 11 = .ok (.iand, 1) := by decide +kernel
theorem dX9_isGone_12 : decode cX9_isGone 12 = .ok (.ifCond .eq 7, 3) := by decide +kernel
theorem dX9_isGone_15 : decode cX9_isGone 15 = .ok (.iconst 1, 1) := by decide +kernel
theorem dX9_isGone_16 : decode cX9_isGone 16 = .ok (.goto 4, 3) := by decide +kernel
theorem dX9_isGone_19 : decode cX9_isGone 19 = .ok (.iconst 0, 1) := by decide +kernel
theorem dX9_isGone_20 : decode cX9_isGone 20 = .ok (.ireturn, 1) := by decide +kernel
theorem dX9_isLearnt_0 : decode cX9_isLearnt 0 = .ok (.aload_n 0, 1) := by decide +kernel
theorem dX9_isLearnt_1 : decode cX9_isLearnt 1 = .ok (.getfield 7, 3) := by decide +kernel
theorem dX9_isLearnt_4 : decode cX9_isLearnt 4 = .ok (.sipush 525, 3) := by decide +kernel
theorem dX9_isLearnt_7 : decode cX9_isLearnt 7 = .ok (.iload_n 1, 1) := by decide +kernel
theorem dX9_isLearnt_8 : decode cX9_isLearnt 8 = .ok (.iadd, 1) := by decide +kernel
theorem dX9_isLearnt_9 : decode cX9_isLearnt 9 = .ok (.iaload, 1) := by decide +kernel
theorem dX9_isLearnt_10 : decode cX9_isLearnt 10 = .ok (.iconst 1, 1) := by decide +kernel
theorem dX9_isLearnt_11 : decode cX9_isLearnt 11 = .ok (.iand, 1) := by decide +kernel
theorem dX9_isLearnt_12 : decode cX9_isLearnt 12 = .ok (.ifCond .eq 7, 3) := by decide +kernel
theorem dX9_isLearnt_15 : decode cX9_isLearnt 15 = .ok (.iconst 1, 1) := by decide +kernel
theorem dX9_isLearnt_16 : decode cX9_isLearnt 16 = .ok (.goto 4, 3) := by decide +kernel
theorem dX9_isLearnt_19 : decode cX9_isLearnt 19 = .ok (.iconst 0, 1) := by decide +kernel
theorem dX9_isLearnt_20 : decode cX9_isLearnt 20 = .ok (.ireturn, 1) := by decide +kernel
theorem dX9_grows_0 : decode cX9_grows 0 = .ok (.iload_n 1, 1) := by decide +kernel
theorem dX9_grows_1 : decode cX9_grows 1 = .ok (.iconst 1, 1) := by decide +kernel
theorem dX9_grows_2 : decode cX9_grows 2 = .ok (.if_icmp .lt 16, 3) := by decide +kernel
theorem dX9_grows_5 : decode cX9_grows 5 = .ok (.iload_n 1, 1) := by decide +kernel
theorem dX9_grows_6 : decode cX9_grows 6 = .ok (.bipush 30, 2) := by decide +kernel
theorem dX9_grows_8 : decode cX9_grows 8 = .ok (.aload_n 0, 1) := by decide +kernel
theorem dX9_grows_9 : decode cX9_grows 9 = .ok (.getfield 7, 3) := by decide +kernel
theorem dX9_grows_12 : decode cX9_grows 12 = .ok (.iconst 0, 1) := by decide +kernel
theorem dX9_grows_13 : decode cX9_grows 13 = .ok (.iaload, 1) := by decide +kernel
theorem dX9_grows_14 : decode cX9_grows 14 = .ok (.isub, 1) := by decide +kernel
theorem dX9_grows_15 : decode cX9_grows 15 = .ok (.if_icmp .le 5, 3) := by decide +kernel
theorem dX9_grows_18 : decode cX9_grows 18 = .ok (.iconst (-1), 1) := by decide +kernel
theorem dX9_grows_19 : decode cX9_grows 19 = .ok (.ireturn, 1) := by decide +kernel
theorem dX9_grows_20 : decode cX9_grows 20 = .ok (.aload_n 0, 1) := by decide +kernel
theorem dX9_grows_21 : decode cX9_grows 21 = .ok (.getfield 7, 3) := by decide +kernel
theorem dX9_grows_24 : decode cX9_grows 24 = .ok (.iconst 0, 1) := by decide +kernel
theorem dX9_grows_25 : decode cX9_grows 25 = .ok (.dup2, 1) := by decide +kernel
theorem dX9_grows_26 : decode cX9_grows 26 = .ok (.iaload, 1) := by decide +kernel
theorem dX9_grows_27 : decode cX9_grows 27 = .ok (.iload_n 1, 1) := by decide +kernel
theorem dX9_grows_28 : decode cX9_grows 28 = .ok (.iadd, 1) := by decide +kernel
theorem dX9_grows_29 : decode cX9_grows 29 = .ok (.iastore, 1) := by decide +kernel
theorem dX9_grows_30 : decode cX9_grows 30 = .ok (.aload_n 0, 1) := by decide +kernel
theorem dX9_grows_31 : decode cX9_grows 31 = .ok (.getfield 7, 3) := by decide +kernel
theorem dX9_grows_34 : decode cX9_grows 34 = .ok (.iconst 0, 1) := by decide +kernel
theorem dX9_grows_35 : decode cX9_grows 35 = .ok (.iaload, 1) := by decide +kernel
theorem dX9_grows_36 : decode cX9_grows 36 = .ok (.ireturn, 1) := by decide +kernel
theorem dX9_grow_0 : decode cX9_grow 0 = .ok (.aload_n 0, 1) := by decide +kernel
theorem dX9_grow_1 : decode cX9_grow 1 = .ok (.iconst 0, 1) := by decide +kernel
theorem dX9_grow_2 : decode cX9_grow 2 = .ok (.putfield 63, 3) := by decide +kernel
theorem dX9_grow_5 : decode cX9_grow 5 = .ok (.aload_n 0, 1) := by decide +kernel
theorem dX9_grow_6 : decode cX9_grow 6 = .ok (.iload_n 1, 1) := by decide +kernel
theorem dX9_grow_7 : decode cX9_grow 7 = .ok (.invokevirtual 79, 3) := by decide +kernel
theorem dX9_grow_10 : decode cX9_grow 10 = .ok (.ireturn, 1) := by decide +kernel
theorem dX9_add_0 : decode cX9_add 0 = .ok (.aload_n 0, 1) := by decide +kernel
theorem dX9_add_1 : decode cX9_add 1 = .ok (.iconst 0, 1) := by decide +kernel
theorem dX9_add_2 : decode cX9_add 2 = .ok (.putfield 63, 3) := by decide +kernel
theorem dX9_add_5 : decode cX9_add 5 = .ok (.aload_n 0, 1) := by decide +kernel
theorem dX9_add_6 : decode cX9_add 6 = .ok (.getfield 7, 3) := by decide +kernel
theorem dX9_add_9 : decode cX9_add 9 = .ok (.iconst 4, 1) := by decide +kernel
theorem dX9_add_10 : decode cX9_add 10 = .ok (.iaload, 1) := by decide +kernel
theorem dX9_add_11 : decode cX9_add 11 = .ok (.bipush 8, 2) := by decide +kernel
theorem dX9_add_13 : decode cX9_add 13 = .ok (.if_icmp .eq 11, 3) := by decide +kernel
theorem dX9_add_16 : decode cX9_add 16 = .ok (.aload_n 0, 1) := by decide +kernel
theorem dX9_add_17 : decode cX9_add 17 = .ok (.iload_n 1, 1) := by decide +kernel
theorem dX9_add_18 : decode cX9_add 18 = .ok (.invokevirtual 82, 3) := by decide +kernel
theorem dX9_add_21 : decode cX9_add 21 = .ok (.ifCond .ne 5, 3) := by decide +kernel
theorem dX9_add_24 : decode cX9_add 24 = .ok (.iconst (-1), 1) := by decide +kernel
theorem dX9_add_25 : decode cX9_add 25 = .ok (.ireturn, 1) := by decide +kernel
theorem dX9_add_26 : decode cX9_add 26 = .ok (.iconst 0, 1) := by decide +kernel
theorem dX9_add_27 : decode cX9_add 27 = .ok (.istore_n 2, 1) := by decide +kernel
theorem dX9_add_28 : decode cX9_add 28 = .ok (.iload_n 2, 1) := by decide +kernel
theorem dX9_add_29 : decode cX9_add 29 = .ok (.aload_n 0, 1) := by decide +kernel
theorem dX9_add_30 : decode cX9_add 30 = .ok (.getfield 7, 3) := by decide +kernel
theorem dX9_add_33 : decode cX9_add 33 = .ok (.iconst 4, 1) := by decide +kernel
theorem dX9_add_34 : decode cX9_add 34 = .ok (.iaload, 1) := by decide +kernel
theorem dX9_add_35 : decode cX9_add 35 = .ok (.if_icmp .ge 30, 3) := by decide +kernel
theorem dX9_add_38 : decode cX9_add 38 = .ok (.aload_n 0, 1) := by decide +kernel
theorem dX9_add_39 : decode cX9_add 39 = .ok (.getfield 7, 3) := by decide +kernel
theorem dX9_add_42 : decode cX9_add 42 = .ok (.bipush 24, 2) := by decide +kernel
theorem dX9_add_44 : decode cX9_add 44 = .ok (.iload_n 2, 1) := by decide +kernel
theorem dX9_add_45 : decode cX9_add 45 = .ok (.iadd, 1) := by decide +kernel
theorem dX9_add_46 : decode cX9_add 46 = .ok (.iaload, 1) := by decide +kernel
theorem dX9_add_47 : decode cX9_add 47 = .ok (.invokestatic 71, 3) := by decide +kernel
theorem dX9_add_50 : decode cX9_add 50 = .ok (.iload_n 1, 1) := by decide +kernel
theorem dX9_add_51 : decode cX9_add 51 = .ok (.invokestatic 71, 3) := by decide +kernel
theorem dX9_add_54 : decode cX9_add 54 = .ok (.if_icmp .ne 5, 3) := by decide +kernel
theorem dX9_add_57 : decode cX9_add 57 = .ok (.iconst (-1), 1) := by decide +kernel
theorem dX9_add_58 : decode cX9_add 58 = .ok (.ireturn, 1) := by decide +kernel
theorem dX9_add_59 : decode cX9_add 59 = .ok (.iinc 2 1, 3) := by decide +kernel
theorem dX9_add_62 : decode cX9_add 62 = .ok (.goto (-34), 3) := by decide +kernel
theorem dX9_add_65 : decode cX9_add 65 = .ok (.aload_n 0, 1) := by decide +kernel
theorem dX9_add_66 : decode cX9_add 66 = .ok (.getfield 7, 3) := by decide +kernel
theorem dX9_add_69 : decode cX9_add 69 = .ok (.bipush 24, 2) := by decide +kernel
theorem dX9_add_71 : decode cX9_add 71 = .ok (.aload_n 0, 1) := by decide +kernel
theorem dX9_add_72 : decode cX9_add 72 = .ok (.getfield 7, 3) := by decide +kernel
theorem dX9_add_75 : decode cX9_add 75 = .ok (.iconst 4, 1) := by decide +kernel
theorem dX9_add_76 : decode cX9_add 76 = .ok (.iaload, 1) := by decide +kernel
theorem dX9_add_77 : decode cX9_add 77 = .ok (.iadd, 1) := by decide +kernel
theorem dX9_add_78 : decode cX9_add 78 = .ok (.iload_n 1, 1) := by decide +kernel
theorem dX9_add_79 : decode cX9_add 79 = .ok (.iastore, 1) := by decide +kernel
theorem dX9_add_80 : decode cX9_add 80 = .ok (.aload_n 0, 1) := by decide +kernel
theorem dX9_add_81 : decode cX9_add 81 = .ok (.getfield 7, 3) := by decide +kernel
theorem dX9_add_84 : decode cX9_add 84 = .ok (.iconst 4, 1) := by decide +kernel
theorem dX9_add_85 : decode cX9_add 85 = .ok (.dup2, 1) := by decide +kernel
theorem dX9_add_86 : decode cX9_add 86 = .ok (.iaload, 1) := by decide +kernel
theorem dX9_add_87 : decode cX9_add 87 = .ok (.iconst 1, 1) := by decide +kernel
theorem dX9_add_88 : decode cX9_add 88 = .ok (.iadd, 1) := by decide +kernel
theorem dX9_add_89 : decode cX9_add 89 = .ok (.iastore, 1) := by decide +kernel
theorem dX9_add_90 : decode cX9_add 90 = .ok (.aload_n 0, 1) := by decide +kernel
theorem dX9_add_91 : decode cX9_add 91 = .ok (.getfield 7, 3) := by decide +kernel
theorem dX9_add_94 : decode cX9_add 94 = .ok (.iconst 4, 1) := by decide +kernel
theorem dX9_add_95 : decode cX9_add 95 = .ok (.iaload, 1) := by decide +kernel
theorem dX9_add_96 : decode cX9_add 96 = .ok (.ireturn, 1) := by decide +kernel
theorem dX9_isRoom_0 : decode cX9_isRoom 0 = .ok (.aload_n 0, 1) := by decide +kernel
theorem dX9_isRoom_1 : decode cX9_isRoom 1 = .ok (.getfield 7, 3) := by decide +kernel
theorem dX9_isRoom_4 : decode cX9_isRoom 4 = .ok (.iconst 2, 1) := by decide +kernel
theorem dX9_isRoom_5 : decode cX9_isRoom 5 = .ok (.iaload, 1) := by decide +kernel
theorem dX9_isRoom_6 : decode cX9_isRoom 6 = .ok (.bipush 80, 2) := by decide +kernel
theorem dX9_isRoom_8 : decode cX9_isRoom 8 = .ok (.if_icmp .ge 19, 3) := by decide +kernel
theorem dX9_isRoom_11 : decode cX9_isRoom 11 = .ok (.aload_n 0, 1) := by decide +kernel
theorem dX9_isRoom_12 : decode cX9_isRoom 12 = .ok (.getfield 7, 3) := by decide +kernel
theorem dX9_isRoom_15 : decode cX9_isRoom 15 = .ok (.iconst 1, 1) := by decide +kernel
theorem dX9_isRoom_16 : decode cX9_isRoom 16 = .ok (.iaload, 1) := by decide +kernel
theorem dX9_isRoom_17 : decode cX9_isRoom 17 = .ok (.sipush 400, 3) := by decide +kernel
theorem dX9_isRoom_20 : decode cX9_isRoom 20 = .ok (.if_icmp .ge 7, 3) := by decide +kernel
theorem dX9_isRoom_23 : decode cX9_isRoom 23 = .ok (.iconst 1, 1) := by decide +kernel
theorem dX9_isRoom_24 : decode cX9_isRoom 24 = .ok (.goto 4, 3) := by decide +kernel
theorem dX9_isRoom_27 : decode cX9_isRoom 27 = .ok (.iconst 0, 1) := by decide +kernel
theorem dX9_isRoom_28 : decode cX9_isRoom 28 = .ok (.ireturn, 1) := by decide +kernel
theorem dX9_begins_0 : decode cX9_begins 0 = .ok (.aload_n 0, 1) := by decide +kernel
theorem dX9_begins_1 : decode cX9_begins 1 = .ok (.getfield 7, 3) := by decide +kernel
theorem dX9_begins_4 : decode cX9_begins 4 = .ok (.iconst 1, 1) := by decide +kernel
theorem dX9_begins_5 : decode cX9_begins 5 = .ok (.iaload, 1) := by decide +kernel
theorem dX9_begins_6 : decode cX9_begins 6 = .ok (.istore_n 3, 1) := by decide +kernel
theorem dX9_begins_7 : decode cX9_begins 7 = .ok (.aload_n 0, 1) := by decide +kernel
theorem dX9_begins_8 : decode cX9_begins 8 = .ok (.getfield 7, 3) := by decide +kernel
theorem dX9_begins_11 : decode cX9_begins 11 = .ok (.sipush 525, 3) := by decide +kernel
theorem dX9_begins_14 : decode cX9_begins 14 = .ok (.iload_n 3, 1) := by decide +kernel
theorem dX9_begins_15 : decode cX9_begins 15 = .ok (.iadd, 1) := by decide +kernel
theorem dX9_begins_16 : decode cX9_begins 16 = .ok (.iload_n 1, 1) := by decide +kernel
theorem dX9_begins_17 : decode cX9_begins 17 = .ok (.iastore, 1) := by decide +kernel
theorem dX9_begins_18 : decode cX9_begins 18 = .ok (.aload_n 0, 1) := by decide +kernel
theorem dX9_begins_19 : decode cX9_begins 19 = .ok (.getfield 7, 3) := by decide +kernel
theorem dX9_begins_22 : decode cX9_begins 22 = .ok (.bipush 125, 2) := by decide +kernel
theorem dX9_begins_24 : decode cX9_begins 24 = .ok (.iload_n 3, 1) := by decide +kernel
theorem dX9_begins_25 : decode cX9_begins 25 = .ok (.iadd, 1) := by decide +kernel
theorem dX9_begins_26 : decode cX9_begins 26 = .ok (.iload_n 2, 1) := by decide +kernel
theorem dX9_begins_27 : decode cX9_begins 27 = .ok (.iastore, 1) := by decide +kernel
theorem dX9_begins_28 : decode cX9_begins 28 = .ok (.aload_n 0, 1) := by decide +kernel
theorem dX9_begins_29 : decode cX9_begins 29 = .ok (.getfield 7, 3) := by decide +kernel
theorem dX9_begins_32 : decode cX9_begins 32 = .ok (.iconst 1, 1) := by decide +kernel
theorem dX9_begins_33 : decode cX9_begins 33 = .ok (.dup2, 1) := by decide +kernel
theorem dX9_begins_34 : decode cX9_begins 34 = .ok (.iaload, 1) := by decide +kernel
theorem dX9_begins_35 : decode cX9_begins 35 = .ok (.iconst 1, 1) := by decide +kernel
theorem dX9_begins_36 : decode cX9_begins 36 = .ok (.iadd, 1) := by decide +kernel
theorem dX9_begins_37 : decode cX9_begins 37 = .ok (.iastore, 1) := by decide +kernel
theorem dX9_begins_38 : decode cX9_begins 38 = .ok (.aload_n 0, 1) := by decide +kernel
theorem dX9_begins_39 : decode cX9_begins 39 = .ok (.getfield 7, 3) := by decide +kernel
theorem dX9_begins_42 : decode cX9_begins 42 = .ok (.iconst 2, 1) := by decide +kernel
theorem dX9_begins_43 : decode cX9_begins 43 = .ok (.dup2, 1) := by decide +kernel
theorem dX9_begins_44 : decode cX9_begins 44 = .ok (.iaload, 1) := by decide +kernel
theorem dX9_begins_45 : decode cX9_begins 45 = .ok (.iload_n 1, 1) := by decide +kernel
theorem dX9_begins_46 : decode cX9_begins 46 = .ok (.ifCond .ne 7, 3) := by decide +kernel
theorem dX9_begins_49 : decode cX9_begins 49 = .ok (.iconst 1, 1) := by decide +kernel
theorem dX9_begins_50 : decode cX9_begins 50 = .ok (.goto 4, 3) := by decide +kernel
theorem dX9_begins_53 : decode cX9_begins 53 = .ok (.iconst 0, 1) := by decide +kernel
theorem dX9_begins_54 : decode cX9_begins 54 = .ok (.iadd, 1) := by decide +kernel
theorem dX9_begins_55 : decode cX9_begins 55 = .ok (.iastore, 1) := by decide +kernel
theorem dX9_begins_56 : decode cX9_begins 56 = .ok (.iload_n 3, 1) := by decide +kernel
theorem dX9_begins_57 : decode cX9_begins 57 = .ok (.ireturn, 1) := by decide +kernel
theorem dX9_close_0 : decode cX9_close 0 = .ok (.aload_n 0, 1) := by decide +kernel
theorem dX9_close_1 : decode cX9_close 1 = .ok (.iconst 0, 1) := by decide +kernel
theorem dX9_close_2 : decode cX9_close 2 = .ok (.putfield 63, 3) := by decide +kernel
theorem dX9_close_5 : decode cX9_close 5 = .ok (.aload_n 0, 1) := by decide +kernel
theorem dX9_close_6 : decode cX9_close 6 = .ok (.getfield 7, 3) := by decide +kernel
theorem dX9_close_9 : decode cX9_close 9 = .ok (.iconst 4, 1) := by decide +kernel
theorem dX9_close_10 : decode cX9_close 10 = .ok (.iaload, 1) := by decide +kernel
theorem dX9_close_11 : decode cX9_close 11 = .ok (.ifCond .eq 10, 3) := by decide +kernel
theorem dX9_close_14 : decode cX9_close 14 = .ok (.aload_n 0, 1) := by decide +kernel
theorem dX9_close_15 : decode cX9_close 15 = .ok (.invokevirtual 85, 3) := by decide +kernel
theorem dX9_close_18 : decode cX9_close 18 = .ok (.ifCond .ne 5, 3) := by decide +kernel
theorem dX9_close_21 : decode cX9_close 21 = .ok (.iconst (-1), 1) := by decide +kernel
theorem dX9_close_22 : decode cX9_close 22 = .ok (.ireturn, 1) := by decide +kernel
theorem dX9_close_23 : decode cX9_close 23 = .ok (.aload_n 0, 1) := by decide +kernel
theorem dX9_close_24 : decode cX9_close 24 = .ok (.iconst 0, 1) := by decide +kernel
theorem dX9_close_25 : decode cX9_close 25 = .ok (.aload_n 0, 1) := by decide +kernel
theorem dX9_close_26 : decode cX9_close 26 = .ok (.getfield 7, 3) := by decide +kernel
theorem dX9_close_29 : decode cX9_close 29 = .ok (.iconst 4, 1) := by decide +kernel
theorem dX9_close_30 : decode cX9_close 30 = .ok (.iaload, 1) := by decide +kernel
theorem dX9_close_31 : decode cX9_close 31 = .ok (.invokevirtual 89, 3) := by decide +kernel
theorem dX9_close_34 : decode cX9_close 34 = .ok (.istore_n 1, 1) := by decide +kernel
theorem dX9_close_35 : decode cX9_close 35 = .ok (.iconst 0, 1) := by decide +kernel
theorem dX9_close_36 : decode cX9_close 36 = .ok (.istore_n 2, 1) := by decide +kernel
theorem dX9_close_37 : decode cX9_close 37 = .ok (.iload_n 2, 1) := by decide +kernel
theorem dX9_close_38 : decode cX9_close 38 = .ok (.aload_n 0, 1) := by decide +kernel
theorem dX9_close_39 : decode cX9_close 39 = .ok (.getfield 7, 3) := by decide +kernel
theorem dX9_close_42 : decode cX9_close 42 = .ok (.iconst 4, 1) := by decide +kernel
theorem dX9_close_43 : decode cX9_close 43 = .ok (.iaload, 1) := by decide +kernel
theorem dX9_close_44 : decode cX9_close 44 = .ok (.if_icmp .ge 33, 3) := by decide +kernel
theorem dX9_close_47 : decode cX9_close 47 = .ok (.aload_n 0, 1) := by decide +kernel
theorem dX9_close_48 : decode cX9_close 48 = .ok (.getfield 7, 3) := by decide +kernel
theorem dX9_close_51 : decode cX9_close 51 = .ok (.sipush 1326, 3) := by decide +kernel
theorem dX9_close_54 : decode cX9_close 54 = .ok (.bipush 30, 2) := by decide +kernel
theorem dX9_close_56 : decode cX9_close 56 = .ok (.iload_n 1, 1) := by decide +kernel
theorem dX9_close_57 : decode cX9_close 57 = .ok (.imul, 1) := by decide +kernel
theorem dX9_close_58 : decode cX9_close 58 = .ok (.iadd, 1) := by decide +kernel
theorem dX9_close_59 : decode cX9_close 59 = .ok (.iload_n 2, 1) := by decide +kernel
theorem dX9_close_60 : decode cX9_close 60 = .ok (.iadd, 1) := by decide +kernel
theorem dX9_close_61 : decode cX9_close 61 = .ok (.aload_n 0, 1) := by decide +kernel
theorem dX9_close_62 : decode cX9_close 62 = .ok (.getfield 7, 3) := by decide +kernel
theorem dX9_close_65 : decode cX9_close 65 = .ok (.bipush 24, 2) := by decide +kernel
theorem dX9_close_67 : decode cX9_close 67 = .ok (.iload_n 2, 1) := by decide +kernel
theorem dX9_close_68 : decode cX9_close 68 = .ok (.iadd, 1) := by decide +kernel
theorem dX9_close_69 : decode cX9_close 69 = .ok (.iaload, 1) := by decide +kernel
theorem dX9_close_70 : decode cX9_close 70 = .ok (.iastore, 1) := by decide +kernel
theorem dX9_close_71 : decode cX9_close 71 = .ok (.iinc 2 1, 3) := by decide +kernel
theorem dX9_close_74 : decode cX9_close 74 = .ok (.goto (-37), 3) := by decide +kernel
theorem dX9_close_77 : decode cX9_close 77 = .ok (.aload_n 0, 1) := by decide +kernel
theorem dX9_close_78 : decode cX9_close 78 = .ok (.getfield 7, 3) := by decide +kernel
theorem dX9_close_81 : decode cX9_close 81 = .ok (.iconst 4, 1) := by decide +kernel
theorem dX9_close_82 : decode cX9_close 82 = .ok (.iconst 0, 1) := by decide +kernel
theorem dX9_close_83 : decode cX9_close 83 = .ok (.iastore, 1) := by decide +kernel
theorem dX9_close_84 : decode cX9_close 84 = .ok (.iload_n 1, 1) := by decide +kernel
theorem dX9_close_85 : decode cX9_close 85 = .ok (.ireturn, 1) := by decide +kernel
theorem dX9_assume_0 : decode cX9_assume 0 = .ok (.aload_n 0, 1) := by decide +kernel
theorem dX9_assume_1 : decode cX9_assume 1 = .ok (.iconst 0, 1) := by decide +kernel
theorem dX9_assume_2 : decode cX9_assume 2 = .ok (.putfield 63, 3) := by decide +kernel
theorem dX9_assume_5 : decode cX9_assume 5 = .ok (.aload_n 0, 1) := by decide +kernel
theorem dX9_assume_6 : decode cX9_assume 6 = .ok (.getfield 7, 3) := by decide +kernel
theorem dX9_assume_9 : decode cX9_assume 9 = .ok (.iconst 3, 1) := by decide +kernel
theorem dX9_assume_10 : decode cX9_assume 10 = .ok (.iaload, 1) := by decide +kernel
theorem dX9_assume_11 : decode cX9_assume 11 = .ok (.bipush 8, 2) := by decide +kernel
theorem dX9_assume_13 : decode cX9_assume 13 = .ok (.if_icmp .eq 11, 3) := by decide +kernel
theorem dX9_assume_16 : decode cX9_assume 16 = .ok (.aload_n 0, 1) := by decide +kernel
theorem dX9_assume_17 : decode cX9_assume 17 = .ok (.iload_n 1, 1) := by decide +kernel
theorem dX9_assume_18 : decode cX9_assume 18 = .ok (.invokevirtual 82, 3) := by decide +kernel
theorem dX9_assume_21 : decode cX9_assume 21 = .ok (.ifCond .ne 5, 3) := by decide +kernel
theorem dX9_assume_24 : decode cX9_assume 24 = .ok (.iconst (-1), 1) := by decide +kernel
theorem dX9_assume_25 : decode cX9_assume 25 = .ok (.ireturn, 1) := by decide +kernel
theorem dX9_assume_26 : decode cX9_assume 26 = .ok (.iconst 0, 1) := by decide +kernel
theorem dX9_assume_27 : decode cX9_assume 27 = .ok (.istore_n 2, 1) := by decide +kernel
theorem dX9_assume_28 : decode cX9_assume 28 = .ok (.iload_n 2, 1) := by decide +kernel
theorem dX9_assume_29 : decode cX9_assume 29 = .ok (.aload_n 0, 1) := by decide +kernel
theorem dX9_assume_30 : decode cX9_assume 30 = .ok (.getfield 7, 3) := by decide +kernel
theorem dX9_assume_33 : decode cX9_assume 33 = .ok (.iconst 3, 1) := by decide +kernel
theorem dX9_assume_34 : decode cX9_assume 34 = .ok (.iaload, 1) := by decide +kernel
theorem dX9_assume_35 : decode cX9_assume 35 = .ok (.if_icmp .ge 30, 3) := by decide +kernel
theorem dX9_assume_38 : decode cX9_assume 38 = .ok (.aload_n 0, 1) := by decide +kernel
theorem dX9_assume_39 : decode cX9_assume 39 = .ok (.getfield 7, 3) := by decide +kernel
theorem dX9_assume_42 : decode cX9_assume 42 = .ok (.bipush 16, 2) := by decide +kernel
theorem dX9_assume_44 : decode cX9_assume 44 = .ok (.iload_n 2, 1) := by decide +kernel
theorem dX9_assume_45 : decode cX9_assume 45 = .ok (.iadd, 1) := by decide +kernel
theorem dX9_assume_46 : decode cX9_assume 46 = .ok (.iaload, 1) := by decide +kernel
theorem dX9_assume_47 : decode cX9_assume 47 = .ok (.invokestatic 71, 3) := by decide +kernel
theorem dX9_assume_50 : decode cX9_assume 50 = .ok (.iload_n 1, 1) := by decide +kernel
theorem dX9_assume_51 : decode cX9_assume 51 = .ok (.invokestatic 71, 3) := by decide +kernel
theorem dX9_assume_54 : decode cX9_assume 54 = .ok (.if_icmp .ne 5, 3) := by decide +kernel
theorem dX9_assume_57 : decode cX9_assume 57 = .ok (.iconst (-1), 1) := by decide +kernel
theorem dX9_assume_58 : decode cX9_assume 58 = .ok (.ireturn, 1) := by decide +kernel
theorem dX9_assume_59 : decode cX9_assume 59 = .ok (.iinc 2 1, 3) := by decide +kernel
theorem dX9_assume_62 : decode cX9_assume 62 = .ok (.goto (-34), 3) := by decide +kernel
theorem dX9_assume_65 : decode cX9_assume 65 = .ok (.aload_n 0, 1) := by decide +kernel
theorem dX9_assume_66 : decode cX9_assume 66 = .ok (.getfield 7, 3) := by decide +kernel
theorem dX9_assume_69 : decode cX9_assume 69 = .ok (.bipush 16, 2) := by decide +kernel
theorem dX9_assume_71 : decode cX9_assume 71 = .ok (.aload_n 0, 1) := by decide +kernel
theorem dX9_assume_72 : decode cX9_assume 72 = .ok (.getfield 7, 3) := by decide +kernel
theorem dX9_assume_75 : decode cX9_assume 75 = .ok (.iconst 3, 1) := by decide +kernel
theorem dX9_assume_76 : decode cX9_assume 76 = .ok (.iaload, 1) := by decide +kernel
theorem dX9_assume_77 : decode cX9_assume 77 = .ok (.iadd, 1) := by decide +kernel
theorem dX9_assume_78 : decode cX9_assume 78 = .ok (.iload_n 1, 1) := by decide +kernel
theorem dX9_assume_79 : decode cX9_assume 79 = .ok (.iastore, 1) := by decide +kernel
theorem dX9_assume_80 : decode cX9_assume 80 = .ok (.aload_n 0, 1) := by decide +kernel
theorem dX9_assume_81 : decode cX9_assume 81 = .ok (.getfield 7, 3) := by decide +kernel
theorem dX9_assume_84 : decode cX9_assume 84 = .ok (.iconst 3, 1) := by decide +kernel
theorem dX9_assume_85 : decode cX9_assume 85 = .ok (.dup2, 1) := by decide +kernel
theorem dX9_assume_86 : decode cX9_assume 86 = .ok (.iaload, 1) := by decide +kernel
theorem dX9_assume_87 : decode cX9_assume 87 = .ok (.iconst 1, 1) := by decide +kernel
theorem dX9_assume_88 : decode cX9_assume 88 = .ok (.iadd, 1) := by decide +kernel
theorem dX9_assume_89 : decode cX9_assume 89 = .ok (.iastore, 1) := by decide +kernel
theorem dX9_assume_90 : decode cX9_assume 90 = .ok (.aload_n 0, 1) := by decide +kernel
theorem dX9_assume_91 : decode cX9_assume 91 = .ok (.getfield 7, 3) := by decide +kernel
theorem dX9_assume_94 : decode cX9_assume 94 = .ok (.iconst 3, 1) := by decide +kernel
theorem dX9_assume_95 : decode cX9_assume 95 = .ok (.iaload, 1) := by decide +kernel
theorem dX9_assume_96 : decode cX9_assume 96 = .ok (.ireturn, 1) := by decide +kernel
theorem dX9_free_0 : decode cX9_free 0 = .ok (.aload_n 0, 1) := by decide +kernel
theorem dX9_free_1 : decode cX9_free 1 = .ok (.iconst 0, 1) := by decide +kernel
theorem dX9_free_2 : decode cX9_free 2 = .ok (.putfield 63, 3) := by decide +kernel
theorem dX9_free_5 : decode cX9_free 5 = .ok (.aload_n 0, 1) := by decide +kernel
theorem dX9_free_6 : decode cX9_free 6 = .ok (.getfield 7, 3) := by decide +kernel
theorem dX9_free_9 : decode cX9_free 9 = .ok (.iconst 3, 1) := by decide +kernel
theorem dX9_free_10 : decode cX9_free 10 = .ok (.iaload, 1) := by decide +kernel
theorem dX9_free_11 : decode cX9_free 11 = .ok (.istore_n 1, 1) := by decide +kernel
theorem dX9_free_12 : decode cX9_free 12 = .ok (.aload_n 0, 1) := by decide +kernel
theorem dX9_free_13 : decode cX9_free 13 = .ok (.getfield 7, 3) := by decide +kernel
theorem dX9_free_16 : decode cX9_free 16 = .ok (.iconst 3, 1) := by decide +kernel
theorem dX9_free_17 : decode cX9_free 17 = .ok (.iconst 0, 1) := by decide +kernel
theorem dX9_free_18 : decode cX9_free 18 = .ok (.iastore, 1) := by decide +kernel
theorem dX9_free_19 : decode cX9_free 19 = .ok (.iload_n 1, 1) := by decide +kernel
theorem dX9_free_20 : decode cX9_free 20 = .ok (.ireturn, 1) := by decide +kernel
theorem dX9_phase_0 : decode cX9_phase 0 = .ok (.aload_n 0, 1) := by decide +kernel
theorem dX9_phase_1 : decode cX9_phase 1 = .ok (.iconst 0, 1) := by decide +kernel
theorem dX9_phase_2 : decode cX9_phase 2 = .ok (.putfield 63, 3) := by decide +kernel
theorem dX9_phase_5 : decode cX9_phase 5 = .ok (.aload_n 0, 1) := by decide +kernel
theorem dX9_phase_6 : decode cX9_phase 6 = .ok (.iload_n 1, 1) := by decide +kernel
theorem dX9_phase_7 : decode cX9_phase 7 = .ok (.invokevirtual 82, 3) := by decide +kernel
theorem dX9_phase_10 : decode cX9_phase 10 = .ok (.ifCond .eq 27, 3) := by decide +kernel
theorem dX9_phase_13 : decode cX9_phase 13 = .ok (.aload_n 0, 1) := by decide +kernel
theorem dX9_phase_14 : decode cX9_phase 14 = .ok (.getfield 7, 3) := by decide +kernel
theorem dX9_phase_17 : decode cX9_phase 17 = .ok (.bipush 32, 2) := by decide +kernel
theorem dX9_phase_19 : decode cX9_phase 19 = .ok (.iload_n 1, 1) := by decide +kernel
theorem dX9_phase_20 : decode cX9_phase 20 = .ok (.invokestatic 71, 3) := by decide +kernel
theorem dX9_phase_23 : decode cX9_phase 23 = .ok (.iadd, 1) := by decide +kernel
theorem dX9_phase_24 : decode cX9_phase 24 = .ok (.iaload, 1) := by decide +kernel
theorem dX9_phase_25 : decode cX9_phase 25 = .ok (.iload_n 1, 1) := by decide +kernel
theorem dX9_phase_26 : decode cX9_phase 26 = .ok (.ifCond .le 7, 3) := by decide +kernel
theorem dX9_phase_29 : decode cX9_phase 29 = .ok (.iconst 1, 1) := by decide +kernel
theorem dX9_phase_30 : decode cX9_phase 30 = .ok (.goto 4, 3) := by decide +kernel
theorem dX9_phase_33 : decode cX9_phase 33 = .ok (.iconst 0, 1) := by decide +kernel
theorem dX9_phase_34 : decode cX9_phase 34 = .ok (.if_icmp .ne 5, 3) := by decide +kernel
theorem dX9_phase_37 : decode cX9_phase 37 = .ok (.iconst 0, 1) := by decide +kernel
theorem dX9_phase_38 : decode cX9_phase 38 = .ok (.ireturn, 1) := by decide +kernel
theorem dX9_phase_39 : decode cX9_phase 39 = .ok (.aload_n 0, 1) := by decide +kernel
theorem dX9_phase_40 : decode cX9_phase 40 = .ok (.getfield 7, 3) := by decide +kernel
theorem dX9_phase_43 : decode cX9_phase 43 = .ok (.bipush 32, 2) := by decide +kernel
theorem dX9_phase_45 : decode cX9_phase 45 = .ok (.iload_n 1, 1) := by decide +kernel
theorem dX9_phase_46 : decode cX9_phase 46 = .ok (.invokestatic 71, 3) := by decide +kernel
theorem dX9_phase_49 : decode cX9_phase 49 = .ok (.iadd, 1) := by decide +kernel
theorem dX9_phase_50 : decode cX9_phase 50 = .ok (.iload_n 1, 1) := by decide +kernel
theorem dX9_phase_51 : decode cX9_phase 51 = .ok (.ifCond .le 7, 3) := by decide +kernel
theorem dX9_phase_54 : decode cX9_phase 54 = .ok (.iconst 1, 1) := by decide +kernel
theorem dX9_phase_55 : decode cX9_phase 55 = .ok (.goto 4, 3) := by decide +kernel
theorem dX9_phase_58 : decode cX9_phase 58 = .ok (.iconst 0, 1) := by decide +kernel
theorem dX9_phase_59 : decode cX9_phase 59 = .ok (.iastore, 1) := by decide +kernel
theorem dX9_phase_60 : decode cX9_phase 60 = .ok (.iconst 1, 1) := by decide +kernel
theorem dX9_phase_61 : decode cX9_phase 61 = .ok (.ireturn, 1) := by decide +kernel
theorem dX9_unit_0 : decode cX9_unit 0 = .ok (.aload_n 0, 1) := by decide +kernel
theorem dX9_unit_1 : decode cX9_unit 1 = .ok (.iconst 0, 1) := by decide +kernel
theorem dX9_unit_2 : decode cX9_unit 2 = .ok (.putfield 63, 3) := by decide +kernel
theorem dX9_unit_5 : decode cX9_unit 5 = .ok (.iload_n 1, 1) := by decide +kernel
theorem dX9_unit_6 : decode cX9_unit 6 = .ok (.iconst 0, 1) := by decide +kernel
theorem dX9_unit_7 : decode cX9_unit 7 = .ok (.bipush 50, 2) := by decide +kernel
theorem dX9_unit_9 : decode cX9_unit 9 = .ok (.invokestatic 67, 3) := by decide +kernel
theorem dX9_unit_12 : decode cX9_unit 12 = .ok (.ifCond .eq 13, 3) := by decide +kernel
theorem dX9_unit_15 : decode cX9_unit 15 = .ok (.aload_n 0, 1) := by decide +kernel
theorem dX9_unit_16 : decode cX9_unit 16 = .ok (.getfield 7, 3) := by decide +kernel
theorem dX9_unit_19 : decode cX9_unit 19 = .ok (.iconst 5, 1) := by decide +kernel
theorem dX9_unit_20 : decode cX9_unit 20 = .ok (.iaload, 1) := by decide +kernel
theorem dX9_unit_21 : decode cX9_unit 21 = .ok (.iload_n 1, 1) := by decide +kernel
theorem dX9_unit_22 : decode cX9_unit 22 = .ok (.if_icmp .ne 5, 3) := by decide +kernel
theorem dX9_unit_25 : decode cX9_unit 25 = .ok (.iconst 0, 1) := by decide +kernel
theorem dX9_unit_26 : decode cX9_unit 26 = .ok (.ireturn, 1) := by decide +kernel
theorem dX9_unit_27 : decode cX9_unit 27 = .ok (.aload_n 0, 1) := by decide +kernel
theorem dX9_unit_28 : decode cX9_unit 28 = .ok (.getfield 7, 3) := by decide +kernel
theorem dX9_unit_31 : decode cX9_unit 31 = .ok (.iconst 5, 1) := by decide +kernel
theorem dX9_unit_32 : decode cX9_unit 32 = .ok (.iload_n 1, 1) := by decide +kernel
theorem dX9_unit_33 : decode cX9_unit 33 = .ok (.iastore, 1) := by decide +kernel
theorem dX9_unit_34 : decode cX9_unit 34 = .ok (.iconst 1, 1) := by decide +kernel
theorem dX9_unit_35 : decode cX9_unit 35 = .ok (.ireturn, 1) := by decide +kernel
theorem dX9_forget_0 : decode cX9_forget 0 = .ok (.aload_n 0, 1) := by decide +kernel
theorem dX9_forget_1 : decode cX9_forget 1 = .ok (.iconst 0, 1) := by decide +kernel
theorem dX9_forget_2 : decode cX9_forget 2 = .ok (.putfield 63, 3) := by decide +kernel
theorem dX9_forget_5 : decode cX9_forget 5 = .ok (.iload_n 1, 1) := by decide +kernel
theorem dX9_forget_6 : decode cX9_forget 6 = .ok (.iconst 1, 1) := by decide +kernel
theorem dX9_forget_7 : decode cX9_forget 7 = .ok (.bipush 30, 2) := by decide +kernel
theorem dX9_forget_9 : decode cX9_forget 9 = .ok (.invokestatic 67, 3) := by decide +kernel
theorem dX9_forget_12 : decode cX9_forget 12 = .ok (.ifCond .ne 5, 3) := by decide +kernel
theorem dX9_forget_15 : decode cX9_forget 15 = .ok (.iconst (-1), 1) := by decide +kernel
theorem dX9_forget_16 : decode cX9_forget 16 = .ok (.ireturn, 1) := by decide +kernel
theorem dX9_forget_17 : decode cX9_forget 17 = .ok (.iconst 0, 1) := by decide +kernel
theorem dX9_forget_18 : decode cX9_forget 18 = .ok (.istore_n 2, 1) := by decide +kernel
theorem dX9_forget_19 : decode cX9_forget 19 = .ok (.iconst 0, 1) := by decide +kernel
theorem dX9_forget_20 : decode cX9_forget 20 = .ok (.istore_n 3, 1) := by decide +kernel
theorem dX9_forget_21 : decode cX9_forget 21 = .ok (.iload_n 3, 1) := by decide +kernel
theorem dX9_forget_22 : decode cX9_forget 22 = .ok (.aload_n 0, 1) := by decide +kernel
theorem dX9_forget_23 : decode cX9_forget 23 = .ok (.getfield 7, 3) := by decide +kernel
theorem dX9_forget_26 : decode cX9_forget 26 = .ok (.iconst 1, 1) := by decide +kernel
theorem dX9_forget_27 : decode cX9_forget 27 = .ok (.iaload, 1) := by decide +kernel
theorem dX9_forget_28 : decode cX9_forget 28 = .ok (.if_icmp .ge 54, 3) := by decide +kernel
theorem dX9_forget_31 : decode cX9_forget 31 = .ok (.aload_n 0, 1) := by decide +kernel
theorem dX9_forget_32 : decode cX9_forget 32 = .ok (.iload_n 3, 1) := by decide +kernel
theorem dX9_forget_33 : decode cX9_forget 33 = .ok (.invokevirtual 93, 3) := by decide +kernel
theorem dX9_forget_36 : decode cX9_forget 36 = .ok (.ifCond .eq 40, 3) := by decide +kernel
theorem dX9_forget_39 : decode cX9_forget 39 = .ok (.aload_n 0, 1) := by decide +kernel
theorem dX9_forget_40 : decode cX9_forget 40 = .ok (.iload_n 3, 1) := by decide +kernel
theorem dX9_forget_41 : decode cX9_forget 41 = .ok (.invokevirtual 96, 3) := by decide +kernel
theorem dX9_forget_44 : decode cX9_forget 44 = .ok (.ifCond .ne 32, 3) := by decide +kernel
theorem dX9_forget_47 : decode cX9_forget 47 = .ok (.aload_n 0, 1) := by decide +kernel
theorem dX9_forget_48 : decode cX9_forget 48 = .ok (.iload_n 3, 1) := by decide +kernel
theorem dX9_forget_49 : decode cX9_forget 49 = .ok (.invokevirtual 99, 3) := by decide +kernel
theorem dX9_forget_52 : decode cX9_forget 52 = .ok (.iload_n 1, 1) := by decide +kernel
theorem dX9_forget_53 : decode cX9_forget 53 = .ok (.if_icmp .gt 6, 3) := by decide +kernel
theorem dX9_forget_56 : decode cX9_forget 56 = .ok (.goto 20, 3) := by decide +kernel
theorem dX9_forget_59 : decode cX9_forget 59 = .ok (.aload_n 0, 1) := by decide +kernel
theorem dX9_forget_60 : decode cX9_forget 60 = .ok (.getfield 7, 3) := by decide +kernel
theorem dX9_forget_63 : decode cX9_forget 63 = .ok (.sipush 525, 3) := by decide +kernel
theorem dX9_forget_66 : decode cX9_forget 66 = .ok (.iload_n 3, 1) := by decide +kernel
theorem dX9_forget_67 : decode cX9_forget 67 = .ok (.iadd, 1) := by decide +kernel
theorem dX9_forget_68 : decode cX9_forget 68 = .ok (.dup2, 1) := by decide +kernel
theorem dX9_forget_69 : decode cX9_forget 69 = .ok (.iaload, 1) := by decide +kernel
theorem dX9_forget_70 : decode cX9_forget 70 = .ok (.iconst 2, 1) := by decide +kernel
theorem dX9_forget_71 : decode cX9_forget 71 = .ok (.ior, 1) := by decide +kernel
theorem dX9_forget_72 : decode cX9_forget 72 = .ok (.iastore, 1) := by decide +kernel
theorem dX9_forget_73 : decode cX9_forget 73 = .ok (.iinc 2 1, 3) := by decide +kernel
theorem dX9_forget_76 : decode cX9_forget 76 = .ok (.iinc 3 1, 3) := by decide +kernel
theorem dX9_forget_79 : decode cX9_forget 79 = .ok (.goto (-58), 3) := by decide +kernel
theorem dX9_forget_82 : decode cX9_forget 82 = .ok (.iload_n 2, 1) := by decide +kernel
theorem dX9_forget_83 : decode cX9_forget 83 = .ok (.ireturn, 1) := by decide +kernel
theorem dX9_keep_0 : decode cX9_keep 0 = .ok (.aload_n 0, 1) := by decide +kernel
theorem dX9_keep_1 : decode cX9_keep 1 = .ok (.iconst 0, 1) := by decide +kernel
theorem dX9_keep_2 : decode cX9_keep 2 = .ok (.putfield 63, 3) := by decide +kernel
theorem dX9_keep_5 : decode cX9_keep 5 = .ok (.iload_n 1, 1) := by decide +kernel
theorem dX9_keep_6 : decode cX9_keep 6 = .ok (.iconst 0, 1) := by decide +kernel
theorem dX9_keep_7 : decode cX9_keep 7 = .ok (.iconst 1, 1) := by decide +kernel
theorem dX9_keep_8 : decode cX9_keep 8 = .ok (.invokestatic 67, 3) := by decide +kernel
theorem dX9_keep_11 : decode cX9_keep 11 = .ok (.ifCond .ne 5, 3) := by decide +kernel
theorem dX9_keep_14 : decode cX9_keep 14 = .ok (.iconst 0, 1) := by decide +kernel
theorem dX9_keep_15 : decode cX9_keep 15 = .ok (.ireturn, 1) := by decide +kernel
theorem dX9_keep_16 : decode cX9_keep 16 = .ok (.iconst 0, 1) := by decide +kernel
theorem dX9_keep_17 : decode cX9_keep 17 = .ok (.istore_n 2, 1) := by decide +kernel
theorem dX9_keep_18 : decode cX9_keep 18 = .ok (.iload_n 2, 1) := by decide +kernel
theorem dX9_keep_19 : decode cX9_keep 19 = .ok (.sipush 13326, 3) := by decide +kernel
theorem dX9_keep_22 : decode cX9_keep 22 = .ok (.if_icmp .ge 27, 3) := by decide +kernel
theorem dX9_keep_25 : decode cX9_keep 25 = .ok (.aload_n 0, 1) := by decide +kernel
theorem dX9_keep_26 : decode cX9_keep 26 = .ok (.getfield 16, 3) := by decide +kernel
theorem dX9_keep_29 : decode cX9_keep 29 = .ok (.sipush 13326, 3) := by decide +kernel
theorem dX9_keep_32 : decode cX9_keep 32 = .ok (.iload_n 1, 1) := by decide +kernel
theorem dX9_keep_33 : decode cX9_keep 33 = .ok (.imul, 1) := by decide +kernel
theorem dX9_keep_34 : decode cX9_keep 34 = .ok (.iload_n 2, 1) := by decide +kernel
theorem dX9_keep_35 : decode cX9_keep 35 = .ok (.iadd, 1) := by decide +kernel
theorem dX9_keep_36 : decode cX9_keep 36 = .ok (.aload_n 0, 1) := by decide +kernel
theorem dX9_keep_37 : decode cX9_keep 37 = .ok (.getfield 7, 3) := by decide +kernel
theorem dX9_keep_40 : decode cX9_keep 40 = .ok (.iload_n 2, 1) := by decide +kernel
theorem dX9_keep_41 : decode cX9_keep 41 = .ok (.iaload, 1) := by decide +kernel
theorem dX9_keep_42 : decode cX9_keep 42 = .ok (.iastore, 1) := by decide +kernel
theorem dX9_keep_43 : decode cX9_keep 43 = .ok (.iinc 2 1, 3) := by decide +kernel
theorem dX9_keep_46 : decode cX9_keep 46 = .ok (.goto (-28), 3) := by decide +kernel
theorem dX9_keep_49 : decode cX9_keep 49 = .ok (.aload_n 0, 1) := by decide +kernel
theorem dX9_keep_50 : decode cX9_keep 50 = .ok (.getfield 19, 3) := by decide +kernel
theorem dX9_keep_53 : decode cX9_keep 53 = .ok (.iload_n 1, 1) := by decide +kernel
theorem dX9_keep_54 : decode cX9_keep 54 = .ok (.iconst 1, 1) := by decide +kernel
theorem dX9_keep_55 : decode cX9_keep 55 = .ok (.bastore, 1) := by decide +kernel
theorem dX9_keep_56 : decode cX9_keep 56 = .ok (.iconst 1, 1) := by decide +kernel
theorem dX9_keep_57 : decode cX9_keep 57 = .ok (.ireturn, 1) := by decide +kernel
theorem dX9_back_0 : decode cX9_back 0 = .ok (.aload_n 0, 1) := by decide +kernel
theorem dX9_back_1 : decode cX9_back 1 = .ok (.iconst 0, 1) := by decide +kernel
theorem dX9_back_2 : decode cX9_back 2 = .ok (.putfield 63, 3) := by decide +kernel
theorem dX9_back_5 : decode cX9_back 5 = .ok (.iload_n 1, 1) := by decide +kernel
theorem dX9_back_6 : decode cX9_back 6 = .ok (.iconst 0, 1) := by decide +kernel
theorem dX9_back_7 : decode cX9_back 7 = .ok (.iconst 1, 1) := by decide +kernel
theorem dX9_back_8 : decode cX9_back 8 = .ok (.invokestatic 67, 3) := by decide +kernel
theorem dX9_back_11 : decode cX9_back 11 = .ok (.ifCond .eq 12, 3) := by decide +kernel
theorem dX9_back_14 : decode cX9_back 14 = .ok (.aload_n 0, 1) := by decide +kernel
theorem dX9_back_15 : decode cX9_back 15 = .ok (.getfield 19, 3) := by decide +kernel
theorem dX9_back_18 : decode cX9_back 18 = .ok (.iload_n 1, 1) := by decide +kernel
theorem dX9_back_19 : decode cX9_back 19 = .ok (.baload, 1) := by decide +kernel
theorem dX9_back_20 : decode cX9_back 20 = .ok (.ifCond .ne 5, 3) := by decide +kernel
theorem dX9_back_23 : decode cX9_back 23 = .ok (.iconst 0, 1) := by decide +kernel
theorem dX9_back_24 : decode cX9_back 24 = .ok (.ireturn, 1) := by decide +kernel
theorem dX9_back_25 : decode cX9_back 25 = .ok (.iconst 0, 1) := by decide +kernel
theorem dX9_back_26 : decode cX9_back 26 = .ok (.istore_n 2, 1) := by decide +kernel
theorem dX9_back_27 : decode cX9_back 27 = .ok (.iload_n 2, 1) := by decide +kernel
theorem dX9_back_28 : decode cX9_back 28 = .ok (.sipush 13326, 3) := by decide +kernel
theorem dX9_back_31 : decode cX9_back 31 = .ok (.if_icmp .ge 27, 3) := by decide +kernel
theorem dX9_back_34 : decode cX9_back 34 = .ok (.aload_n 0, 1) := by decide +kernel
theorem dX9_back_35 : decode cX9_back 35 = .ok (.getfield 7, 3) := by decide +kernel
theorem dX9_back_38 : decode cX9_back 38 = .ok (.iload_n 2, 1) := by decide +kernel
theorem dX9_back_39 : decode cX9_back 39 = .ok (.aload_n 0, 1) := by decide +kernel
theorem dX9_back_40 : decode cX9_back 40 = .ok (.getfield 16, 3) := by decide +kernel
theorem dX9_back_43 : decode cX9_back 43 = .ok (.sipush 13326, 3) := by decide +kernel
theorem dX9_back_46 : decode cX9_back 46 = .ok (.iload_n 1, 1) := by decide +kernel
theorem dX9_back_47 : decode cX9_back 47 = .ok (.imul, 1) := by decide +kernel
theorem dX9_back_48 : decode cX9_back 48 = .ok (.iload_n 2, 1) := by decide +kernel
theorem dX9_back_49 : decode cX9_back 49 = .ok (.iadd, 1) := by decide +kernel
theorem dX9_back_50 : decode cX9_back 50 = .ok (.iaload, 1) := by decide +kernel
theorem dX9_back_51 : decode cX9_back 51 = .ok (.iastore, 1) := by decide +kernel
theorem dX9_back_52 : decode cX9_back 52 = .ok (.iinc 2 1, 3) := by decide +kernel
theorem dX9_back_55 : decode cX9_back 55 = .ok (.goto (-28), 3) := by decide +kernel
theorem dX9_back_58 : decode cX9_back 58 = .ok (.iconst 1, 1) := by decide +kernel
theorem dX9_back_59 : decode cX9_back 59 = .ok (.ireturn, 1) := by decide +kernel
theorem dX9_empties_0 : decode cX9_empties 0 = .ok (.aload_n 0, 1) := by decide +kernel
theorem dX9_empties_1 : decode cX9_empties 1 = .ok (.iconst 0, 1) := by decide +kernel
theorem dX9_empties_2 : decode cX9_empties 2 = .ok (.putfield 102, 3) := by decide +kernel
theorem dX9_empties_5 : decode cX9_empties 5 = .ok (.aload_n 0, 1) := by decide +kernel
theorem dX9_empties_6 : decode cX9_empties 6 = .ok (.iconst 0, 1) := by decide +kernel
theorem dX9_empties_7 : decode cX9_empties 7 = .ok (.putfield 105, 3) := by decide +kernel
theorem dX9_empties_10 : decode cX9_empties 10 = .ok (.iconst 0, 1) := by decide +kernel
theorem dX9_empties_11 : decode cX9_empties 11 = .ok (.istore_n 1, 1) := by decide +kernel
theorem dX9_empties_12 : decode cX9_empties 12 = .ok (.iload_n 1, 1) := by decide +kernel
theorem dX9_empties_13 : decode cX9_empties 13 = .ok (.bipush 30, 2) := by decide +kernel
theorem dX9_empties_15 : decode cX9_empties 15 = .ok (.if_icmp .gt 16, 3) := by decide +kernel
theorem dX9_empties_18 : decode cX9_empties 18 = .ok (.aload_n 0, 1) := by decide +kernel
theorem dX9_empties_19 : decode cX9_empties 19 = .ok (.getfield 23, 3) := by decide +kernel
theorem dX9_empties_22 : decode cX9_empties 22 = .ok (.iload_n 1, 1) := by decide +kernel
theorem dX9_empties_23 : decode cX9_empties 23 = .ok (.iconst 0, 1) := by decide +kernel
theorem dX9_empties_24 : decode cX9_empties 24 = .ok (.iastore, 1) := by decide +kernel
theorem dX9_empties_25 : decode cX9_empties 25 = .ok (.iinc 1 1, 3) := by decide +kernel
theorem dX9_empties_28 : decode cX9_empties 28 = .ok (.goto (-16), 3) := by decide +kernel
theorem dX9_empties_31 : decode cX9_empties 31 = .ok (.return_, 1) := by decide +kernel
theorem dX9_truth_0 : decode cX9_truth 0 = .ok (.iload_n 1, 1) := by decide +kernel
theorem dX9_truth_1 : decode cX9_truth 1 = .ok (.ifCond .le 12, 3) := by decide +kernel
theorem dX9_truth_4 : decode cX9_truth 4 = .ok (.aload_n 0, 1) := by decide +kernel
theorem dX9_truth_5 : decode cX9_truth 5 = .ok (.getfield 23, 3) := by decide +kernel
theorem dX9_truth_8 : decode cX9_truth 8 = .ok (.iload_n 1, 1) := by decide +kernel
theorem dX9_truth_9 : decode cX9_truth 9 = .ok (.iaload, 1) := by decide +kernel
theorem dX9_truth_10 : decode cX9_truth 10 = .ok (.goto 11, 3) := by decide +kernel
theorem dX9_truth_13 : decode cX9_truth 13 = .ok (.aload_n 0, 1) := by decide +kernel
theorem dX9_truth_14 : decode cX9_truth 14 = .ok (.getfield 23, 3) := by decide +kernel
theorem dX9_truth_17 : decode cX9_truth 17 = .ok (.iload_n 1, 1) := by decide +kernel
theorem dX9_truth_18 : decode cX9_truth 18 = .ok (.ineg, 1) := by decide +kernel
theorem dX9_truth_19 : decode cX9_truth 19 = .ok (.iaload, 1) := by decide +kernel
theorem dX9_truth_20 : decode cX9_truth 20 = .ok (.ineg, 1) := by decide +kernel
theorem dX9_truth_21 : decode cX9_truth 21 = .ok (.ireturn, 1) := by decide +kernel
theorem dX9_comes_0 : decode cX9_comes 0 = .ok (.aload_n 0, 1) := by decide +kernel
theorem dX9_comes_1 : decode cX9_comes 1 = .ok (.getfield 23, 3) := by decide +kernel
theorem dX9_comes_4 : decode cX9_comes 4 = .ok (.iload_n 1, 1) := by decide +kernel
theorem dX9_comes_5 : decode cX9_comes 5 = .ok (.invokestatic 71, 3) := by decide +kernel
theorem dX9_comes_8 : decode cX9_comes 8 = .ok (.iload_n 1, 1) := by decide +kernel
theorem dX9_comes_9 : decode cX9_comes 9 = .ok (.ifCond .le 7, 3) := by decide +kernel
theorem dX9_comes_12 : decode cX9_comes 12 = .ok (.iconst 1, 1) := by decide +kernel
theorem dX9_comes_13 : decode cX9_comes 13 = .ok (.goto 4, 3) := by decide +kernel
theorem dX9_comes_16 : decode cX9_comes 16 = .ok (.iconst (-1), 1) := by decide +kernel
theorem dX9_comes_17 : decode cX9_comes 17 = .ok (.iastore, 1) := by decide +kernel
theorem dX9_comes_18 : decode cX9_comes 18 = .ok (.aload_n 0, 1) := by decide +kernel
theorem dX9_comes_19 : decode cX9_comes 19 = .ok (.getfield 26, 3) := by decide +kernel
theorem dX9_comes_22 : decode cX9_comes 22 = .ok (.iload_n 1, 1) := by decide +kernel
theorem dX9_comes_23 : decode cX9_comes 23 = .ok (.invokestatic 71, 3) := by decide +kernel
theorem dX9_comes_26 : decode cX9_comes 26 = .ok (.aload_n 0, 1) := by decide +kernel
theorem dX9_comes_27 : decode cX9_comes 27 = .ok (.getfield 105, 3) := by decide +kernel
theorem dX9_comes_30 : decode cX9_comes 30 = .ok (.iastore, 1) := by decide +kernel
theorem dX9_comes_31 : decode cX9_comes 31 = .ok (.aload_n 0, 1) := by decide +kernel
theorem dX9_comes_32 : decode cX9_comes 32 = .ok (.getfield 29, 3) := by decide +kernel
theorem dX9_comes_35 : decode cX9_comes 35 = .ok (.iload_n 1, 1) := by decide +kernel
theorem dX9_comes_36 : decode cX9_comes 36 = .ok (.invokestatic 71, 3) := by decide +kernel
theorem dX9_comes_39 : decode cX9_comes 39 = .ok (.iload_n 2, 1) := by decide +kernel
theorem dX9_comes_40 : decode cX9_comes 40 = .ok (.iastore, 1) := by decide +kernel
theorem dX9_comes_41 : decode cX9_comes 41 = .ok (.aload_n 0, 1) := by decide +kernel
theorem dX9_comes_42 : decode cX9_comes 42 = .ok (.getfield 32, 3) := by decide +kernel
theorem dX9_comes_45 : decode cX9_comes 45 = .ok (.iload_n 1, 1) := by decide +kernel
theorem dX9_comes_46 : decode cX9_comes 46 = .ok (.invokestatic 71, 3) := by decide +kernel
theorem dX9_comes_49 : decode cX9_comes 49 = .ok (.aload_n 0, 1) := by decide +kernel
theorem dX9_comes_50 : decode cX9_comes 50 = .ok (.getfield 102, 3) := by decide +kernel
theorem dX9_comes_53 : decode cX9_comes 53 = .ok (.iastore, 1) := by decide +kernel
theorem dX9_comes_54 : decode cX9_comes 54 = .ok (.aload_n 0, 1) := by decide +kernel
theorem dX9_comes_55 : decode cX9_comes 55 = .ok (.getfield 35, 3) := by decide +kernel
theorem dX9_comes_58 : decode cX9_comes 58 = .ok (.aload_n 0, 1) := by decide +kernel
theorem dX9_comes_59 : decode cX9_comes 59 = .ok (.getfield 102, 3) := by decide +kernel
theorem dX9_comes_62 : decode cX9_comes 62 = .ok (.iload_n 1, 1) := by decide +kernel
theorem dX9_comes_63 : decode cX9_comes 63 = .ok (.iastore, 1) := by decide +kernel
theorem dX9_comes_64 : decode cX9_comes 64 = .ok (.aload_n 0, 1) := by decide +kernel
theorem dX9_comes_65 : decode cX9_comes 65 = .ok (.dup, 1) := by decide +kernel
theorem dX9_comes_66 : decode cX9_comes 66 = .ok (.getfield 102, 3) := by decide +kernel
theorem dX9_comes_69 : decode cX9_comes 69 = .ok (.iconst 1, 1) := by decide +kernel
theorem dX9_comes_70 : decode cX9_comes 70 = .ok (.iadd, 1) := by decide +kernel
theorem dX9_comes_71 : decode cX9_comes 71 = .ok (.putfield 102, 3) := by decide +kernel
theorem dX9_comes_74 : decode cX9_comes 74 = .ok (.return_, 1) := by decide +kernel
theorem dX9_leaves_0 : decode cX9_leaves 0 = .ok (.aload_n 0, 1) := by decide +kernel
theorem dX9_leaves_1 : decode cX9_leaves 1 = .ok (.getfield 102, 3) := by decide +kernel
theorem dX9_leaves_4 : decode cX9_leaves 4 = .ok (.ifCond .le 80, 3) := by decide +kernel
theorem dX9_leaves_7 : decode cX9_leaves 7 = .ok (.aload_n 0, 1) := by decide +kernel
theorem dX9_leaves_8 : decode cX9_leaves 8 = .ok (.getfield 26, 3) := by decide +kernel
theorem dX9_leaves_11 : decode cX9_leaves 11 = .ok (.aload_n 0, 1) := by decide +kernel
theorem dX9_leaves_12 : decode cX9_leaves 12 = .ok (.getfield 35, 3) := by decide +kernel
theorem dX9_leaves_15 : decode cX9_leaves 15 = .ok (.aload_n 0, 1) := by decide +kernel
theorem dX9_leaves_16 : decode cX9_leaves 16 = .ok (.getfield 102, 3) := by decide +kernel
theorem dX9_leaves_19 : decode cX9_leaves 19 = .ok (.iconst 1, 1) := by decide +kernel
theorem dX9_leaves_20 : decode cX9_leaves 20 = .ok (.isub, 1) := by decide +kernel
theorem dX9_leaves_21 : decode cX9_leaves 21 = .ok (.iaload, 1) := by decide +kernel
theorem dX9_leaves_22 : decode cX9_leaves 22 = .ok (.invokestatic 71, 3) := by decide +kernel
theorem dX9_leaves_25 : decode cX9_leaves 25 = .ok (.iaload, 1) := by decide +kernel
theorem dX9_leaves_26 : decode cX9_leaves 26 = .ok (.iload_n 1, 1) := by decide +kernel
theorem dX9_leaves_27 : decode cX9_leaves 27 = .ok (.if_icmp .le 57, 3) := by decide +kernel
theorem dX9_leaves_30 : decode cX9_leaves 30 = .ok (.aload_n 0, 1) := by decide +kernel
theorem dX9_leaves_31 : decode cX9_leaves 31 = .ok (.dup, 1) := by decide +kernel
theorem dX9_leaves_32 : decode cX9_leaves 32 = .ok (.getfield 102, 3) := by decide +kernel
theorem dX9_leaves_35 : decode cX9_leaves 35 = .ok (.iconst 1, 1) := by decide +kernel
theorem dX9_leaves_36 : decode cX9_leaves 36 = .ok (.isub, 1) := by decide +kernel
theorem dX9_leaves_37 : decode cX9_leaves 37 = .ok (.putfield 102, 3) := by decide +kernel
theorem dX9_leaves_40 : decode cX9_leaves 40 = .ok (.aload_n 0, 1) := by decide +kernel
theorem dX9_leaves_41 : decode cX9_leaves 41 = .ok (.getfield 35, 3) := by decide +kernel
theorem dX9_leaves_44 : decode cX9_leaves 44 = .ok (.aload_n 0, 1) := by decide +kernel
theorem dX9_leaves_45 : decode cX9_leaves 45 = .ok (.getfield 102, 3) := by decide +kernel
theorem dX9_leaves_48 : decode cX9_leaves 48 = .ok (.iaload, 1) := by decide +kernel
theorem dX9_leaves_49 : decode cX9_leaves 49 = .ok (.istore_n 2, 1) := by decide +kernel
theorem dX9_leaves_50 : decode cX9_leaves 50 = .ok (.aload_n 0, 1) := by decide +kernel
theorem dX9_leaves_51 : decode cX9_leaves 51 = .ok (.getfield 7, 3) := by decide +kernel
theorem dX9_leaves_54 : decode cX9_leaves 54 = .ok (.bipush 32, 2) := by decide +kernel
theorem dX9_leaves_56 : decode cX9_leaves 56 = .ok (.iload_n 2, 1) := by decide +kernel
theorem dX9_leaves_57 : decode cX9_leaves 57 = .ok (.invokestatic 71, 3) := by decide +kernel
theorem dX9_leaves_60 : decode cX9_leaves 60 = .ok (.iadd, 1) := by decide +kernel
theorem dX9_leaves_61 : decode cX9_leaves 61 = .ok (.iload_n 2, 1) := by decide +kernel
theorem dX9_leaves_62 : decode cX9_leaves 62 = .ok (.ifCond .le 7, 3) := by decide +kernel
theorem dX9_leaves_65 : decode cX9_leaves 65 = .ok (.iconst 1, 1) := by decide +kernel
theorem dX9_leaves_66 : decode cX9_leaves 66 = .ok (.goto 4, 3) := by decide +kernel
theorem dX9_leaves_69 : decode cX9_leaves 69 = .ok (.iconst 0, 1) := by decide +kernel
theorem dX9_leaves_70 : decode cX9_leaves 70 = .ok (.iastore, 1) := by decide +kernel
theorem dX9_leaves_71 : decode cX9_leaves 71 = .ok (.aload_n 0, 1) := by decide +kernel
theorem dX9_leaves_72 : decode cX9_leaves 72 = .ok (.getfield 23, 3) := by decide +kernel
theorem dX9_leaves_75 : decode cX9_leaves 75 = .ok (.iload_n 2, 1) := by decide +kernel
theorem dX9_leaves_76 : decode cX9_leaves 76 = .ok (.invokestatic 71, 3) := by decide +kernel
theorem dX9_leaves_79 : decode cX9_leaves 79 = .ok (.iconst 0, 1) := by decide +kernel
theorem dX9_leaves_80 : decode cX9_leaves 80 = .ok (.iastore, 1) := by decide +kernel
theorem dX9_leaves_81 : decode cX9_leaves 81 = .ok (.goto (-81), 3) := by decide +kernel
theorem dX9_leaves_84 : decode cX9_leaves 84 = .ok (.aload_n 0, 1) := by decide +kernel
theorem dX9_leaves_85 : decode cX9_leaves 85 = .ok (.iload_n 1, 1) := by decide +kernel
theorem dX9_leaves_86 : decode cX9_leaves 86 = .ok (.ifCond .ge 7, 3) := by decide +kernel
theorem dX9_leaves_89 : decode cX9_leaves 89 = .ok (.iconst 0, 1) := by decide +kernel
theorem dX9_leaves_90 : decode cX9_leaves 90 = .ok (.goto 4, 3) := by decide +kernel
theorem dX9_leaves_93 : decode cX9_leaves 93 = .ok (.iload_n 1, 1) := by decide +kernel
theorem dX9_leaves_94 : decode cX9_leaves 94 = .ok (.putfield 105, 3) := by decide +kernel
theorem dX9_leaves_97 : decode cX9_leaves 97 = .ok (.return_, 1) := by decide +kernel
theorem dX9_open_0 : decode cX9_open 0 = .ok (.iconst 0, 1) := by decide +kernel
theorem dX9_open_1 : decode cX9_open 1 = .ok (.istore_n 2, 1) := by decide +kernel
theorem dX9_open_2 : decode cX9_open 2 = .ok (.iconst 0, 1) := by decide +kernel
theorem dX9_open_3 : decode cX9_open 3 = .ok (.istore_n 3, 1) := by decide +kernel
theorem dX9_open_4 : decode cX9_open 4 = .ok (.iload_n 3, 1) := by decide +kernel
theorem dX9_open_5 : decode cX9_open 5 = .ok (.aload_n 0, 1) := by decide +kernel
theorem dX9_open_6 : decode cX9_open 6 = .ok (.iload_n 1, 1) := by decide +kernel
theorem dX9_open_7 : decode cX9_open 7 = .ok (.invokevirtual 99, 3) := by decide +kernel
theorem dX9_open_10 : decode cX9_open 10 = .ok (.if_icmp .ge 42, 3) := by decide +kernel
theorem dX9_open_13 : decode cX9_open 13 = .ok (.aload_n 0, 1) := by decide +kernel
theorem dX9_open_14 : decode cX9_open 14 = .ok (.aload_n 0, 1) := by decide +kernel
theorem dX9_open_15 : decode cX9_open 15 = .ok (.iload_n 1, 1) := by decide +kernel
theorem dX9_open_16 : decode cX9_open 16 = .ok (.iload_n 3, 1) := by decide +kernel
theorem dX9_open_17 : decode cX9_open 17 = .ok (.invokevirtual 108, 3) := by decide +kernel
theorem dX9_open_20 : decode cX9_open 20 = .ok (.invokevirtual 111, 3) := by decide +kernel
theorem dX9_open_23 : decode cX9_open 23 = .ok (.istore 4, 2) := by decide +kernel
theorem dX9_open_25 : decode cX9_open 25 = .ok (.iload 4, 2) := by decide +kernel
theorem dX9_open_27 : decode cX9_open 27 = .ok (.ifCond .le 6, 3) := by decide +kernel
theorem dX9_open_30 : decode cX9_open 30 = .ok (.bipush 31, 2) := by decide +kernel
theorem dX9_open_32 : decode cX9_open 32 = .ok (.ireturn, 1) := by decide +kernel
theorem dX9_open_33 : decode cX9_open 33 = .ok (.iload_n 2, 1) := by decide +kernel
theorem dX9_open_34 : decode cX9_open 34 = .ok (.iload 4, 2) := by decide +kernel
theorem dX9_open_36 : decode cX9_open 36 = .ok (.ifCond .ne 7, 3) := by decide +kernel
theorem dX9_open_39 : decode cX9_open 39 = .ok (.iconst 1, 1) := by decide +kernel
theorem dX9_open_40 : decode cX9_open 40 = .ok (.goto 4, 3) := by decide +kernel
theorem dX9_open_43 : decode cX9_open 43 = .ok (.iconst 0, 1) := by decide +kernel
theorem dX9_open_44 : decode cX9_open 44 = .ok (.iadd, 1) := by decide +kernel
theorem dX9_open_45 : decode cX9_open 45 = .ok (.istore_n 2, 1) := by decide +kernel
theorem dX9_open_46 : decode cX9_open 46 = .ok (.iinc 3 1, 3) := by decide +kernel
theorem dX9_open_49 : decode cX9_open 49 = .ok (.goto (-45), 3) := by decide +kernel
theorem dX9_open_52 : decode cX9_open 52 = .ok (.iload_n 2, 1) := by decide +kernel
theorem dX9_open_53 : decode cX9_open 53 = .ok (.ireturn, 1) := by decide +kernel
theorem dX9_firstOf_0 : decode cX9_firstOf 0 = .ok (.iconst 0, 1) := by decide +kernel
theorem dX9_firstOf_1 : decode cX9_firstOf 1 = .ok (.istore_n 2, 1) := by decide +kernel
theorem dX9_firstOf_2 : decode cX9_firstOf 2 = .ok (.iload_n 2, 1) := by decide +kernel
theorem dX9_firstOf_3 : decode cX9_firstOf 3 = .ok (.aload_n 0, 1) := by decide +kernel
theorem dX9_firstOf_4 : decode cX9_firstOf 4 = .ok (.getfield 7, 3) := by decide +kernel
theorem dX9_firstOf_7 : decode cX9_firstOf 7 = .ok (.iconst 1, 1) := by decide +kernel
theorem dX9_firstOf_8 : decode cX9_firstOf 8 = .ok (.iaload, 1) := by decide +kernel
theorem dX9_firstOf_9 : decode cX9_firstOf 9 = .ok (.if_icmp .ge 28, 3) := by decide +kernel
theorem dX9_firstOf_12 : decode cX9_firstOf 12 = .ok (.aload_n 0, 1) := by decide +kernel
theorem dX9_firstOf_13 : decode cX9_firstOf 13 = .ok (.iload_n 2, 1) := by decide +kernel
theorem dX9_firstOf_14 : decode cX9_firstOf 14 = .ok (.invokevirtual 96, 3) := by decide +kernel
theorem dX9_firstOf_17 : decode cX9_firstOf 17 = .ok (.ifCond .ne 14, 3) := by decide +kernel
theorem dX9_firstOf_20 : decode cX9_firstOf 20 = .ok (.aload_n 0, 1) := by decide +kernel
theorem dX9_firstOf_21 : decode cX9_firstOf 21 = .ok (.iload_n 2, 1) := by decide +kernel
theorem dX9_firstOf_22 : decode cX9_firstOf 22 = .ok (.invokevirtual 114, 3) := by decide +kernel
theorem dX9_firstOf_25 : decode cX9_firstOf 25 = .ok (.iload_n 1, 1) := by decide +kernel
theorem dX9_firstOf_26 : decode cX9_firstOf 26 = .ok (.if_icmp .ne 5, 3) := by decide +kernel
theorem dX9_firstOf_29 : decode cX9_firstOf 29 = .ok (.iload_n 2, 1) := by decide +kernel
theorem dX9_firstOf_30 : decode cX9_firstOf 30 = .ok (.ireturn, 1) := by decide +kernel
theorem dX9_firstOf_31 : decode cX9_firstOf 31 = .ok (.iinc 2 1, 3) := by decide +kernel
theorem dX9_firstOf_34 : decode cX9_firstOf 34 = .ok (.goto (-32), 3) := by decide +kernel
theorem dX9_firstOf_37 : decode cX9_firstOf 37 = .ok (.iconst (-1), 1) := by decide +kernel
theorem dX9_firstOf_38 : decode cX9_firstOf 38 = .ok (.ireturn, 1) := by decide +kernel
theorem dX9_openOne_0 : decode cX9_openOne 0 = .ok (.iconst 0, 1) := by decide +kernel
theorem dX9_openOne_1 : decode cX9_openOne 1 = .ok (.istore_n 2, 1) := by decide +kernel
theorem dX9_openOne_2 : decode cX9_openOne 2 = .ok (.iload_n 2, 1) := by decide +kernel
theorem dX9_openOne_3 : decode cX9_openOne 3 = .ok (.aload_n 0, 1) := by decide +kernel
theorem dX9_openOne_4 : decode cX9_openOne 4 = .ok (.iload_n 1, 1) := by decide +kernel
theorem dX9_openOne_5 : decode cX9_openOne 5 = .ok (.invokevirtual 99, 3) := by decide +kernel
theorem dX9_openOne_8 : decode cX9_openOne 8 = .ok (.if_icmp .ge 29, 3) := by decide +kernel
theorem dX9_openOne_11 : decode cX9_openOne 11 = .ok (.aload_n 0, 1) := by decide +kernel
theorem dX9_openOne_12 : decode cX9_openOne 12 = .ok (.aload_n 0, 1) := by decide +kernel
theorem dX9_openOne_13 : decode cX9_openOne 13 = .ok (.iload_n 1, 1) := by decide +kernel
theorem dX9_openOne_14 : decode cX9_openOne 14 = .ok (.iload_n 2, 1) := by decide +kernel
theorem dX9_openOne_15 : decode cX9_openOne 15 = .ok (.invokevirtual 108, 3) := by decide +kernel
theorem dX9_openOne_18 : decode cX9_openOne 18 = .ok (.invokevirtual 111, 3) := by decide +kernel
theorem dX9_openOne_21 : decode cX9_openOne 21 = .ok (.ifCond .ne 10, 3) := by decide +kernel
theorem dX9_openOne_24 : decode cX9_openOne 24 = .ok (.aload_n 0, 1) := by decide +kernel
theorem dX9_openOne_25 : decode cX9_openOne 25 = .ok (.iload_n 1, 1) := by decide +kernel
theorem dX9_openOne_26 : decode cX9_openOne 26 = .ok (.iload_n 2, 1) := by decide +kernel
theorem dX9_openOne_27 : decode cX9_openOne 27 = .ok (.invokevirtual 108, 3) := by decide +kernel
theorem dX9_openOne_30 : decode cX9_openOne 30 = .ok (.ireturn, 1) := by decide +kernel
theorem dX9_openOne_31 : decode cX9_openOne 31 = .ok (.iinc 2 1, 3) := by decide +kernel
theorem dX9_openOne_34 : decode cX9_openOne 34 = .ok (.goto (-32), 3) := by decide +kernel
theorem dX9_openOne_37 : decode cX9_openOne 37 = .ok (.iconst 0, 1) := by decide +kernel
theorem dX9_openOne_38 : decode cX9_openOne 38 = .ok (.ireturn, 1) := by decide +kernel
theorem dX9_levelNow_0 : decode cX9_levelNow 0 = .ok (.iconst 0, 1) := by decide +kernel
theorem dX9_levelNow_1 : decode cX9_levelNow 1 = .ok (.istore_n 1, 1) := by decide +kernel
theorem dX9_levelNow_2 : decode cX9_levelNow 2 = .ok (.iconst 1, 1) := by decide +kernel
theorem dX9_levelNow_3 : decode cX9_levelNow 3 = .ok (.istore_n 2, 1) := by decide +kernel
theorem dX9_levelNow_4 : decode cX9_levelNow 4 = .ok (.iload_n 2, 1) := by decide +kernel
theorem dX9_levelNow_5 : decode cX9_levelNow 5 = .ok (.aload_n 0, 1) := by decide +kernel
theorem dX9_levelNow_6 : decode cX9_levelNow 6 = .ok (.getfield 7, 3) := by decide +kernel
theorem dX9_levelNow_9 : decode cX9_levelNow 9 = .ok (.iconst 0, 1) := by decide +kernel
theorem dX9_levelNow_10 : decode cX9_levelNow 10 = .ok (.iaload, 1) := by decide +kernel
theorem dX9_levelNow_11 : decode cX9_levelNow 11 = .ok (.if_icmp .gt 39, 3) := by decide +kernel
theorem dX9_levelNow_14 : decode cX9_levelNow 14 = .ok (.iload_n 1, 1) := by decide +kernel
theorem dX9_levelNow_15 : decode cX9_levelNow 15 = .ok (.aload_n 0, 1) := by decide +kernel
theorem dX9_levelNow_16 : decode cX9_levelNow 16 = .ok (.getfield 38, 3) := by decide +kernel
theorem dX9_levelNow_19 : decode cX9_levelNow 19 = .ok (.iload_n 2, 1) := by decide +kernel
theorem dX9_levelNow_20 : decode cX9_levelNow 20 = .ok (.baload, 1) := by decide +kernel
theorem dX9_levelNow_21 : decode cX9_levelNow 21 = .ok (.ifCond .eq 20, 3) := by decide +kernel
theorem dX9_levelNow_24 : decode cX9_levelNow 24 = .ok (.aload_n 0, 1) := by decide +kernel
theorem dX9_levelNow_25 : decode cX9_levelNow 25 = .ok (.getfield 26, 3) := by decide +kernel
theorem dX9_levelNow_28 : decode cX9_levelNow 28 = .ok (.iload_n 2, 1) := by decide +kernel
theorem dX9_levelNow_29 : decode cX9_levelNow 29 = .ok (.iaload, 1) := by decide +kernel
theorem dX9_levelNow_30 : decode cX9_levelNow 30 = .ok (.aload_n 0, 1) := by decide +kernel
theorem dX9_levelNow_31 : decode cX9_levelNow 31 = .ok (.getfield 105, 3) := by decide +kernel
theorem dX9_levelNow_34 : decode cX9_levelNow 34 = .ok (.if_icmp .ne 7, 3) := by decide +kernel
theorem dX9_levelNow_37 : decode cX9_levelNow 37 = .ok (.iconst 1, 1) := by decide +kernel
theorem dX9_levelNow_38 : decode cX9_levelNow 38 = .ok (.goto 4, 3) := by decide +kernel
theorem dX9_levelNow_41 : decode cX9_levelNow 41 = .ok (.iconst 0, 1) := by decide +kernel
theorem dX9_levelNow_42 : decode cX9_levelNow 42 = .ok (.iadd, 1) := by decide +kernel
theorem dX9_levelNow_43 : decode cX9_levelNow 43 = .ok (.istore_n 1, 1) := by decide +kernel
theorem dX9_levelNow_44 : decode cX9_levelNow 44 = .ok (.iinc 2 1, 3) := by decide +kernel
theorem dX9_levelNow_47 : decode cX9_levelNow 47 = .ok (.goto (-43), 3) := by decide +kernel
theorem dX9_levelNow_50 : decode cX9_levelNow 50 = .ok (.iload_n 1, 1) := by decide +kernel
theorem dX9_levelNow_51 : decode cX9_levelNow 51 = .ok (.ireturn, 1) := by decide +kernel
theorem dX9_latest_0 : decode cX9_latest 0 = .ok (.iconst 0, 1) := by decide +kernel
theorem dX9_latest_1 : decode cX9_latest 1 = .ok (.istore_n 1, 1) := by decide +kernel
theorem dX9_latest_2 : decode cX9_latest 2 = .ok (.iconst 1, 1) := by decide +kernel
theorem dX9_latest_3 : decode cX9_latest 3 = .ok (.istore_n 2, 1) := by decide +kernel
theorem dX9_latest_4 : decode cX9_latest 4 = .ok (.iload_n 2, 1) := by decide +kernel
theorem dX9_latest_5 : decode cX9_latest 5 = .ok (.aload_n 0, 1) := by decide +kernel
theorem dX9_latest_6 : decode cX9_latest 6 = .ok (.getfield 7, 3) := by decide +kernel
theorem dX9_latest_9 : decode cX9_latest 9 = .ok (.iconst 0, 1) := by decide +kernel
theorem dX9_latest_10 : decode cX9_latest 10 = .ok (.iaload, 1) := by decide +kernel
theorem dX9_latest_11 : decode cX9_latest 11 = .ok (.if_icmp .gt 52, 3) := by decide +kernel
theorem dX9_latest_14 : decode cX9_latest 14 = .ok (.aload_n 0, 1) := by decide +kernel
theorem dX9_latest_15 : decode cX9_latest 15 = .ok (.getfield 38, 3) := by decide +kernel
theorem dX9_latest_18 : decode cX9_latest 18 = .ok (.iload_n 2, 1) := by decide +kernel
theorem dX9_latest_19 : decode cX9_latest 19 = .ok (.baload, 1) := by decide +kernel
theorem dX9_latest_20 : decode cX9_latest 20 = .ok (.ifCond .eq 37, 3) := by decide +kernel
theorem dX9_latest_23 : decode cX9_latest 23 = .ok (.aload_n 0, 1) := by decide +kernel
theorem dX9_latest_24 : decode cX9_latest 24 = .ok (.getfield 26, 3) := by decide +kernel
theorem dX9_latest_27 : decode cX9_latest 27 = .ok (.iload_n 2, 1) := by decide +kernel
theorem dX9_latest_28 : decode cX9_latest 28 = .ok (.iaload, 1) := by decide +kernel
theorem dX9_latest_29 : decode cX9_latest 29 = .ok (.aload_n 0, 1) := by decide +kernel
theorem dX9_latest_30 : decode cX9_latest 30 = .ok (.getfield 105, 3) := by decide +kernel
theorem dX9_latest_33 : decode cX9_latest 33 = .ok (.if_icmp .ne 24, 3) := by decide +kernel
theorem dX9_latest_36 : decode cX9_latest 36 = .ok (.iload_n 1, 1) := by decide +kernel
theorem dX9_latest_37 : decode cX9_latest 37 = .ok (.ifCond .eq 18, 3) := by decide +kernel
theorem dX9_latest_40 : decode cX9_latest 40 = .ok (.aload_n 0, 1) := by decide +kernel
theorem dX9_latest_41 : decode cX9_latest 41 = .ok (.getfield 32, 3) := by decide +kernel
theorem dX9_latest_44 : decode cX9_latest 44 = .ok (.iload_n 2, 1) := by decide +kernel
theorem dX9_latest_45 : decode cX9_latest 45 = .ok (.iaload, 1) := by decide +kernel
theorem dX9_latest_46 : decode cX9_latest 46 = .ok (.aload_n 0, 1) := by decide +kernel
theorem dX9_latest_47 : decode cX9_latest 47 = .ok (.getfield 32, 3) := by decide +kernel
theorem dX9_latest_50 : decode cX9_latest 50 = .ok (.iload_n 1, 1) := by decide +kernel
theorem dX9_latest_51 : decode cX9_latest 51 = .ok (.iaload, 1) := by decide +kernel
theorem dX9_latest_52 : decode cX9_latest 52 = .ok (.if_icmp .le 5, 3) := by decide +kernel
theorem dX9_latest_55 : decode cX9_latest 55 = .ok (.iload_n 2, 1) := by decide +kernel
theorem dX9_latest_56 : decode cX9_latest 56 = .ok (.istore_n 1, 1) := by decide +kernel
theorem dX9_latest_57 : decode cX9_latest 57 = .ok (.iinc 2 1, 3) := by decide +kernel
theorem dX9_latest_60 : decode cX9_latest 60 = .ok (.goto (-56), 3) := by decide +kernel
theorem dX9_latest_63 : decode cX9_latest 63 = .ok (.iload_n 1, 1) := by decide +kernel
theorem dX9_latest_64 : decode cX9_latest 64 = .ok (.ireturn, 1) := by decide +kernel
theorem dX9_brings_0 : decode cX9_brings 0 = .ok (.iconst 0, 1) := by decide +kernel
theorem dX9_brings_1 : decode cX9_brings 1 = .ok (.istore_n 3, 1) := by decide +kernel
theorem dX9_brings_2 : decode cX9_brings 2 = .ok (.iload_n 3, 1) := by decide +kernel
theorem dX9_brings_3 : decode cX9_brings 3 = .ok (.aload_n 0, 1) := by decide +kernel
theorem dX9_brings_4 : decode cX9_brings 4 = .ok (.iload_n 1, 1) := by decide +kernel
theorem dX9_brings_5 : decode cX9_brings 5 = .ok (.invokevirtual 99, 3) := by decide +kernel
theorem dX9_brings_8 : decode cX9_brings 8 = .ok (.if_icmp .ge 55, 3) := by decide +kernel
theorem dX9_brings_11 : decode cX9_brings 11 = .ok (.aload_n 0, 1) := by decide +kernel
theorem dX9_brings_12 : decode cX9_brings 12 = .ok (.iload_n 1, 1) := by decide +kernel
theorem dX9_brings_13 : decode cX9_brings 13 = .ok (.iload_n 3, 1) := by decide +kernel
theorem dX9_brings_14 : decode cX9_brings 14 = .ok (.invokevirtual 108, 3) := by decide +kernel
theorem dX9_brings_17 : decode cX9_brings 17 = .ok (.invokestatic 71, 3) := by decide +kernel
theorem dX9_brings_20 : decode cX9_brings 20 = .ok (.istore 4, 2) := by decide +kernel
theorem dX9_brings_22 : decode cX9_brings 22 = .ok (.iload 4, 2) := by decide +kernel
theorem dX9_brings_24 : decode cX9_brings 24 = .ok (.iload_n 2, 1) := by decide +kernel
theorem dX9_brings_25 : decode cX9_brings 25 = .ok (.if_icmp .eq 32, 3) := by decide +kernel
theorem dX9_brings_28 : decode cX9_brings 28 = .ok (.aload_n 0, 1) := by decide +kernel
theorem dX9_brings_29 : decode cX9_brings 29 = .ok (.getfield 26, 3) := by decide +kernel
theorem dX9_brings_32 : decode cX9_brings 32 = .ok (.iload 4, 2) := by decide +kernel
theorem dX9_brings_34 : decode cX9_brings 34 = .ok (.iaload, 1) := by decide +kernel
theorem dX9_brings_35 : decode cX9_brings 35 = .ok (.ifCond .ne 6, 3) := by decide +kernel
theorem dX9_brings_38 : decode cX9_brings 38 = .ok (.goto 19, 3) := by decide +kernel
theorem dX9_brings_41 : decode cX9_brings 41 = .ok (.aload_n 0, 1) := by decide +kernel
theorem dX9_brings_42 : decode cX9_brings 42 = .ok (.getfield 38, 3) := by decide +kernel
theorem dX9_brings_45 : decode cX9_brings 45 = .ok (.iload 4, 2) := by decide +kernel
theorem dX9_brings_47 : decode cX9_brings 47 = .ok (.iconst 1, 1) := by decide +kernel
theorem dX9_brings_48 : decode cX9_brings 48 = .ok (.bastore, 1) := by decide +kernel
theorem dX9_brings_49 : decode cX9_brings 49 = .ok (.aload_n 0, 1) := by decide +kernel
theorem dX9_brings_50 : decode cX9_brings 50 = .ok (.getfield 41, 3) := by decide +kernel
theorem dX9_brings_53 : decode cX9_brings 53 = .ok (.iload 4, 2) := by decide +kernel
theorem dX9_brings_55 : decode cX9_brings 55 = .ok (.iconst 1, 1) := by decide +kernel
theorem dX9_brings_56 : decode cX9_brings 56 = .ok (.bastore, 1) := by decide +kernel
theorem dX9_brings_57 : decode cX9_brings 57 = .ok (.iinc 3 1, 3) := by decide +kernel
theorem dX9_brings_60 : decode cX9_brings 60 = .ok (.goto (-58), 3) := by decide +kernel
theorem dX9_brings_63 : decode cX9_brings 63 = .ok (.return_, 1) := by decide +kernel
theorem dX9_isDropped_0 : decode cX9_isDropped 0 = .ok (.aload_n 0, 1) := by decide +kernel
theorem dX9_isDropped_1 : decode cX9_isDropped 1 = .ok (.getfield 26, 3) := by decide +kernel
theorem dX9_isDropped_4 : decode cX9_isDropped 4 = .ok (.iload_n 1, 1) := by decide +kernel
theorem dX9_isDropped_5 : decode cX9_isDropped 5 = .ok (.iaload, 1) := by decide +kernel
theorem dX9_isDropped_6 : decode cX9_isDropped 6 = .ok (.aload_n 0, 1) := by decide +kernel
theorem dX9_isDropped_7 : decode cX9_isDropped 7 = .ok (.getfield 105, 3) := by decide +kernel
theorem dX9_isDropped_10 : decode cX9_isDropped 10 = .ok (.if_icmp .eq 13, 3) := by decide +kernel
theorem dX9_isDropped_13 : decode cX9_isDropped 13 = .ok (.aload_n 0, 1) := by decide +kernel
theorem dX9_isDropped_14 : decode cX9_isDropped 14 = .ok (.getfield 29, 3) := by decide +kernel
theorem dX9_isDropped_17 : decode cX9_isDropped 17 = .ok (.iload_n 1, 1) := by decide +kernel
theorem dX9_isDropped_18 : decode cX9_isDropped 18 = .ok (.iaload, 1) := by decide +kernel
theorem dX9_isDropped_19 : decode cX9_isDropped 19 = .ok (.iconst (-1), 1) := by decide +kernel
theorem dX9_isDropped_20 : decode cX9_isDropped 20 = .ok (.if_icmp .ne 5, 3) := by decide +kernel
theorem dX9_isDropped_23 : decode cX9_isDropped 23 = .ok (.iconst 0, 1) := by decide +kernel
theorem dX9_isDropped_24 : decode cX9_isDropped 24 = .ok (.ireturn, 1) := by decide +kernel
theorem dX9_isDropped_25 : decode cX9_isDropped 25 = .ok (.iconst 0, 1) := by decide +kernel
theorem dX9_isDropped_26 : decode cX9_isDropped 26 = .ok (.istore_n 2, 1) := by decide +kernel
theorem dX9_isDropped_27 : decode cX9_isDropped 27 = .ok (.iload_n 2, 1) := by decide +kernel
theorem dX9_isDropped_28 : decode cX9_isDropped 28 = .ok (.aload_n 0, 1) := by decide +kernel
theorem dX9_isDropped_29 : decode cX9_isDropped 29 = .ok (.aload_n 0, 1) := by decide +kernel
theorem dX9_isDropped_30 : decode cX9_isDropped 30 = .ok (.getfield 29, 3) := by decide +kernel
theorem dX9_isDropped_33 : decode cX9_isDropped 33 = .ok (.iload_n 1, 1) := by decide +kernel
theorem dX9_isDropped_34 : decode cX9_isDropped 34 = .ok (.iaload, 1) := by decide +kernel
theorem dX9_isDropped_35 : decode cX9_isDropped 35 = .ok (.invokevirtual 99, 3) := by decide +kernel
theorem dX9_isDropped_38 : decode cX9_isDropped 38 = .ok (.if_icmp .ge 49, 3) := by decide +kernel
theorem dX9_isDropped_41 : decode cX9_isDropped 41 = .ok (.aload_n 0, 1) := by decide +kernel
theorem dX9_isDropped_42 : decode cX9_isDropped 42 = .ok (.aload_n 0, 1) := by decide +kernel
theorem dX9_isDropped_43 : decode cX9_isDropped 43 = .ok (.getfield 29, 3) := by decide +kernel
theorem dX9_isDropped_46 : decode cX9_isDropped 46 = .ok (.iload_n 1, 1) := by decide +kernel
theorem dX9_isDropped_47 : decode cX9_isDropped 47 = .ok (.iaload, 1) := by decide +kernel
theorem dX9_isDropped_48 : decode cX9_isDropped 48 = .ok (.iload_n 2, 1) := by decide +kernel
theorem dX9_isDropped_49 : decode cX9_isDropped 49 = .ok (.invokevirtual 108, 3) := by decide +kernel
theorem dX9_isDropped_52 : decode cX9_isDropped 52 = .ok (.invokestatic 71, 3) := by decide +kernel
theorem dX9_isDropped_55 : decode cX9_isDropped 55 = .ok (.istore_n 3, 1) := by decide +kernel
theorem dX9_isDropped_56 : decode cX9_isDropped 56 = .ok (.iload_n 3, 1) := by decide +kernel
theorem dX9_isDropped_57 : decode cX9_isDropped 57 = .ok (.iload_n 1, 1) := by decide +kernel
theorem dX9_isDropped_58 : decode cX9_isDropped 58 = .ok (.if_icmp .eq 23, 3) := by decide +kernel
theorem dX9_isDropped_61 : decode cX9_isDropped 61 = .ok (.aload_n 0, 1) := by decide +kernel
theorem dX9_isDropped_62 : decode cX9_isDropped 62 = .ok (.getfield 26, 3) := by decide +kernel
theorem dX9_isDropped_65 : decode cX9_isDropped 65 = .ok (.iload_n 3, 1) := by decide +kernel
theorem dX9_isDropped_66 : decode cX9_isDropped 66 = .ok (.iaload, 1) := by decide +kernel
theorem dX9_isDropped_67 : decode cX9_isDropped 67 = .ok (.ifCond .le 14, 3) := by decide +kernel
theorem dX9_isDropped_70 : decode cX9_isDropped 70 = .ok (.aload_n 0, 1) := by decide +kernel
theorem dX9_isDropped_71 : decode cX9_isDropped 71 = .ok (.getfield 44, 3) := by decide +kernel
theorem dX9_isDropped_74 : decode cX9_isDropped 74 = .ok (.iload_n 3, 1) := by decide +kernel
theorem dX9_isDropped_75 : decode cX9_isDropped 75 = .ok (.baload, 1) := by decide +kernel
theorem dX9_isDropped_76 : decode cX9_isDropped 76 = .ok (.ifCond .ne 5, 3) := by decide +kernel
theorem dX9_isDropped_79 : decode cX9_isDropped 79 = .ok (.iconst 0, 1) := by decide +kernel
theorem dX9_isDropped_80 : decode cX9_isDropped 80 = .ok (.ireturn, 1) := by decide +kernel
theorem dX9_isDropped_81 : decode cX9_isDropped 81 = .ok (.iinc 2 1, 3) := by decide +kernel
theorem dX9_isDropped_84 : decode cX9_isDropped 84 = .ok (.goto (-57), 3) := by decide +kernel
theorem dX9_isDropped_87 : decode cX9_isDropped 87 = .ok (.iconst 1, 1) := by decide +kernel
theorem dX9_isDropped_88 : decode cX9_isDropped 88 = .ok (.ireturn, 1) := by decide +kernel
theorem dX9_learns_0 : decode cX9_learns 0 = .ok (.iconst 0, 1) := by decide +kernel
theorem dX9_learns_1 : decode cX9_learns 1 = .ok (.istore_n 2, 1) := by decide +kernel
theorem dX9_learns_2 : decode cX9_learns 2 = .ok (.iload_n 2, 1) := by decide +kernel
theorem dX9_learns_3 : decode cX9_learns 3 = .ok (.bipush 30, 2) := by decide +kernel
theorem dX9_learns_5 : decode cX9_learns 5 = .ok (.if_icmp .gt 23, 3) := by decide +kernel
theorem dX9_learns_8 : decode cX9_learns 8 = .ok (.aload_n 0, 1) := by decide +kernel
theorem dX9_learns_9 : decode cX9_learns 9 = .ok (.getfield 38, 3) := by decide +kernel
theorem dX9_learns_12 : decode cX9_learns 12 = .ok (.iload_n 2, 1) := by decide +kernel
theorem dX9_learns_13 : decode cX9_learns 13 = .ok (.iconst 0, 1) := by decide +kernel
theorem dX9_learns_14 : decode cX9_learns 14 = .ok (.bastore, 1) := by decide +kernel
theorem dX9_learns_15 : decode cX9_learns 15 = .ok (.aload_n 0, 1) := by decide +kernel
theorem dX9_learns_16 : decode cX9_learns 16 = .ok (.getfield 41, 3) := by decide +kernel
theorem dX9_learns_19 : decode cX9_learns 19 = .ok (.iload_n 2, 1) := by decide +kernel
theorem dX9_learns_20 : decode cX9_learns 20 = .ok (.iconst 0, 1) := by decide +kernel
theorem dX9_learns_21 : decode cX9_learns 21 = .ok (.bastore, 1) := by decide +kernel
theorem dX9_learns_22 : decode cX9_learns 22 = .ok (.iinc 2 1, 3) := by decide +kernel
theorem dX9_learns_25 : decode cX9_learns 25 = .ok (.goto (-23), 3) := by decide +kernel
theorem dX9_learns_28 : decode cX9_learns 28 = .ok (.aload_n 0, 1) := by decide +kernel
theorem dX9_learns_29 : decode cX9_learns 29 = .ok (.iload_n 1, 1) := by decide +kernel
theorem dX9_learns_30 : decode cX9_learns 30 = .ok (.iconst 0, 1) := by decide +kernel
theorem dX9_learns_31 : decode cX9_learns 31 = .ok (.invokevirtual 117, 3) := by decide +kernel
theorem dX9_learns_34 : decode cX9_learns 34 = .ok (.aload_n 0, 1) := by decide +kernel
theorem dX9_learns_35 : decode cX9_learns 35 = .ok (.invokevirtual 121, 3) := by decide +kernel
theorem dX9_learns_38 : decode cX9_learns 38 = .ok (.iconst 1, 1) := by decide +kernel
theorem dX9_learns_39 : decode cX9_learns 39 = .ok (.if_icmp .le 29, 3) := by decide +kernel
theorem dX9_learns_42 : decode cX9_learns 42 = .ok (.aload_n 0, 1) := by decide +kernel
theorem dX9_learns_43 : decode cX9_learns 43 = .ok (.invokevirtual 125, 3) := by decide +kernel
theorem dX9_learns_46 : decode cX9_learns 46 = .ok (.istore_n 2, 1) := by decide +kernel
theorem dX9_learns_47 : decode cX9_learns 47 = .ok (.aload_n 0, 1) := by decide +kernel
theorem dX9_learns_48 : decode cX9_learns 48 = .ok (.getfield 38, 3) := by decide +kernel
theorem dX9_learns_51 : decode cX9_learns 51 = .ok (.iload_n 2, 1) := by decide +kernel
theorem dX9_learns_52 : decode cX9_learns 52 = .ok (.iconst 0, 1) := by decide +kernel
theorem dX9_learns_53 : decode cX9_learns 53 = .ok (.bastore, 1) := by decide +kernel
theorem dX9_learns_54 : decode cX9_learns 54 = .ok (.aload_n 0, 1) := by decide +kernel
theorem dX9_learns_55 : decode cX9_learns 55 = .ok (.aload_n 0, 1) := by decide +kernel
theorem dX9_learns_56 : decode cX9_learns 56 = .ok (.getfield 29, 3) := by decide +kernel
theorem dX9_learns_59 : decode cX9_learns 59 = .ok (.iload_n 2, 1) := by decide +kernel
theorem dX9_learns_60 : decode cX9_learns 60 = .ok (.iaload, 1) := by decide +kernel
theorem dX9_learns_61 : decode cX9_learns 61 = .ok (.iload_n 2, 1) := by decide +kernel
theorem dX9_learns_62 : decode cX9_learns 62 = .ok (.invokevirtual 117, 3) := by decide +kernel
theorem dX9_learns_65 : decode cX9_learns 65 = .ok (.goto (-31), 3) := by decide +kernel
theorem dX9_learns_68 : decode cX9_learns 68 = .ok (.iconst 0, 1) := by decide +kernel
theorem dX9_learns_69 : decode cX9_learns 69 = .ok (.istore_n 2, 1) := by decide +kernel
theorem dX9_learns_70 : decode cX9_learns 70 = .ok (.iload_n 2, 1) := by decide +kernel
theorem dX9_learns_71 : decode cX9_learns 71 = .ok (.bipush 30, 2) := by decide +kernel
theorem dX9_learns_73 : decode cX9_learns 73 = .ok (.if_icmp .gt 21, 3) := by decide +kernel
theorem dX9_learns_76 : decode cX9_learns 76 = .ok (.aload_n 0, 1) := by decide +kernel
theorem dX9_learns_77 : decode cX9_learns 77 = .ok (.getfield 44, 3) := by decide +kernel
theorem dX9_learns_80 : decode cX9_learns 80 = .ok (.iload_n 2, 1) := by decide +kernel
theorem dX9_learns_81 : decode cX9_learns 81 = .ok (.aload_n 0, 1) := by decide +kernel
theorem dX9_learns_82 : decode cX9_learns 82 = .ok (.getfield 38, 3) := by decide +kernel
theorem dX9_learns_85 : decode cX9_learns 85 = .ok (.iload_n 2, 1) := by decide +kernel
theorem dX9_learns_86 : decode cX9_learns 86 = .ok (.baload, 1) := by decide +kernel
theorem dX9_learns_87 : decode cX9_learns 87 = .ok (.bastore, 1) := by decide +kernel
theorem dX9_learns_88 : decode cX9_learns 88 = .ok (.iinc 2 1, 3) := by decide +kernel
theorem dX9_learns_91 : decode cX9_learns 91 = .ok (.goto (-21), 3) := by decide +kernel
theorem dX9_learns_94 : decode cX9_learns 94 = .ok (.iconst 1, 1) := by decide +kernel
theorem dX9_learns_95 : decode cX9_learns 95 = .ok (.istore_n 2, 1) := by decide +kernel
theorem dX9_learns_96 : decode cX9_learns 96 = .ok (.iload_n 2, 1) := by decide +kernel
theorem dX9_learns_97 : decode cX9_learns 97 = .ok (.aload_n 0, 1) := by decide +kernel
theorem dX9_learns_98 : decode cX9_learns 98 = .ok (.getfield 7, 3) := by decide +kernel
theorem dX9_learns_101 : decode cX9_learns 101 = .ok (.iconst 0, 1) := by decide +kernel
theorem dX9_learns_102 : decode cX9_learns 102 = .ok (.iaload, 1) := by decide +kernel
theorem dX9_learns_103 : decode cX9_learns 103 = .ok (.if_icmp .gt 37, 3) := by decide +kernel
theorem dX9_learns_106 : decode cX9_learns 106 = .ok (.aload_n 0, 1) := by decide +kernel
theorem dX9_learns_107 : decode cX9_learns 107 = .ok (.getfield 38, 3) := by decide +kernel
theorem dX9_learns_110 : decode cX9_learns 110 = .ok (.iload_n 2, 1) := by decide +kernel
theorem dX9_learns_111 : decode cX9_learns 111 = .ok (.aload_n 0, 1) := by decide +kernel
theorem dX9_learns_112 : decode cX9_learns 112 = .ok (.getfield 38, 3) := by decide +kernel
theorem dX9_learns_115 : decode cX9_learns 115 = .ok (.iload_n 2, 1) := by decide +kernel
theorem dX9_learns_116 : decode cX9_learns 116 = .ok (.baload, 1) := by decide +kernel
theorem dX9_learns_117 : decode cX9_learns 117 = .ok (.ifCond .eq 15, 3) := by decide +kernel
theorem dX9_learns_120 : decode cX9_learns 120 = .ok (.aload_n 0, 1) := by decide +kernel
theorem dX9_learns_121 : decode cX9_learns 121 = .ok (.iload_n 2, 1) := by decide +kernel
theorem dX9_learns_122 : decode cX9_learns 122 = .ok (.invokevirtual 128, 3) := by decide +kernel
theorem dX9_learns_125 : decode cX9_learns 125 = .ok (.ifCond .ne 7, 3) := by decide +kernel
theorem dX9_learns_128 : decode cX9_learns 128 = .ok (.iconst 1, 1) := by decide +kernel
theorem dX9_learns_129 : decode cX9_learns 129 = .ok (.goto 4, 3) := by decide +kernel
theorem dX9_learns_132 : decode cX9_learns 132 = .ok (.iconst 0, 1) := by decide +kernel
theorem dX9_learns_133 : decode cX9_learns 133 = .ok (.bastore, 1) := by decide +kernel
theorem dX9_learns_134 : decode cX9_learns 134 = .ok (.iinc 2 1, 3) := by decide +kernel
theorem dX9_learns_137 : decode cX9_learns 137 = .ok (.goto (-41), 3) := by decide +kernel
theorem dX9_learns_140 : decode cX9_learns 140 = .ok (.iconst 0, 1) := by decide +kernel
theorem dX9_learns_141 : decode cX9_learns 141 = .ok (.istore_n 2, 1) := by decide +kernel
theorem dX9_learns_142 : decode cX9_learns 142 = .ok (.iconst 1, 1) := by decide +kernel
theorem dX9_learns_143 : decode cX9_learns 143 = .ok (.istore_n 3, 1) := by decide +kernel
theorem dX9_learns_144 : decode cX9_learns 144 = .ok (.iload_n 3, 1) := by decide +kernel
theorem dX9_learns_145 : decode cX9_learns 145 = .ok (.aload_n 0, 1) := by decide +kernel
theorem dX9_learns_146 : decode cX9_learns 146 = .ok (.getfield 7, 3) := by decide +kernel
theorem dX9_learns_149 : decode cX9_learns 149 = .ok (.iconst 0, 1) := by decide +kernel
theorem dX9_learns_150 : decode cX9_learns 150 = .ok (.iaload, 1) := by decide +kernel
theorem dX9_learns_151 : decode cX9_learns 151 = .ok (.if_icmp .gt 26, 3) := by decide +kernel
theorem dX9_learns_154 : decode cX9_learns 154 = .ok (.iload_n 2, 1) := by decide +kernel
theorem dX9_learns_155 : decode cX9_learns 155 = .ok (.aload_n 0, 1) := by decide +kernel
theorem dX9_learns_156 : decode cX9_learns 156 = .ok (.getfield 38, 3) := by decide +kernel
theorem dX9_learns_159 : decode cX9_learns 159 = .ok (.iload_n 3, 1) := by decide +kernel
theorem dX9_learns_160 : decode cX9_learns 160 = .ok (.baload, 1) := by decide +kernel
theorem dX9_learns_161 : decode cX9_learns 161 = .ok (.ifCond .eq 7, 3) := by decide +kernel
theorem dX9_learns_164 : decode cX9_learns 164 = .ok (.iconst 1, 1) := by decide +kernel
theorem dX9_learns_165 : decode cX9_learns 165 = .ok (.goto 4, 3) := by decide +kernel
theorem dX9_learns_168 : decode cX9_learns 168 = .ok (.iconst 0, 1) := by decide +kernel
theorem dX9_learns_169 : decode cX9_learns 169 = .ok (.iadd, 1) := by decide +kernel
theorem dX9_learns_170 : decode cX9_learns 170 = .ok (.istore_n 2, 1) := by decide +kernel
theorem dX9_learns_171 : decode cX9_learns 171 = .ok (.iinc 3 1, 3) := by decide +kernel
theorem dX9_learns_174 : decode cX9_learns 174 = .ok (.goto (-30), 3) := by decide +kernel
theorem dX9_learns_177 : decode cX9_learns 177 = .ok (.aload_n 0, 1) := by decide +kernel
theorem dX9_learns_178 : decode cX9_learns 178 = .ok (.iconst 1, 1) := by decide +kernel
theorem dX9_learns_179 : decode cX9_learns 179 = .ok (.iload_n 2, 1) := by decide +kernel
theorem dX9_learns_180 : decode cX9_learns 180 = .ok (.invokevirtual 89, 3) := by decide +kernel
theorem dX9_learns_183 : decode cX9_learns 183 = .ok (.istore_n 3, 1) := by decide +kernel
theorem dX9_learns_184 : decode cX9_learns 184 = .ok (.iconst 0, 1) := by decide +kernel
theorem dX9_learns_185 : decode cX9_learns 185 = .ok (.istore 4, 2) := by decide +kernel
theorem dX9_learns_187 : decode cX9_learns 187 = .ok (.aload_n 0, 1) := by decide +kernel
theorem dX9_learns_188 : decode cX9_learns 188 = .ok (.getfield 105, 3) := by decide +kernel
theorem dX9_learns_191 : decode cX9_learns 191 = .ok (.istore 5, 2) := by decide +kernel
theorem dX9_learns_193 : decode cX9_learns 193 = .ok (.iload 5, 2) := by decide +kernel
theorem dX9_learns_195 : decode cX9_learns 195 = .ok (.ifCond .le 91, 3) := by decide +kernel
theorem dX9_learns_198 : decode cX9_learns 198 = .ok (.iconst 1, 1) := by decide +kernel
theorem dX9_learns_199 : decode cX9_learns 199 = .ok (.istore 6, 2) := by decide +kernel
theorem dX9_learns_201 : decode cX9_learns 201 = .ok (.iload 6, 2) := by decide +kernel
theorem dX9_learns_203 : decode cX9_learns 203 = .ok (.aload_n 0, 1) := by decide +kernel
theorem dX9_learns_204 : decode cX9_learns 204 = .ok (.getfield 7, 3) := by decide +kernel
theorem dX9_learns_207 : decode cX9_learns 207 = .ok (.iconst 0, 1) := by decide +kernel
theorem dX9_learns_208 : decode cX9_learns 208 = .ok (.iaload, 1) := by decide +kernel
theorem dX9_learns_209 : decode cX9_learns 209 = .ok (.if_icmp .gt 71, 3) := by decide +kernel
theorem dX9_learns_212 : decode cX9_learns 212 = .ok (.aload_n 0, 1) := by decide +kernel
theorem dX9_learns_213 : decode cX9_learns 213 = .ok (.getfield 38, 3) := by decide +kernel
theorem dX9_learns_216 : decode cX9_learns 216 = .ok (.iload 6, 2) := by decide +kernel
theorem dX9_learns_218 : decode cX9_learns 218 = .ok (.baload, 1) := by decide +kernel
theorem dX9_learns_219 : decode cX9_learns 219 = .ok (.ifCond .eq 55, 3) := by decide +kernel
theorem dX9_learns_222 : decode cX9_learns 222 = .ok (.aload_n 0, 1) := by decide +kernel
theorem dX9_learns_223 : decode cX9_learns 223 = .ok (.getfield 26, 3) := by decide +kernel
theorem dX9_learns_226 : decode cX9_learns 226 = .ok (.iload 6, 2) := by decide +kernel
theorem dX9_learns_228 : decode cX9_learns 228 = .ok (.iaload, 1) := by decide +kernel
theorem dX9_learns_229 : decode cX9_learns 229 = .ok (.iload 5, 2) := by decide +kernel
theorem dX9_learns_231 : decode cX9_learns 231 = .ok (.if_icmp .eq 6, 3) := by decide +kernel
theorem dX9_learns_234 : decode cX9_learns 234 = .ok (.goto 40, 3) := by decide +kernel
theorem dX9_learns_237 : decode cX9_learns 237 = .ok (.aload_n 0, 1) := by decide +kernel
theorem dX9_learns_238 : decode cX9_learns 238 = .ok (.getfield 7, 3) := by decide +kernel
theorem dX9_learns_241 : decode cX9_learns 241 = .ok (.sipush 1326, 3) := by decide +kernel
theorem dX9_learns_244 : decode cX9_learns 244 = .ok (.bipush 30, 2) := by decide +kernel
theorem dX9_learns_246 : decode cX9_learns 246 = .ok (.iload_n 3, 1) := by decide +kernel
theorem dX9_learns_247 : decode cX9_learns 247 = .ok (.imul, 1) := by decide +kernel
theorem dX9_learns_248 : decode cX9_learns 248 = .ok (.iadd, 1) := by decide +kernel
theorem dX9_learns_249 : decode cX9_learns 249 = .ok (.iload 4, 2) := by decide +kernel
theorem dX9_learns_251 : decode cX9_learns 251 = .ok (.iadd, 1) := by decide +kernel
theorem dX9_learns_252 : decode cX9_learns 252 = .ok (.aload_n 0, 1) := by decide +kernel
theorem dX9_learns_253 : decode cX9_learns 253 = .ok (.getfield 23, 3) := by decide +kernel
theorem dX9_learns_256 : decode cX9_learns 256 = .ok (.iload 6, 2) := by decide +kernel
theorem dX9_learns_258 : decode cX9_learns 258 = .ok (.iaload, 1) := by decide +kernel
theorem dX9_learns_259 : decode cX9_learns 259 = .ok (.ifCond .le 9, 3) := by decide +kernel
theorem dX9_learns_262 : decode cX9_learns 262 = .ok (.iload 6, 2) := by decide +kernel
theorem dX9_learns_264 : decode cX9_learns 264 = .ok (.ineg, 1) := by decide +kernel
theorem dX9_learns_265 : decode cX9_learns 265 = .ok (.goto 5, 3) := by decide +kernel
theorem dX9_learns_268 : decode cX9_learns 268 = .ok (.iload 6, 2) := by decide +kernel
theorem dX9_learns_270 : decode cX9_learns 270 = .ok (.iastore, 1) := by decide +kernel
theorem dX9_learns_271 : decode cX9_learns 271 = .ok (.iinc 4 1, 3) := by decide +kernel
theorem dX9_learns_274 : decode cX9_learns 274 = .ok (.iinc 6 1, 3) := by decide +kernel
theorem dX9_learns_277 : decode cX9_learns 277 = .ok (.goto (-76), 3) := by decide +kernel
theorem dX9_learns_280 : decode cX9_learns 280 = .ok (.iinc 5 (-1), 3) := by decide +kernel
theorem dX9_learns_283 : decode cX9_learns 283 = .ok (.goto (-90), 3) := by decide +kernel
theorem dX9_learns_286 : decode cX9_learns 286 = .ok (.aload_n 0, 1) := by decide +kernel
theorem dX9_learns_287 : decode cX9_learns 287 = .ok (.getfield 7, 3) := by decide +kernel
theorem dX9_learns_290 : decode cX9_learns 290 = .ok (.sipush 925, 3) := by decide +kernel
theorem dX9_learns_293 : decode cX9_learns 293 = .ok (.aload_n 0, 1) := by decide +kernel
theorem dX9_learns_294 : decode cX9_learns 294 = .ok (.getfield 7, 3) := by decide +kernel
theorem dX9_learns_297 : decode cX9_learns 297 = .ok (.bipush 6, 2) := by decide +kernel
theorem dX9_learns_299 : decode cX9_learns 299 = .ok (.iaload, 1) := by decide +kernel
theorem dX9_learns_300 : decode cX9_learns 300 = .ok (.iadd, 1) := by decide +kernel
theorem dX9_learns_301 : decode cX9_learns 301 = .ok (.iload_n 3, 1) := by decide +kernel
theorem dX9_learns_302 : decode cX9_learns 302 = .ok (.iastore, 1) := by decide +kernel
theorem dX9_learns_303 : decode cX9_learns 303 = .ok (.aload_n 0, 1) := by decide +kernel
theorem dX9_learns_304 : decode cX9_learns 304 = .ok (.getfield 7, 3) := by decide +kernel
theorem dX9_learns_307 : decode cX9_learns 307 = .ok (.bipush 6, 2) := by decide +kernel
theorem dX9_learns_309 : decode cX9_learns 309 = .ok (.dup2, 1) := by decide +kernel
theorem dX9_learns_310 : decode cX9_learns 310 = .ok (.iaload, 1) := by decide +kernel
theorem dX9_learns_311 : decode cX9_learns 311 = .ok (.iconst 1, 1) := by decide +kernel
theorem dX9_learns_312 : decode cX9_learns 312 = .ok (.iadd, 1) := by decide +kernel
theorem dX9_learns_313 : decode cX9_learns 313 = .ok (.iastore, 1) := by decide +kernel
theorem dX9_learns_314 : decode cX9_learns 314 = .ok (.aload_n 0, 1) := by decide +kernel
theorem dX9_learns_315 : decode cX9_learns 315 = .ok (.getfield 7, 3) := by decide +kernel
theorem dX9_learns_318 : decode cX9_learns 318 = .ok (.bipush 8, 2) := by decide +kernel
theorem dX9_learns_320 : decode cX9_learns 320 = .ok (.dup2, 1) := by decide +kernel
theorem dX9_learns_321 : decode cX9_learns 321 = .ok (.iaload, 1) := by decide +kernel
theorem dX9_learns_322 : decode cX9_learns 322 = .ok (.iconst 1, 1) := by decide +kernel
theorem dX9_learns_323 : decode cX9_learns 323 = .ok (.iadd, 1) := by decide +kernel
theorem dX9_learns_324 : decode cX9_learns 324 = .ok (.iastore, 1) := by decide +kernel
theorem dX9_learns_325 : decode cX9_learns 325 = .ok (.iconst 1, 1) := by decide +kernel
theorem dX9_learns_326 : decode cX9_learns 326 = .ok (.istore 5, 2) := by decide +kernel
theorem dX9_learns_328 : decode cX9_learns 328 = .ok (.iload 5, 2) := by decide +kernel
theorem dX9_learns_330 : decode cX9_learns 330 = .ok (.aload_n 0, 1) := by decide +kernel
theorem dX9_learns_331 : decode cX9_learns 331 = .ok (.getfield 7, 3) := by decide +kernel
theorem dX9_learns_334 : decode cX9_learns 334 = .ok (.iconst 0, 1) := by decide +kernel
theorem dX9_learns_335 : decode cX9_learns 335 = .ok (.iaload, 1) := by decide +kernel
theorem dX9_learns_336 : decode cX9_learns 336 = .ok (.if_icmp .gt 64, 3) := by decide +kernel
theorem dX9_learns_339 : decode cX9_learns 339 = .ok (.aload_n 0, 1) := by decide +kernel
theorem dX9_learns_340 : decode cX9_learns 340 = .ok (.getfield 7, 3) := by decide +kernel
theorem dX9_learns_343 : decode cX9_learns 343 = .ok (.bipush 63, 2) := by decide +kernel
theorem dX9_learns_345 : decode cX9_learns 345 = .ok (.iload 5, 2) := by decide +kernel
theorem dX9_learns_347 : decode cX9_learns 347 = .ok (.iadd, 1) := by decide +kernel
theorem dX9_learns_348 : decode cX9_learns 348 = .ok (.dup2, 1) := by decide +kernel
theorem dX9_learns_349 : decode cX9_learns 349 = .ok (.iaload, 1) := by decide +kernel
theorem dX9_learns_350 : decode cX9_learns 350 = .ok (.aload_n 0, 1) := by decide +kernel
theorem dX9_learns_351 : decode cX9_learns 351 = .ok (.getfield 41, 3) := by decide +kernel
theorem dX9_learns_354 : decode cX9_learns 354 = .ok (.iload 5, 2) := by decide +kernel
theorem dX9_learns_356 : decode cX9_learns 356 = .ok (.baload, 1) := by decide +kernel
theorem dX9_learns_357 : decode cX9_learns 357 = .ok (.ifCond .eq 8, 3) := by decide +kernel
theorem dX9_learns_360 : decode cX9_learns 360 = .ok (.bipush 16, 2) := by decide +kernel
theorem dX9_learns_362 : decode cX9_learns 362 = .ok (.goto 4, 3) := by decide +kernel
theorem dX9_learns_365 : decode cX9_learns 365 = .ok (.iconst 0, 1) := by decide +kernel
theorem dX9_learns_366 : decode cX9_learns 366 = .ok (.iadd, 1) := by decide +kernel
theorem dX9_learns_367 : decode cX9_learns 367 = .ok (.iastore, 1) := by decide +kernel
theorem dX9_learns_368 : decode cX9_learns 368 = .ok (.aload_n 0, 1) := by decide +kernel
theorem dX9_learns_369 : decode cX9_learns 369 = .ok (.getfield 7, 3) := by decide +kernel
theorem dX9_learns_372 : decode cX9_learns 372 = .ok (.bipush 63, 2) := by decide +kernel
theorem dX9_learns_374 : decode cX9_learns 374 = .ok (.iload 5, 2) := by decide +kernel
theorem dX9_learns_376 : decode cX9_learns 376 = .ok (.iadd, 1) := by decide +kernel
theorem dX9_learns_377 : decode cX9_learns 377 = .ok (.dup2, 1) := by decide +kernel
theorem dX9_learns_378 : decode cX9_learns 378 = .ok (.iaload, 1) := by decide +kernel
theorem dX9_learns_379 : decode cX9_learns 379 = .ok (.aload_n 0, 1) := by decide +kernel
theorem dX9_learns_380 : decode cX9_learns 380 = .ok (.getfield 7, 3) := by decide +kernel
theorem dX9_learns_383 : decode cX9_learns 383 = .ok (.bipush 63, 2) := by decide +kernel
theorem dX9_learns_385 : decode cX9_learns 385 = .ok (.iload 5, 2) := by decide +kernel
theorem dX9_learns_387 : decode cX9_learns 387 = .ok (.iadd, 1) := by decide +kernel
theorem dX9_learns_388 : decode cX9_learns 388 = .ok (.iaload, 1) := by decide +kernel
theorem dX9_learns_389 : decode cX9_learns 389 = .ok (.bipush 8, 2) := by decide +kernel
theorem dX9_learns_391 : decode cX9_learns 391 = .ok (.idiv, 1) := by decide +kernel
theorem dX9_learns_392 : decode cX9_learns 392 = .ok (.isub, 1) := by decide +kernel
theorem dX9_learns_393 : decode cX9_learns 393 = .ok (.iastore, 1) := by decide +kernel
theorem dX9_learns_394 : decode cX9_learns 394 = .ok (.iinc 5 1, 3) := by decide +kernel
theorem dX9_learns_397 : decode cX9_learns 397 = .ok (.goto (-69), 3) := by decide +kernel
theorem dX9_learns_400 : decode cX9_learns 400 = .ok (.aload_n 0, 1) := by decide +kernel
theorem dX9_learns_401 : decode cX9_learns 401 = .ok (.iload_n 2, 1) := by decide +kernel
theorem dX9_learns_402 : decode cX9_learns 402 = .ok (.iconst 1, 1) := by decide +kernel
theorem dX9_learns_403 : decode cX9_learns 403 = .ok (.if_icmp .le 20, 3) := by decide +kernel
theorem dX9_learns_406 : decode cX9_learns 406 = .ok (.aload_n 0, 1) := by decide +kernel
theorem dX9_learns_407 : decode cX9_learns 407 = .ok (.getfield 26, 3) := by decide +kernel
theorem dX9_learns_410 : decode cX9_learns 410 = .ok (.aload_n 0, 1) := by decide +kernel
theorem dX9_learns_411 : decode cX9_learns 411 = .ok (.iload_n 3, 1) := by decide +kernel
theorem dX9_learns_412 : decode cX9_learns 412 = .ok (.iconst 1, 1) := by decide +kernel
theorem dX9_learns_413 : decode cX9_learns 413 = .ok (.invokevirtual 108, 3) := by decide +kernel
theorem dX9_learns_416 : decode cX9_learns 416 = .ok (.invokestatic 71, 3) := by decide +kernel
theorem dX9_learns_419 : decode cX9_learns 419 = .ok (.iaload, 1) := by decide +kernel
theorem dX9_learns_420 : decode cX9_learns 420 = .ok (.goto 4, 3) := by decide +kernel
theorem dX9_learns_423 : decode cX9_learns 423 = .ok (.iconst 0, 1) := by decide +kernel
theorem dX9_learns_424 : decode cX9_learns 424 = .ok (.invokevirtual 131, 3) := by decide +kernel
theorem dX9_learns_427 : decode cX9_learns 427 = .ok (.aload_n 0, 1) := by decide +kernel
theorem dX9_learns_428 : decode cX9_learns 428 = .ok (.aload_n 0, 1) := by decide +kernel
theorem dX9_learns_429 : decode cX9_learns 429 = .ok (.iload_n 3, 1) := by decide +kernel
theorem dX9_learns_430 : decode cX9_learns 430 = .ok (.iconst 0, 1) := by decide +kernel
theorem dX9_learns_431 : decode cX9_learns 431 = .ok (.invokevirtual 108, 3) := by decide +kernel
theorem dX9_learns_434 : decode cX9_learns 434 = .ok (.iload_n 3, 1) := by decide +kernel
theorem dX9_learns_435 : decode cX9_learns 435 = .ok (.invokevirtual 135, 3) := by decide +kernel
theorem dX9_learns_438 : decode cX9_learns 438 = .ok (.return_, 1) := by decide +kernel
theorem dX9_luby_0 : decode cX9_luby 0 = .ok (.iconst 1, 1) := by decide +kernel
theorem dX9_luby_1 : decode cX9_luby 1 = .ok (.istore_n 1, 1) := by decide +kernel
theorem dX9_luby_2 : decode cX9_luby 2 = .ok (.iconst 2, 1) := by decide +kernel
theorem dX9_luby_3 : decode cX9_luby 3 = .ok (.iload_n 1, 1) := by decide +kernel
theorem dX9_luby_4 : decode cX9_luby 4 = .ok (.imul, 1) := by decide +kernel
theorem dX9_luby_5 : decode cX9_luby 5 = .ok (.iconst 1, 1) := by decide +kernel
theorem dX9_luby_6 : decode cX9_luby 6 = .ok (.isub, 1) := by decide +kernel
theorem dX9_luby_7 : decode cX9_luby 7 = .ok (.iload_n 0, 1) := by decide +kernel
theorem dX9_luby_8 : decode cX9_luby 8 = .ok (.if_icmp .ge 10, 3) := by decide +kernel
theorem dX9_luby_11 : decode cX9_luby 11 = .ok (.iload_n 1, 1) := by decide +kernel
theorem dX9_luby_12 : decode cX9_luby 12 = .ok (.iconst 2, 1) := by decide +kernel
theorem dX9_luby_13 : decode cX9_luby 13 = .ok (.imul, 1) := by decide +kernel
theorem dX9_luby_14 : decode cX9_luby 14 = .ok (.istore_n 1, 1) := by decide +kernel
theorem dX9_luby_15 : decode cX9_luby 15 = .ok (.goto (-13), 3) := by decide +kernel
theorem dX9_luby_18 : decode cX9_luby 18 = .ok (.iconst 2, 1) := by decide +kernel
theorem dX9_luby_19 : decode cX9_luby 19 = .ok (.iload_n 1, 1) := by decide +kernel
theorem dX9_luby_20 : decode cX9_luby 20 = .ok (.imul, 1) := by decide +kernel
theorem dX9_luby_21 : decode cX9_luby 21 = .ok (.iconst 1, 1) := by decide +kernel
theorem dX9_luby_22 : decode cX9_luby 22 = .ok (.isub, 1) := by decide +kernel
theorem dX9_luby_23 : decode cX9_luby 23 = .ok (.iload_n 0, 1) := by decide +kernel
theorem dX9_luby_24 : decode cX9_luby 24 = .ok (.if_icmp .ne 7, 3) := by decide +kernel
theorem dX9_luby_27 : decode cX9_luby 27 = .ok (.iload_n 1, 1) := by decide +kernel
theorem dX9_luby_28 : decode cX9_luby 28 = .ok (.goto 11, 3) := by decide +kernel
theorem dX9_luby_31 : decode cX9_luby 31 = .ok (.iload_n 0, 1) := by decide +kernel
theorem dX9_luby_32 : decode cX9_luby 32 = .ok (.iload_n 1, 1) := by decide +kernel
theorem dX9_luby_33 : decode cX9_luby 33 = .ok (.isub, 1) := by decide +kernel
theorem dX9_luby_34 : decode cX9_luby 34 = .ok (.iconst 1, 1) := by decide +kernel
theorem dX9_luby_35 : decode cX9_luby 35 = .ok (.iadd, 1) := by decide +kernel
theorem dX9_luby_36 : decode cX9_luby 36 = .ok (.invokestatic 138, 3) := by decide +kernel
theorem dX9_luby_39 : decode cX9_luby 39 = .ok (.ireturn, 1) := by decide +kernel
theorem dX9_startsAnew_0 : decode cX9_startsAnew 0 = .ok (.aload_n 0, 1) := by decide +kernel
theorem dX9_startsAnew_1 : decode cX9_startsAnew 1 = .ok (.dup, 1) := by decide +kernel
theorem dX9_startsAnew_2 : decode cX9_startsAnew 2 = .ok (.getfield 141, 3) := by decide +kernel
theorem dX9_startsAnew_5 : decode cX9_startsAnew 5 = .ok (.iconst 1, 1) := by decide +kernel
theorem dX9_startsAnew_6 : decode cX9_startsAnew 6 = .ok (.iadd, 1) := by decide +kernel
theorem dX9_startsAnew_7 : decode cX9_startsAnew 7 = .ok (.putfield 141, 3) := by decide +kernel
theorem dX9_startsAnew_10 : decode cX9_startsAnew 10 = .ok (.aload_n 0, 1) := by decide +kernel
theorem dX9_startsAnew_11 : decode cX9_startsAnew 11 = .ok (.getfield 7, 3) := by decide +kernel
theorem dX9_startsAnew_14 : decode cX9_startsAnew 14 = .ok (.iconst 5, 1) := by decide +kernel
theorem dX9_startsAnew_15 : decode cX9_startsAnew 15 = .ok (.iaload, 1) := by decide +kernel
theorem dX9_startsAnew_16 : decode cX9_startsAnew 16 = .ok (.ifCond .eq 26, 3) := by decide +kernel
theorem dX9_startsAnew_19 : decode cX9_startsAnew 19 = .ok (.aload_n 0, 1) := by decide +kernel
theorem dX9_startsAnew_20 : decode cX9_startsAnew 20 = .ok (.getfield 141, 3) := by decide +kernel
theorem dX9_startsAnew_23 : decode cX9_startsAnew 23 = .ok (.aload_n 0, 1) := by decide +kernel
theorem dX9_startsAnew_24 : decode cX9_startsAnew 24 = .ok (.getfield 7, 3) := by decide +kernel
theorem dX9_startsAnew_27 : decode cX9_startsAnew 27 = .ok (.iconst 5, 1) := by decide +kernel
theorem dX9_startsAnew_28 : decode cX9_startsAnew 28 = .ok (.iaload, 1) := by decide +kernel
theorem dX9_startsAnew_29 : decode cX9_startsAnew 29 = .ok (.aload_n 0, 1) := by decide +kernel
theorem dX9_startsAnew_30 : decode cX9_startsAnew 30 = .ok (.getfield 144, 3) := by decide +kernel
theorem dX9_startsAnew_33 : decode cX9_startsAnew 33 = .ok (.iconst 1, 1) := by decide +kernel
theorem dX9_startsAnew_34 : decode cX9_startsAnew 34 = .ok (.iadd, 1) := by decide +kernel
theorem dX9_startsAnew_35 : decode cX9_startsAnew 35 = .ok (.invokestatic 138, 3) := by decide +kernel
theorem dX9_startsAnew_38 : decode cX9_startsAnew 38 = .ok (.imul, 1) := by decide +kernel
theorem dX9_startsAnew_39 : decode cX9_startsAnew 39 = .ok (.if_icmp .ge 4, 3) := by decide +kernel
theorem dX9_startsAnew_42 : decode cX9_startsAnew 42 = .ok (.return_, 1) := by decide +kernel
theorem dX9_startsAnew_43 : decode cX9_startsAnew 43 = .ok (.aload_n 0, 1) := by decide +kernel
theorem dX9_startsAnew_44 : decode cX9_startsAnew 44 = .ok (.dup, 1) := by decide +kernel
theorem dX9_startsAnew_45 : decode cX9_startsAnew 45 = .ok (.getfield 144, 3) := by decide +kernel
theorem dX9_startsAnew_48 : decode cX9_startsAnew 48 = .ok (.iconst 1, 1) := by decide +kernel
theorem dX9_startsAnew_49 : decode cX9_startsAnew 49 = .ok (.iadd, 1) := by decide +kernel
theorem dX9_startsAnew_50 : decode cX9_startsAnew 50 = .ok (.putfield 144, 3) := by decide +kernel
theorem dX9_startsAnew_53 : decode cX9_startsAnew 53 = .ok (.aload_n 0, 1) := by decide +kernel
theorem dX9_startsAnew_54 : decode cX9_startsAnew 54 = .ok (.iconst 0, 1) := by decide +kernel
theorem dX9_startsAnew_55 : decode cX9_startsAnew 55 = .ok (.putfield 141, 3) := by decide +kernel
theorem dX9_startsAnew_58 : decode cX9_startsAnew 58 = .ok (.aload_n 0, 1) := by decide +kernel
theorem dX9_startsAnew_59 : decode cX9_startsAnew 59 = .ok (.getfield 7, 3) := by decide +kernel
theorem dX9_startsAnew_62 : decode cX9_startsAnew 62 = .ok (.bipush 11, 2) := by decide +kernel
theorem dX9_startsAnew_64 : decode cX9_startsAnew 64 = .ok (.dup2, 1) := by decide +kernel
theorem dX9_startsAnew_65 : decode cX9_startsAnew 65 = .ok (.iaload, 1) := by decide +kernel
theorem dX9_startsAnew_66 : decode cX9_startsAnew 66 = .ok (.iconst 1, 1) := by decide +kernel
theorem dX9_startsAnew_67 : decode cX9_startsAnew 67 = .ok (.iadd, 1) := by decide +kernel
theorem dX9_startsAnew_68 : decode cX9_startsAnew 68 = .ok (.iastore, 1) := by decide +kernel
theorem dX9_startsAnew_69 : decode cX9_startsAnew 69 = .ok (.aload_n 0, 1) := by decide +kernel
theorem dX9_startsAnew_70 : decode cX9_startsAnew 70 = .ok (.iconst 0, 1) := by decide +kernel
theorem dX9_startsAnew_71 : decode cX9_startsAnew 71 = .ok (.invokevirtual 131, 3) := by decide +kernel
theorem dX9_startsAnew_74 : decode cX9_startsAnew 74 = .ok (.return_, 1) := by decide +kernel
theorem dX9_ends_0 : decode cX9_ends 0 = .ok (.iload_n 1, 1) := by decide +kernel
theorem dX9_ends_1 : decode cX9_ends 1 = .ok (.iconst 1, 1) := by decide +kernel
theorem dX9_ends_2 : decode cX9_ends 2 = .ok (.if_icmp .ne 57, 3) := by decide +kernel
theorem dX9_ends_5 : decode cX9_ends 5 = .ok (.iconst 1, 1) := by decide +kernel
theorem dX9_ends_6 : decode cX9_ends 6 = .ok (.istore_n 2, 1) := by decide +kernel
theorem dX9_ends_7 : decode cX9_ends 7 = .ok (.iload_n 2, 1) := by decide +kernel
theorem dX9_ends_8 : decode cX9_ends 8 = .ok (.aload_n 0, 1) := by decide +kernel
theorem dX9_ends_9 : decode cX9_ends 9 = .ok (.getfield 7, 3) := by decide +kernel
theorem dX9_ends_12 : decode cX9_ends 12 = .ok (.iconst 0, 1) := by decide +kernel
theorem dX9_ends_13 : decode cX9_ends 13 = .ok (.iaload, 1) := by decide +kernel
theorem dX9_ends_14 : decode cX9_ends 14 = .ok (.if_icmp .gt 32, 3) := by decide +kernel
theorem dX9_ends_17 : decode cX9_ends 17 = .ok (.aload_n 0, 1) := by decide +kernel
theorem dX9_ends_18 : decode cX9_ends 18 = .ok (.getfield 7, 3) := by decide +kernel
theorem dX9_ends_21 : decode cX9_ends 21 = .ok (.bipush 94, 2) := by decide +kernel
theorem dX9_ends_23 : decode cX9_ends 23 = .ok (.iload_n 2, 1) := by decide +kernel
theorem dX9_ends_24 : decode cX9_ends 24 = .ok (.iadd, 1) := by decide +kernel
theorem dX9_ends_25 : decode cX9_ends 25 = .ok (.aload_n 0, 1) := by decide +kernel
theorem dX9_ends_26 : decode cX9_ends 26 = .ok (.getfield 23, 3) := by decide +kernel
theorem dX9_ends_29 : decode cX9_ends 29 = .ok (.iload_n 2, 1) := by decide +kernel
theorem dX9_ends_30 : decode cX9_ends 30 = .ok (.iaload, 1) := by decide +kernel
theorem dX9_ends_31 : decode cX9_ends 31 = .ok (.ifCond .le 7, 3) := by decide +kernel
theorem dX9_ends_34 : decode cX9_ends 34 = .ok (.iconst 1, 1) := by decide +kernel
theorem dX9_ends_35 : decode cX9_ends 35 = .ok (.goto 4, 3) := by decide +kernel
theorem dX9_ends_38 : decode cX9_ends 38 = .ok (.iconst 0, 1) := by decide +kernel
theorem dX9_ends_39 : decode cX9_ends 39 = .ok (.iastore, 1) := by decide +kernel
theorem dX9_ends_40 : decode cX9_ends 40 = .ok (.iinc 2 1, 3) := by decide +kernel
theorem dX9_ends_43 : decode cX9_ends 43 = .ok (.goto (-36), 3) := by decide +kernel
theorem dX9_ends_46 : decode cX9_ends 46 = .ok (.aload_n 0, 1) := by decide +kernel
theorem dX9_ends_47 : decode cX9_ends 47 = .ok (.getfield 7, 3) := by decide +kernel
theorem dX9_ends_50 : decode cX9_ends 50 = .ok (.bipush 14, 2) := by decide +kernel
theorem dX9_ends_52 : decode cX9_ends 52 = .ok (.aload_n 0, 1) := by decide +kernel
theorem dX9_ends_53 : decode cX9_ends 53 = .ok (.getfield 7, 3) := by decide +kernel
theorem dX9_ends_56 : decode cX9_ends 56 = .ok (.iconst 0, 1) := by decide +kernel
theorem dX9_ends_57 : decode cX9_ends 57 = .ok (.iaload, 1) := by decide +kernel
theorem dX9_ends_58 : decode cX9_ends 58 = .ok (.iastore, 1) := by decide +kernel
theorem dX9_ends_59 : decode cX9_ends 59 = .ok (.aload_n 0, 1) := by decide +kernel
theorem dX9_ends_60 : decode cX9_ends 60 = .ok (.iconst (-1), 1) := by decide +kernel
theorem dX9_ends_61 : decode cX9_ends 61 = .ok (.invokevirtual 131, 3) := by decide +kernel
theorem dX9_ends_64 : decode cX9_ends 64 = .ok (.aload_n 0, 1) := by decide +kernel
theorem dX9_ends_65 : decode cX9_ends 65 = .ok (.getfield 7, 3) := by decide +kernel
theorem dX9_ends_68 : decode cX9_ends 68 = .ok (.bipush 12, 2) := by decide +kernel
theorem dX9_ends_70 : decode cX9_ends 70 = .ok (.iload_n 1, 1) := by decide +kernel
theorem dX9_ends_71 : decode cX9_ends 71 = .ok (.iastore, 1) := by decide +kernel
theorem dX9_ends_72 : decode cX9_ends 72 = .ok (.iload_n 1, 1) := by decide +kernel
theorem dX9_ends_73 : decode cX9_ends 73 = .ok (.ireturn, 1) := by decide +kernel
theorem dX9_refuted_0 : decode cX9_refuted 0 = .ok (.aload_n 0, 1) := by decide +kernel
theorem dX9_refuted_1 : decode cX9_refuted 1 = .ok (.getfield 7, 3) := by decide +kernel
theorem dX9_refuted_4 : decode cX9_refuted 4 = .ok (.bipush 13, 2) := by decide +kernel
theorem dX9_refuted_6 : decode cX9_refuted 6 = .ok (.iconst 0, 1) := by decide +kernel
theorem dX9_refuted_7 : decode cX9_refuted 7 = .ok (.iastore, 1) := by decide +kernel
theorem dX9_refuted_8 : decode cX9_refuted 8 = .ok (.aload_n 0, 1) := by decide +kernel
theorem dX9_refuted_9 : decode cX9_refuted 9 = .ok (.getfield 7, 3) := by decide +kernel
theorem dX9_refuted_12 : decode cX9_refuted 12 = .ok (.bipush 7, 2) := by decide +kernel
theorem dX9_refuted_14 : decode cX9_refuted 14 = .ok (.iaload, 1) := by decide +kernel
theorem dX9_refuted_15 : decode cX9_refuted 15 = .ok (.ifCond .ne 39, 3) := by decide +kernel
theorem dX9_refuted_18 : decode cX9_refuted 18 = .ok (.aload_n 0, 1) := by decide +kernel
theorem dX9_refuted_19 : decode cX9_refuted 19 = .ok (.getfield 7, 3) := by decide +kernel
theorem dX9_refuted_22 : decode cX9_refuted 22 = .ok (.bipush 7, 2) := by decide +kernel
theorem dX9_refuted_24 : decode cX9_refuted 24 = .ok (.iconst 1, 1) := by decide +kernel
theorem dX9_refuted_25 : decode cX9_refuted 25 = .ok (.iastore, 1) := by decide +kernel
theorem dX9_refuted_26 : decode cX9_refuted 26 = .ok (.aload_n 0, 1) := by decide +kernel
theorem dX9_refuted_27 : decode cX9_refuted 27 = .ok (.getfield 7, 3) := by decide +kernel
theorem dX9_refuted_30 : decode cX9_refuted 30 = .ok (.sipush 925, 3) := by decide +kernel
theorem dX9_refuted_33 : decode cX9_refuted 33 = .ok (.aload_n 0, 1) := by decide +kernel
theorem dX9_refuted_34 : decode cX9_refuted 34 = .ok (.getfield 7, 3) := by decide +kernel
theorem dX9_refuted_37 : decode cX9_refuted 37 = .ok (.bipush 6, 2) := by decide +kernel
theorem dX9_refuted_39 : decode cX9_refuted 39 = .ok (.iaload, 1) := by decide +kernel
theorem dX9_refuted_40 : decode cX9_refuted 40 = .ok (.iadd, 1) := by decide +kernel
theorem dX9_refuted_41 : decode cX9_refuted 41 = .ok (.iconst (-1), 1) := by decide +kernel
theorem dX9_refuted_42 : decode cX9_refuted 42 = .ok (.iastore, 1) := by decide +kernel
theorem dX9_refuted_43 : decode cX9_refuted 43 = .ok (.aload_n 0, 1) := by decide +kernel
theorem dX9_refuted_44 : decode cX9_refuted 44 = .ok (.getfield 7, 3) := by decide +kernel
theorem dX9_refuted_47 : decode cX9_refuted 47 = .ok (.bipush 6, 2) := by decide +kernel
theorem dX9_refuted_49 : decode cX9_refuted 49 = .ok (.dup2, 1) := by decide +kernel
theorem dX9_refuted_50 : decode cX9_refuted 50 = .ok (.iaload, 1) := by decide +kernel
theorem dX9_refuted_51 : decode cX9_refuted 51 = .ok (.iconst 1, 1) := by decide +kernel
theorem dX9_refuted_52 : decode cX9_refuted 52 = .ok (.iadd, 1) := by decide +kernel
theorem dX9_refuted_53 : decode cX9_refuted 53 = .ok (.iastore, 1) := by decide +kernel
theorem dX9_refuted_54 : decode cX9_refuted 54 = .ok (.aload_n 0, 1) := by decide +kernel
theorem dX9_refuted_55 : decode cX9_refuted 55 = .ok (.iconst 0, 1) := by decide +kernel
theorem dX9_refuted_56 : decode cX9_refuted 56 = .ok (.invokevirtual 147, 3) := by decide +kernel
theorem dX9_refuted_59 : decode cX9_refuted 59 = .ok (.ireturn, 1) := by decide +kernel
theorem dX9_placeAssumed_0 : decode cX9_placeAssumed 0 = .ok (.iconst 0, 1) := by decide +kernel
theorem dX9_placeAssumed_1 : decode cX9_placeAssumed 1 = .ok (.istore_n 2, 1) := by decide +kernel
theorem dX9_placeAssumed_2 : decode cX9_placeAssumed 2 = .ok (.iload_n 2, 1) := by decide +kernel
theorem dX9_placeAssumed_3 : decode cX9_placeAssumed 3 = .ok (.aload_n 0, 1) := by decide +kernel
theorem dX9_placeAssumed_4 : decode cX9_placeAssumed 4 = .ok (.getfield 7, 3) := by decide +kernel
theorem dX9_placeAssumed_7 : decode cX9_placeAssumed 7 = .ok (.iconst 3, 1) := by decide +kernel
theorem dX9_placeAssumed_8 : decode cX9_placeAssumed 8 = .ok (.iaload, 1) := by decide +kernel
theorem dX9_placeAssumed_9 : decode cX9_placeAssumed 9 = .ok (.if_icmp .ge 27, 3) := by decide +kernel
theorem dX9_placeAssumed_12 : decode cX9_placeAssumed 12 = .ok (.aload_n 0, 1) := by decide +kernel
theorem dX9_placeAssumed_13 : decode cX9_placeAssumed 13 = .ok (.getfield 7, 3) := by decide +kernel
theorem dX9_placeAssumed_16 : decode cX9_placeAssumed 16 = .ok (.bipush 16, 2) := by decide +kernel
theorem dX9_placeAssumed_18 : decode cX9_placeAssumed 18 = .ok (.iload_n 2, 1) := by decide +kernel
theorem dX9_placeAssumed_19 : decode cX9_placeAssumed 19 = .ok (.iadd, 1) := by decide +kernel
theorem dX9_placeAssumed_20 : decode cX9_placeAssumed 20 = .ok (.iaload, 1) := by decide +kernel
theorem dX9_placeAssumed_21 : decode cX9_placeAssumed 21 = .ok (.invokestatic 71, 3) := by decide +kernel
theorem dX9_placeAssumed_24 : decode cX9_placeAssumed 24 = .ok (.iload_n 1, 1) := by decide +kernel
theorem dX9_placeAssumed_25 : decode cX9_placeAssumed 25 = .ok (.if_icmp .ne 5, 3) := by decide +kernel
theorem dX9_placeAssumed_28 : decode cX9_placeAssumed 28 = .ok (.iload_n 2, 1) := by decide +kernel
theorem dX9_placeAssumed_29 : decode cX9_placeAssumed 29 = .ok (.ireturn, 1) := by decide +kernel
theorem dX9_placeAssumed_30 : decode cX9_placeAssumed 30 = .ok (.iinc 2 1, 3) := by decide +kernel
theorem dX9_placeAssumed_33 : decode cX9_placeAssumed 33 = .ok (.goto (-31), 3) := by decide +kernel
theorem dX9_placeAssumed_36 : decode cX9_placeAssumed 36 = .ok (.iconst (-1), 1) := by decide +kernel
theorem dX9_placeAssumed_37 : decode cX9_placeAssumed 37 = .ok (.ireturn, 1) := by decide +kernel
theorem dX9_coreOf_0 : decode cX9_coreOf 0 = .ok (.iconst 0, 1) := by decide +kernel
theorem dX9_coreOf_1 : decode cX9_coreOf 1 = .ok (.istore_n 2, 1) := by decide +kernel
theorem dX9_coreOf_2 : decode cX9_coreOf 2 = .ok (.iload_n 2, 1) := by decide +kernel
theorem dX9_coreOf_3 : decode cX9_coreOf 3 = .ok (.bipush 30, 2) := by decide +kernel
theorem dX9_coreOf_5 : decode cX9_coreOf 5 = .ok (.if_icmp .gt 16, 3) := by decide +kernel
theorem dX9_coreOf_8 : decode cX9_coreOf 8 = .ok (.aload_n 0, 1) := by decide +kernel
theorem dX9_coreOf_9 : decode cX9_coreOf 9 = .ok (.getfield 38, 3) := by decide +kernel
theorem dX9_coreOf_12 : decode cX9_coreOf 12 = .ok (.iload_n 2, 1) := by decide +kernel
theorem dX9_coreOf_13 : decode cX9_coreOf 13 = .ok (.iconst 0, 1) := by decide +kernel
theorem dX9_coreOf_14 : decode cX9_coreOf 14 = .ok (.bastore, 1) := by decide +kernel
theorem dX9_coreOf_15 : decode cX9_coreOf 15 = .ok (.iinc 2 1, 3) := by decide +kernel
theorem dX9_coreOf_18 : decode cX9_coreOf 18 = .ok (.goto (-16), 3) := by decide +kernel
theorem dX9_coreOf_21 : decode cX9_coreOf 21 = .ok (.aload_n 0, 1) := by decide +kernel
theorem dX9_coreOf_22 : decode cX9_coreOf 22 = .ok (.getfield 38, 3) := by decide +kernel
theorem dX9_coreOf_25 : decode cX9_coreOf 25 = .ok (.aload_n 0, 1) := by decide +kernel
theorem dX9_coreOf_26 : decode cX9_coreOf 26 = .ok (.getfield 7, 3) := by decide +kernel
theorem dX9_coreOf_29 : decode cX9_coreOf 29 = .ok (.bipush 16, 2) := by decide +kernel
theorem dX9_coreOf_31 : decode cX9_coreOf 31 = .ok (.iload_n 1, 1) := by decide +kernel
theorem dX9_coreOf_32 : decode cX9_coreOf 32 = .ok (.iadd, 1) := by decide +kernel
theorem dX9_coreOf_33 : decode cX9_coreOf 33 = .ok (.iaload, 1) := by decide +kernel
theorem dX9_coreOf_34 : decode cX9_coreOf 34 = .ok (.invokestatic 71, 3) := by decide +kernel
theorem dX9_coreOf_37 : decode cX9_coreOf 37 = .ok (.iconst 1, 1) := by decide +kernel
theorem dX9_coreOf_38 : decode cX9_coreOf 38 = .ok (.bastore, 1) := by decide +kernel
theorem dX9_coreOf_39 : decode cX9_coreOf 39 = .ok (.iconst 1, 1) := by decide +kernel
theorem dX9_coreOf_40 : decode cX9_coreOf 40 = .ok (.iload_n 1, 1) := by decide +kernel
theorem dX9_coreOf_41 : decode cX9_coreOf 41 = .ok (.ishl, 1) := by decide +kernel
theorem dX9_coreOf_42 : decode cX9_coreOf 42 = .ok (.istore_n 2, 1) := by decide +kernel
theorem dX9_coreOf_43 : decode cX9_coreOf 43 = .ok (.aload_n 0, 1) := by decide +kernel
theorem dX9_coreOf_44 : decode cX9_coreOf 44 = .ok (.getfield 102, 3) := by decide +kernel
theorem dX9_coreOf_47 : decode cX9_coreOf 47 = .ok (.iconst 1, 1) := by decide +kernel
theorem dX9_coreOf_48 : decode cX9_coreOf 48 = .ok (.isub, 1) := by decide +kernel
theorem dX9_coreOf_49 : decode cX9_coreOf 49 = .ok (.istore_n 3, 1) := by decide +kernel
theorem dX9_coreOf_50 : decode cX9_coreOf 50 = .ok (.iload_n 3, 1) := by decide +kernel
theorem dX9_coreOf_51 : decode cX9_coreOf 51 = .ok (.ifCond .lt 123, 3) := by decide +kernel
theorem dX9_coreOf_54 : decode cX9_coreOf 54 = .ok (.aload_n 0, 1) := by decide +kernel
theorem dX9_coreOf_55 : decode cX9_coreOf 55 = .ok (.getfield 35, 3) := by decide +kernel
theorem dX9_coreOf_58 : decode cX9_coreOf 58 = .ok (.iload_n 3, 1) := by decide +kernel
theorem dX9_coreOf_59 : decode cX9_coreOf 59 = .ok (.iaload, 1) := by decide +kernel
theorem dX9_coreOf_60 : decode cX9_coreOf 60 = .ok (.invokestatic 71, 3) := by decide +kernel
theorem dX9_coreOf_63 : decode cX9_coreOf 63 = .ok (.istore 4, 2) := by decide +kernel
theorem dX9_coreOf_65 : decode cX9_coreOf 65 = .ok (.aload_n 0, 1) := by decide +kernel
theorem dX9_coreOf_66 : decode cX9_coreOf 66 = .ok (.getfield 38, 3) := by decide +kernel
theorem dX9_coreOf_69 : decode cX9_coreOf 69 = .ok (.iload 4, 2) := by decide +kernel
theorem dX9_coreOf_71 : decode cX9_coreOf 71 = .ok (.baload, 1) := by decide +kernel
theorem dX9_coreOf_72 : decode cX9_coreOf 72 = .ok (.ifCond .ne 6, 3) := by decide +kernel
theorem dX9_coreOf_75 : decode cX9_coreOf 75 = .ok (.goto 93, 3) := by decide +kernel
theorem dX9_coreOf_78 : decode cX9_coreOf 78 = .ok (.aload_n 0, 1) := by decide +kernel
theorem dX9_coreOf_79 : decode cX9_coreOf 79 = .ok (.getfield 29, 3) := by decide +kernel
theorem dX9_coreOf_82 : decode cX9_coreOf 82 = .ok (.iload 4, 2) := by decide +kernel
theorem dX9_coreOf_84 : decode cX9_coreOf 84 = .ok (.iaload, 1) := by decide +kernel
theorem dX9_coreOf_85 : decode cX9_coreOf 85 = .ok (.iconst (-1), 1) := by decide +kernel
theorem dX9_coreOf_86 : decode cX9_coreOf 86 = .ok (.if_icmp .ne 24, 3) := by decide +kernel
theorem dX9_coreOf_89 : decode cX9_coreOf 89 = .ok (.aload_n 0, 1) := by decide +kernel
theorem dX9_coreOf_90 : decode cX9_coreOf 90 = .ok (.getfield 26, 3) := by decide +kernel
theorem dX9_coreOf_93 : decode cX9_coreOf 93 = .ok (.iload 4, 2) := by decide +kernel
theorem dX9_coreOf_95 : decode cX9_coreOf 95 = .ok (.iaload, 1) := by decide +kernel
theorem dX9_coreOf_96 : decode cX9_coreOf 96 = .ok (.ifCond .le 14, 3) := by decide +kernel
theorem dX9_coreOf_99 : decode cX9_coreOf 99 = .ok (.iload_n 2, 1) := by decide +kernel
theorem dX9_coreOf_100 : decode cX9_coreOf 100 = .ok (.iconst 1, 1) := by decide +kernel
theorem dX9_coreOf_101 : decode cX9_coreOf 101 = .ok (.aload_n 0, 1) := by decide +kernel
theorem dX9_coreOf_102 : decode cX9_coreOf 102 = .ok (.iload 4, 2) := by decide +kernel
theorem dX9_coreOf_104 : decode cX9_coreOf 104 = .ok (.invokevirtual 150, 3) := by decide +kernel
theorem dX9_coreOf_107 : decode cX9_coreOf 107 = .ok (.ishl, 1) := by decide +kernel
theorem dX9_coreOf_108 : decode cX9_coreOf 108 = .ok (.ior, 1) := by decide +kernel
theorem dX9_coreOf_109 : decode cX9_coreOf 109 = .ok (.istore_n 2, 1) := by decide +kernel
theorem dX9_coreOf_110 : decode cX9_coreOf 110 = .ok (.iconst 0, 1) := by decide +kernel
theorem dX9_coreOf_111 : decode cX9_coreOf 111 = .ok (.istore 5, 2) := by decide +kernel
theorem dX9_coreOf_113 : decode cX9_coreOf 113 = .ok (.aload_n 0, 1) := by decide +kernel
theorem dX9_coreOf_114 : decode cX9_coreOf 114 = .ok (.getfield 29, 3) := by decide +kernel
theorem dX9_coreOf_117 : decode cX9_coreOf 117 = .ok (.iload 4, 2) := by decide +kernel
theorem dX9_coreOf_119 : decode cX9_coreOf 119 = .ok (.iaload, 1) := by decide +kernel
theorem dX9_coreOf_120 : decode cX9_coreOf 120 = .ok (.iconst (-1), 1) := by decide +kernel
theorem dX9_coreOf_121 : decode cX9_coreOf 121 = .ok (.if_icmp .eq 47, 3) := by decide +kernel
theorem dX9_coreOf_124 : decode cX9_coreOf 124 = .ok (.iload 5, 2) := by decide +kernel
theorem dX9_coreOf_126 : decode cX9_coreOf 126 = .ok (.aload_n 0, 1) := by decide +kernel
theorem dX9_coreOf_127 : decode cX9_coreOf 127 = .ok (.aload_n 0, 1) := by decide +kernel
theorem dX9_coreOf_128 : decode cX9_coreOf 128 = .ok (.getfield 29, 3) := by decide +kernel
theorem dX9_coreOf_131 : decode cX9_coreOf 131 = .ok (.iload 4, 2) := by decide +kernel
theorem dX9_coreOf_133 : decode cX9_coreOf 133 = .ok (.iaload, 1) := by decide +kernel
theorem dX9_coreOf_134 : decode cX9_coreOf 134 = .ok (.invokevirtual 99, 3) := by decide +kernel
theorem dX9_coreOf_137 : decode cX9_coreOf 137 = .ok (.if_icmp .ge 31, 3) := by decide +kernel
theorem dX9_coreOf_140 : decode cX9_coreOf 140 = .ok (.aload_n 0, 1) := by decide +kernel
theorem dX9_coreOf_141 : decode cX9_coreOf 141 = .ok (.getfield 38, 3) := by decide +kernel
theorem dX9_coreOf_144 : decode cX9_coreOf 144 = .ok (.aload_n 0, 1) := by decide +kernel
theorem dX9_coreOf_145 : decode cX9_coreOf 145 = .ok (.aload_n 0, 1) := by decide +kernel
theorem dX9_coreOf_146 : decode cX9_coreOf 146 = .ok (.getfield 29, 3) := by decide +kernel
theorem dX9_coreOf_149 : decode cX9_coreOf 149 = .ok (.iload 4, 2) := by decide +kernel
theorem dX9_coreOf_151 : decode cX9_coreOf 151 = .ok (.iaload, 1) := by decide +kernel
theorem dX9_coreOf_152 : decode cX9_coreOf 152 = .ok (.iload 5, 2) := by decide +kernel
theorem dX9_coreOf_154 : decode cX9_coreOf 154 = .ok (.invokevirtual 108, 3) := by decide +kernel
theorem dX9_coreOf_157 : decode cX9_coreOf 157 = .ok (.invokestatic 71, 3) := by decide +kernel
theorem dX9_coreOf_160 : decode cX9_coreOf 160 = .ok (.iconst 1, 1) := by decide +kernel
theorem dX9_coreOf_161 : decode cX9_coreOf 161 = .ok (.bastore, 1) := by decide +kernel
theorem dX9_coreOf_162 : decode cX9_coreOf 162 = .ok (.iinc 5 1, 3) := by decide +kernel
theorem dX9_coreOf_165 : decode cX9_coreOf 165 = .ok (.goto (-52), 3) := by decide +kernel
theorem dX9_coreOf_168 : decode cX9_coreOf 168 = .ok (.iinc 3 (-1), 3) := by decide +kernel
theorem dX9_coreOf_171 : decode cX9_coreOf 171 = .ok (.goto (-121), 3) := by decide +kernel
theorem dX9_coreOf_174 : decode cX9_coreOf 174 = .ok (.iload_n 2, 1) := by decide +kernel
theorem dX9_coreOf_175 : decode cX9_coreOf 175 = .ok (.ireturn, 1) := by decide +kernel
theorem dX9_assumptionOpen_0 : decode cX9_assumptionOpen 0 = .ok (.iconst 0, 1) := by decide +kernel
theorem dX9_assumptionOpen_1 : decode cX9_assumptionOpen 1 = .ok (.istore_n 1, 1) := by decide +kernel
theorem dX9_assumptionOpen_2 : decode cX9_assumptionOpen 2 = .ok (.iload_n 1, 1) := by decide +kernel
theorem dX9_assumptionOpen_3 : decode cX9_assumptionOpen 3 = .ok (.aload_n 0, 1) := by decide +kernel
theorem dX9_assumptionOpen_4 : decode cX9_assumptionOpen 4 = .ok (.getfield 7, 3) := by decide +kernel
theorem dX9_assumptionOpen_7 : decode cX9_assumptionOpen 7 = .ok (.iconst 3, 1) := by decide +kernel
theorem dX9_assumptionOpen_8 : decode cX9_assumptionOpen 8 = .ok (.iaload, 1) := by decide +kernel
theorem dX9_assumptionOpen_9 : decode cX9_assumptionOpen 9 = .ok (.if_icmp .ge 27, 3) := by decide +kernel
theorem dX9_assumptionOpen_12 : decode cX9_assumptionOpen 12 = .ok (.aload_n 0, 1) := by decide +kernel
theorem dX9_assumptionOpen_13 : decode cX9_assumptionOpen 13 = .ok (.aload_n 0, 1) := by decide +kernel
theorem dX9_assumptionOpen_14 : decode cX9_assumptionOpen 14 = .ok (.getfield 7, 3) := by decide +kernel
theorem dX9_assumptionOpen_17 : decode cX9_assumptionOpen 17 = .ok (.bipush 16, 2) := by decide +kernel
theorem dX9_assumptionOpen_19 : decode cX9_assumptionOpen 19 = .ok (.iload_n 1, 1) := by decide +kernel
theorem dX9_assumptionOpen_20 : decode cX9_assumptionOpen 20 = .ok (.iadd, 1) := by decide +kernel
theorem dX9_assumptionOpen_21 : decode cX9_assumptionOpen 21 = .ok (.iaload, 1) := by decide +kernel
theorem dX9_assumptionOpen_22 : decode cX9_assumptionOpen 22 = .ok (.invokevirtual 111, 3) := by decide +kernel
theorem dX9_assumptionOpen_25 : decode cX9_assumptionOpen 25 = .ok (.ifCond .gt 5, 3) := by decide +kernel
theorem dX9_assumptionOpen_28 : decode cX9_assumptionOpen 28 = .ok (.iload_n 1, 1) := by decide +kernel
theorem dX9_assumptionOpen_29 : decode cX9_assumptionOpen 29 = .ok (.ireturn, 1) := by decide +kernel
theorem dX9_assumptionOpen_30 : decode cX9_assumptionOpen 30 = .ok (.iinc 1 1, 3) := by decide +kernel
theorem dX9_assumptionOpen_33 : decode cX9_assumptionOpen 33 = .ok (.goto (-31), 3) := by decide +kernel
theorem dX9_assumptionOpen_36 : decode cX9_assumptionOpen 36 = .ok (.iconst (-1), 1) := by decide +kernel
theorem dX9_assumptionOpen_37 : decode cX9_assumptionOpen 37 = .ok (.ireturn, 1) := by decide +kernel
theorem dX9_choice_0 : decode cX9_choice 0 = .ok (.iconst 0, 1) := by decide +kernel
theorem dX9_choice_1 : decode cX9_choice 1 = .ok (.istore_n 1, 1) := by decide +kernel
theorem dX9_choice_2 : decode cX9_choice 2 = .ok (.iconst 1, 1) := by decide +kernel
theorem dX9_choice_3 : decode cX9_choice 3 = .ok (.istore_n 2, 1) := by decide +kernel
theorem dX9_choice_4 : decode cX9_choice 4 = .ok (.iload_n 2, 1) := by decide +kernel
theorem dX9_choice_5 : decode cX9_choice 5 = .ok (.aload_n 0, 1) := by decide +kernel
theorem dX9_choice_6 : decode cX9_choice 6 = .ok (.getfield 7, 3) := by decide +kernel
theorem dX9_choice_9 : decode cX9_choice 9 = .ok (.iconst 0, 1) := by decide +kernel
theorem dX9_choice_10 : decode cX9_choice 10 = .ok (.iaload, 1) := by decide +kernel
theorem dX9_choice_11 : decode cX9_choice 11 = .ok (.if_icmp .gt 45, 3) := by decide +kernel
theorem dX9_choice_14 : decode cX9_choice 14 = .ok (.aload_n 0, 1) := by decide +kernel
theorem dX9_choice_15 : decode cX9_choice 15 = .ok (.getfield 23, 3) := by decide +kernel
theorem dX9_choice_18 : decode cX9_choice 18 = .ok (.iload_n 2, 1) := by decide +kernel
theorem dX9_choice_19 : decode cX9_choice 19 = .ok (.iaload, 1) := by decide +kernel
theorem dX9_choice_20 : decode cX9_choice 20 = .ok (.ifCond .ne 30, 3) := by decide +kernel
theorem dX9_choice_23 : decode cX9_choice 23 = .ok (.iload_n 1, 1) := by decide +kernel
theorem dX9_choice_24 : decode cX9_choice 24 = .ok (.ifCond .eq 24, 3) := by decide +kernel
theorem dX9_choice_27 : decode cX9_choice 27 = .ok (.aload_n 0, 1) := by decide +kernel
theorem dX9_choice_28 : decode cX9_choice 28 = .ok (.getfield 7, 3) := by decide +kernel
theorem dX9_choice_31 : decode cX9_choice 31 = .ok (.bipush 63, 2) := by decide +kernel
theorem dX9_choice_33 : decode cX9_choice 33 = .ok (.iload_n 2, 1) := by decide +kernel
theorem dX9_choice_34 : decode cX9_choice 34 = .ok (.iadd, 1) := by decide +kernel
theorem dX9_choice_35 : decode cX9_choice 35 = .ok (.iaload, 1) := by decide +kernel
theorem dX9_choice_36 : decode cX9_choice 36 = .ok (.aload_n 0, 1) := by decide +kernel
theorem dX9_choice_37 : decode cX9_choice 37 = .ok (.getfield 7, 3) := by decide +kernel
theorem dX9_choice_40 : decode cX9_choice 40 = .ok (.bipush 63, 2) := by decide +kernel
theorem dX9_choice_42 : decode cX9_choice 42 = .ok (.iload_n 1, 1) := by decide +kernel
theorem dX9_choice_43 : decode cX9_choice 43 = .ok (.iadd, 1) := by decide +kernel
theorem dX9_choice_44 : decode cX9_choice 44 = .ok (.iaload, 1) := by decide +kernel
theorem dX9_choice_45 : decode cX9_choice 45 = .ok (.if_icmp .le 5, 3) := by decide +kernel
theorem dX9_choice_48 : decode cX9_choice 48 = .ok (.iload_n 2, 1) := by decide +kernel
theorem dX9_choice_49 : decode cX9_choice 49 = .ok (.istore_n 1, 1) := by decide +kernel
theorem dX9_choice_50 : decode cX9_choice 50 = .ok (.iinc 2 1, 3) := by decide +kernel
theorem dX9_choice_53 : decode cX9_choice 53 = .ok (.goto (-49), 3) := by decide +kernel
theorem dX9_choice_56 : decode cX9_choice 56 = .ok (.iload_n 1, 1) := by decide +kernel
theorem dX9_choice_57 : decode cX9_choice 57 = .ok (.ireturn, 1) := by decide +kernel
theorem dX9_conflictAt_0 : decode cX9_conflictAt 0 = .ok (.aload_n 0, 1) := by decide +kernel
theorem dX9_conflictAt_1 : decode cX9_conflictAt 1 = .ok (.getfield 105, 3) := by decide +kernel
theorem dX9_conflictAt_4 : decode cX9_conflictAt 4 = .ok (.ifCond .ne 8, 3) := by decide +kernel
theorem dX9_conflictAt_7 : decode cX9_conflictAt 7 = .ok (.aload_n 0, 1) := by decide +kernel
theorem dX9_conflictAt_8 : decode cX9_conflictAt 8 = .ok (.invokevirtual 153, 3) := by decide +kernel
theorem dX9_conflictAt_11 : decode cX9_conflictAt 11 = .ok (.ireturn, 1) := by decide +kernel
theorem dX9_conflictAt_12 : decode cX9_conflictAt 12 = .ok (.aload_n 0, 1) := by decide +kernel
theorem dX9_conflictAt_13 : decode cX9_conflictAt 13 = .ok (.getfield 7, 3) := by decide +kernel
theorem dX9_conflictAt_16 : decode cX9_conflictAt 16 = .ok (.iconst 1, 1) := by decide +kernel
theorem dX9_conflictAt_17 : decode cX9_conflictAt 17 = .ok (.iaload, 1) := by decide +kernel
theorem dX9_conflictAt_18 : decode cX9_conflictAt 18 = .ok (.sipush 400, 3) := by decide +kernel
theorem dX9_conflictAt_21 : decode cX9_conflictAt 21 = .ok (.if_icmp .ne 9, 3) := by decide +kernel
theorem dX9_conflictAt_24 : decode cX9_conflictAt 24 = .ok (.aload_n 0, 1) := by decide +kernel
theorem dX9_conflictAt_25 : decode cX9_conflictAt 25 = .ok (.iconst 3, 1) := by decide +kernel
theorem dX9_conflictAt_26 : decode cX9_conflictAt 26 = .ok (.invokevirtual 147, 3) := by decide +kernel
theorem dX9_conflictAt_29 : decode cX9_conflictAt 29 = .ok (.ireturn, 1) := by decide +kernel
theorem dX9_conflictAt_30 : decode cX9_conflictAt 30 = .ok (.aload_n 0, 1) := by decide +kernel
theorem dX9_conflictAt_31 : decode cX9_conflictAt 31 = .ok (.iload_n 1, 1) := by decide +kernel
theorem dX9_conflictAt_32 : decode cX9_conflictAt 32 = .ok (.invokevirtual 156, 3) := by decide +kernel
theorem dX9_conflictAt_35 : decode cX9_conflictAt 35 = .ok (.aload_n 0, 1) := by decide +kernel
theorem dX9_conflictAt_36 : decode cX9_conflictAt 36 = .ok (.dup, 1) := by decide +kernel
theorem dX9_conflictAt_37 : decode cX9_conflictAt 37 = .ok (.getfield 159, 3) := by decide +kernel
theorem dX9_conflictAt_40 : decode cX9_conflictAt 40 = .ok (.iconst 1, 1) := by decide +kernel
theorem dX9_conflictAt_41 : decode cX9_conflictAt 41 = .ok (.iadd, 1) := by decide +kernel
theorem dX9_conflictAt_42 : decode cX9_conflictAt 42 = .ok (.putfield 159, 3) := by decide +kernel
theorem dX9_conflictAt_45 : decode cX9_conflictAt 45 = .ok (.aload_n 0, 1) := by decide +kernel
theorem dX9_conflictAt_46 : decode cX9_conflictAt 46 = .ok (.invokevirtual 162, 3) := by decide +kernel
theorem dX9_conflictAt_49 : decode cX9_conflictAt 49 = .ok (.aload_n 0, 1) := by decide +kernel
theorem dX9_conflictAt_50 : decode cX9_conflictAt 50 = .ok (.getfield 159, 3) := by decide +kernel
theorem dX9_conflictAt_53 : decode cX9_conflictAt 53 = .ok (.iload_n 2, 1) := by decide +kernel
theorem dX9_conflictAt_54 : decode cX9_conflictAt 54 = .ok (.if_icmp .ne 11, 3) := by decide +kernel
theorem dX9_conflictAt_57 : decode cX9_conflictAt 57 = .ok (.aload_n 0, 1) := by decide +kernel
theorem dX9_conflictAt_58 : decode cX9_conflictAt 58 = .ok (.iconst 2, 1) := by decide +kernel
theorem dX9_conflictAt_59 : decode cX9_conflictAt 59 = .ok (.invokevirtual 147, 3) := by decide +kernel
theorem dX9_conflictAt_62 : decode cX9_conflictAt 62 = .ok (.goto 4, 3) := by decide +kernel
theorem dX9_conflictAt_65 : decode cX9_conflictAt 65 = .ok (.iconst (-1), 1) := by decide +kernel
theorem dX9_conflictAt_66 : decode cX9_conflictAt 66 = .ok (.ireturn, 1) := by decide +kernel
theorem dX9_step_0 : decode cX9_step 0 = .ok (.aload_n 0, 1) := by decide +kernel
theorem dX9_step_1 : decode cX9_step 1 = .ok (.iconst 0, 1) := by decide +kernel
theorem dX9_step_2 : decode cX9_step 2 = .ok (.invokevirtual 165, 3) := by decide +kernel
theorem dX9_step_5 : decode cX9_step 5 = .ok (.istore_n 2, 1) := by decide +kernel
theorem dX9_step_6 : decode cX9_step 6 = .ok (.iload_n 2, 1) := by decide +kernel
theorem dX9_step_7 : decode cX9_step 7 = .ok (.iconst (-1), 1) := by decide +kernel
theorem dX9_step_8 : decode cX9_step 8 = .ok (.if_icmp .eq 10, 3) := by decide +kernel
theorem dX9_step_11 : decode cX9_step 11 = .ok (.aload_n 0, 1) := by decide +kernel
theorem dX9_step_12 : decode cX9_step 12 = .ok (.iload_n 2, 1) := by decide +kernel
theorem dX9_step_13 : decode cX9_step 13 = .ok (.iload_n 1, 1) := by decide +kernel
theorem dX9_step_14 : decode cX9_step 14 = .ok (.invokevirtual 168, 3) := by decide +kernel
theorem dX9_step_17 : decode cX9_step 17 = .ok (.ireturn, 1) := by decide +kernel
theorem dX9_step_18 : decode cX9_step 18 = .ok (.aload_n 0, 1) := by decide +kernel
theorem dX9_step_19 : decode cX9_step 19 = .ok (.iconst 1, 1) := by decide +kernel
theorem dX9_step_20 : decode cX9_step 20 = .ok (.invokevirtual 165, 3) := by decide +kernel
theorem dX9_step_23 : decode cX9_step 23 = .ok (.istore_n 2, 1) := by decide +kernel
theorem dX9_step_24 : decode cX9_step 24 = .ok (.iload_n 2, 1) := by decide +kernel
theorem dX9_step_25 : decode cX9_step 25 = .ok (.iconst (-1), 1) := by decide +kernel
theorem dX9_step_26 : decode cX9_step 26 = .ok (.if_icmp .eq 26, 3) := by decide +kernel
theorem dX9_step_29 : decode cX9_step 29 = .ok (.aload_n 0, 1) := by decide +kernel
theorem dX9_step_30 : decode cX9_step 30 = .ok (.getfield 7, 3) := by decide +kernel
theorem dX9_step_33 : decode cX9_step 33 = .ok (.bipush 10, 2) := by decide +kernel
theorem dX9_step_35 : decode cX9_step 35 = .ok (.dup2, 1) := by decide +kernel
theorem dX9_step_36 : decode cX9_step 36 = .ok (.iaload, 1) := by decide +kernel
theorem dX9_step_37 : decode cX9_step 37 = .ok (.iconst 1, 1) := by decide +kernel
theorem dX9_step_38 : decode cX9_step 38 = .ok (.iadd, 1) := by decide +kernel
theorem dX9_step_39 : decode cX9_step 39 = .ok (.iastore, 1) := by decide +kernel
theorem dX9_step_40 : decode cX9_step 40 = .ok (.aload_n 0, 1) := by decide +kernel
theorem dX9_step_41 : decode cX9_step 41 = .ok (.aload_n 0, 1) := by decide +kernel
theorem dX9_step_42 : decode cX9_step 42 = .ok (.iload_n 2, 1) := by decide +kernel
theorem dX9_step_43 : decode cX9_step 43 = .ok (.invokevirtual 171, 3) := by decide +kernel
theorem dX9_step_46 : decode cX9_step 46 = .ok (.iload_n 2, 1) := by decide +kernel
theorem dX9_step_47 : decode cX9_step 47 = .ok (.invokevirtual 135, 3) := by decide +kernel
theorem dX9_step_50 : decode cX9_step 50 = .ok (.iconst (-1), 1) := by decide +kernel
theorem dX9_step_51 : decode cX9_step 51 = .ok (.ireturn, 1) := by decide +kernel
theorem dX9_step_52 : decode cX9_step 52 = .ok (.aload_n 0, 1) := by decide +kernel
theorem dX9_step_53 : decode cX9_step 53 = .ok (.invokevirtual 174, 3) := by decide +kernel
theorem dX9_step_56 : decode cX9_step 56 = .ok (.istore_n 3, 1) := by decide +kernel
theorem dX9_step_57 : decode cX9_step 57 = .ok (.iload_n 3, 1) := by decide +kernel
theorem dX9_step_58 : decode cX9_step 58 = .ok (.iconst (-1), 1) := by decide +kernel
theorem dX9_step_59 : decode cX9_step 59 = .ok (.if_icmp .eq 63, 3) := by decide +kernel
theorem dX9_step_62 : decode cX9_step 62 = .ok (.aload_n 0, 1) := by decide +kernel
theorem dX9_step_63 : decode cX9_step 63 = .ok (.aload_n 0, 1) := by decide +kernel
theorem dX9_step_64 : decode cX9_step 64 = .ok (.getfield 7, 3) := by decide +kernel
theorem dX9_step_67 : decode cX9_step 67 = .ok (.bipush 16, 2) := by decide +kernel
theorem dX9_step_69 : decode cX9_step 69 = .ok (.iload_n 3, 1) := by decide +kernel
theorem dX9_step_70 : decode cX9_step 70 = .ok (.iadd, 1) := by decide +kernel
theorem dX9_step_71 : decode cX9_step 71 = .ok (.iaload, 1) := by decide +kernel
theorem dX9_step_72 : decode cX9_step 72 = .ok (.invokevirtual 111, 3) := by decide +kernel
theorem dX9_step_75 : decode cX9_step 75 = .ok (.ifCond .ge 21, 3) := by decide +kernel
theorem dX9_step_78 : decode cX9_step 78 = .ok (.aload_n 0, 1) := by decide +kernel
theorem dX9_step_79 : decode cX9_step 79 = .ok (.getfield 7, 3) := by decide +kernel
theorem dX9_step_82 : decode cX9_step 82 = .ok (.bipush 13, 2) := by decide +kernel
theorem dX9_step_84 : decode cX9_step 84 = .ok (.aload_n 0, 1) := by decide +kernel
theorem dX9_step_85 : decode cX9_step 85 = .ok (.iload_n 3, 1) := by decide +kernel
theorem dX9_step_86 : decode cX9_step 86 = .ok (.invokevirtual 177, 3) := by decide +kernel
theorem dX9_step_89 : decode cX9_step 89 = .ok (.iastore, 1) := by decide +kernel
theorem dX9_step_90 : decode cX9_step 90 = .ok (.aload_n 0, 1) := by decide +kernel
theorem dX9_step_91 : decode cX9_step 91 = .ok (.iconst 0, 1) := by decide +kernel
theorem dX9_step_92 : decode cX9_step 92 = .ok (.invokevirtual 147, 3) := by decide +kernel
theorem dX9_step_95 : decode cX9_step 95 = .ok (.ireturn, 1) := by decide +kernel
theorem dX9_step_96 : decode cX9_step 96 = .ok (.aload_n 0, 1) := by decide +kernel
theorem dX9_step_97 : decode cX9_step 97 = .ok (.dup, 1) := by decide +kernel
theorem dX9_step_98 : decode cX9_step 98 = .ok (.getfield 105, 3) := by decide +kernel
theorem dX9_step_101 : decode cX9_step 101 = .ok (.iconst 1, 1) := by decide +kernel
theorem dX9_step_102 : decode cX9_step 102 = .ok (.iadd, 1) := by decide +kernel
theorem dX9_step_103 : decode cX9_step 103 = .ok (.putfield 105, 3) := by decide +kernel
theorem dX9_step_106 : decode cX9_step 106 = .ok (.aload_n 0, 1) := by decide +kernel
theorem dX9_step_107 : decode cX9_step 107 = .ok (.aload_n 0, 1) := by decide +kernel
theorem dX9_step_108 : decode cX9_step 108 = .ok (.getfield 7, 3) := by decide +kernel
theorem dX9_step_111 : decode cX9_step 111 = .ok (.bipush 16, 2) := by decide +kernel
theorem dX9_step_113 : decode cX9_step 113 = .ok (.iload_n 3, 1) := by decide +kernel
theorem dX9_step_114 : decode cX9_step 114 = .ok (.iadd, 1) := by decide +kernel
theorem dX9_step_115 : decode cX9_step 115 = .ok (.iaload, 1) := by decide +kernel
theorem dX9_step_116 : decode cX9_step 116 = .ok (.iconst (-1), 1) := by decide +kernel
theorem dX9_step_117 : decode cX9_step 117 = .ok (.invokevirtual 135, 3) := by decide +kernel
theorem dX9_step_120 : decode cX9_step 120 = .ok (.iconst (-1), 1) := by decide +kernel
theorem dX9_step_121 : decode cX9_step 121 = .ok (.ireturn, 1) := by decide +kernel
theorem dX9_step_122 : decode cX9_step 122 = .ok (.aload_n 0, 1) := by decide +kernel
theorem dX9_step_123 : decode cX9_step 123 = .ok (.invokevirtual 180, 3) := by decide +kernel
theorem dX9_step_126 : decode cX9_step 126 = .ok (.istore 4, 2) := by decide +kernel
theorem dX9_step_128 : decode cX9_step 128 = .ok (.iload 4, 2) := by decide +kernel
theorem dX9_step_130 : decode cX9_step 130 = .ok (.ifCond .ne 9, 3) := by decide +kernel
theorem dX9_step_133 : decode cX9_step 133 = .ok (.aload_n 0, 1) := by decide +kernel
theorem dX9_step_134 : decode cX9_step 134 = .ok (.iconst 1, 1) := by decide +kernel
theorem dX9_step_135 : decode cX9_step 135 = .ok (.invokevirtual 147, 3) := by decide +kernel
theorem dX9_step_138 : decode cX9_step 138 = .ok (.ireturn, 1) := by decide +kernel
theorem dX9_step_139 : decode cX9_step 139 = .ok (.aload_n 0, 1) := by decide +kernel
theorem dX9_step_140 : decode cX9_step 140 = .ok (.dup, 1) := by decide +kernel
theorem dX9_step_141 : decode cX9_step 141 = .ok (.getfield 105, 3) := by decide +kernel
theorem dX9_step_144 : decode cX9_step 144 = .ok (.iconst 1, 1) := by decide +kernel
theorem dX9_step_145 : decode cX9_step 145 = .ok (.iadd, 1) := by decide +kernel
theorem dX9_step_146 : decode cX9_step 146 = .ok (.putfield 105, 3) := by decide +kernel
theorem dX9_step_149 : decode cX9_step 149 = .ok (.aload_n 0, 1) := by decide +kernel
theorem dX9_step_150 : decode cX9_step 150 = .ok (.getfield 7, 3) := by decide +kernel
theorem dX9_step_153 : decode cX9_step 153 = .ok (.bipush 9, 2) := by decide +kernel
theorem dX9_step_155 : decode cX9_step 155 = .ok (.dup2, 1) := by decide +kernel
theorem dX9_step_156 : decode cX9_step 156 = .ok (.iaload, 1) := by decide +kernel
theorem dX9_step_157 : decode cX9_step 157 = .ok (.iconst 1, 1) := by decide +kernel
theorem dX9_step_158 : decode cX9_step 158 = .ok (.iadd, 1) := by decide +kernel
theorem dX9_step_159 : decode cX9_step 159 = .ok (.iastore, 1) := by decide +kernel
theorem dX9_step_160 : decode cX9_step 160 = .ok (.aload_n 0, 1) := by decide +kernel
theorem dX9_step_161 : decode cX9_step 161 = .ok (.aload_n 0, 1) := by decide +kernel
theorem dX9_step_162 : decode cX9_step 162 = .ok (.getfield 7, 3) := by decide +kernel
theorem dX9_step_165 : decode cX9_step 165 = .ok (.bipush 32, 2) := by decide +kernel
theorem dX9_step_167 : decode cX9_step 167 = .ok (.iload 4, 2) := by decide +kernel
theorem dX9_step_169 : decode cX9_step 169 = .ok (.iadd, 1) := by decide +kernel
theorem dX9_step_170 : decode cX9_step 170 = .ok (.iaload, 1) := by decide +kernel
theorem dX9_step_171 : decode cX9_step 171 = .ok (.iconst 1, 1) := by decide +kernel
theorem dX9_step_172 : decode cX9_step 172 = .ok (.if_icmp .ne 8, 3) := by decide +kernel
theorem dX9_step_175 : decode cX9_step 175 = .ok (.iload 4, 2) := by decide +kernel
theorem dX9_step_177 : decode cX9_step 177 = .ok (.goto 6, 3) := by decide +kernel
theorem dX9_step_180 : decode cX9_step 180 = .ok (.iload 4, 2) := by decide +kernel
theorem dX9_step_182 : decode cX9_step 182 = .ok (.ineg, 1) := by decide +kernel
theorem dX9_step_183 : decode cX9_step 183 = .ok (.iconst (-1), 1) := by decide +kernel
theorem dX9_step_184 : decode cX9_step 184 = .ok (.invokevirtual 135, 3) := by decide +kernel
theorem dX9_step_187 : decode cX9_step 187 = .ok (.iconst (-1), 1) := by decide +kernel
theorem dX9_step_188 : decode cX9_step 188 = .ok (.ireturn, 1) := by decide +kernel
theorem dX9_solve_0 : decode cX9_solve 0 = .ok (.aload_n 0, 1) := by decide +kernel
theorem dX9_solve_1 : decode cX9_solve 1 = .ok (.iconst 0, 1) := by decide +kernel
theorem dX9_solve_2 : decode cX9_solve 2 = .ok (.putfield 63, 3) := by decide +kernel
theorem dX9_solve_5 : decode cX9_solve 5 = .ok (.iload_n 1, 1) := by decide +kernel
theorem dX9_solve_6 : decode cX9_solve 6 = .ok (.iconst 1, 1) := by decide +kernel
theorem dX9_solve_7 : decode cX9_solve 7 = .ok (.sipush 200, 3) := by decide +kernel
theorem dX9_solve_10 : decode cX9_solve 10 = .ok (.invokestatic 67, 3) := by decide +kernel
theorem dX9_solve_13 : decode cX9_solve 13 = .ok (.ifCond .ne 5, 3) := by decide +kernel
theorem dX9_solve_16 : decode cX9_solve 16 = .ok (.iconst (-1), 1) := by decide +kernel
theorem dX9_solve_17 : decode cX9_solve 17 = .ok (.ireturn, 1) := by decide +kernel
theorem dX9_solve_18 : decode cX9_solve 18 = .ok (.aload_n 0, 1) := by decide +kernel
theorem dX9_solve_19 : decode cX9_solve 19 = .ok (.invokevirtual 183, 3) := by decide +kernel
theorem dX9_solve_22 : decode cX9_solve 22 = .ok (.aload_n 0, 1) := by decide +kernel
theorem dX9_solve_23 : decode cX9_solve 23 = .ok (.iconst 0, 1) := by decide +kernel
theorem dX9_solve_24 : decode cX9_solve 24 = .ok (.putfield 159, 3) := by decide +kernel
theorem dX9_solve_27 : decode cX9_solve 27 = .ok (.aload_n 0, 1) := by decide +kernel
theorem dX9_solve_28 : decode cX9_solve 28 = .ok (.iconst 0, 1) := by decide +kernel
theorem dX9_solve_29 : decode cX9_solve 29 = .ok (.putfield 141, 3) := by decide +kernel
theorem dX9_solve_32 : decode cX9_solve 32 = .ok (.aload_n 0, 1) := by decide +kernel
theorem dX9_solve_33 : decode cX9_solve 33 = .ok (.iconst 0, 1) := by decide +kernel
theorem dX9_solve_34 : decode cX9_solve 34 = .ok (.putfield 144, 3) := by decide +kernel
theorem dX9_solve_37 : decode cX9_solve 37 = .ok (.aload_n 0, 1) := by decide +kernel
theorem dX9_solve_38 : decode cX9_solve 38 = .ok (.getfield 7, 3) := by decide +kernel
theorem dX9_solve_41 : decode cX9_solve 41 = .ok (.bipush 13, 2) := by decide +kernel
theorem dX9_solve_43 : decode cX9_solve 43 = .ok (.iconst (-1), 1) := by decide +kernel
theorem dX9_solve_44 : decode cX9_solve 44 = .ok (.iastore, 1) := by decide +kernel
theorem dX9_solve_45 : decode cX9_solve 45 = .ok (.aload_n 0, 1) := by decide +kernel
theorem dX9_solve_46 : decode cX9_solve 46 = .ok (.getfield 7, 3) := by decide +kernel
theorem dX9_solve_49 : decode cX9_solve 49 = .ok (.bipush 7, 2) := by decide +kernel
theorem dX9_solve_51 : decode cX9_solve 51 = .ok (.iaload, 1) := by decide +kernel
theorem dX9_solve_52 : decode cX9_solve 52 = .ok (.iconst 1, 1) := by decide +kernel
theorem dX9_solve_53 : decode cX9_solve 53 = .ok (.if_icmp .ne 8, 3) := by decide +kernel
theorem dX9_solve_56 : decode cX9_solve 56 = .ok (.aload_n 0, 1) := by decide +kernel
theorem dX9_solve_57 : decode cX9_solve 57 = .ok (.invokevirtual 153, 3) := by decide +kernel
theorem dX9_solve_60 : decode cX9_solve 60 = .ok (.ireturn, 1) := by decide +kernel
theorem dX9_solve_61 : decode cX9_solve 61 = .ok (.iconst (-1), 1) := by decide +kernel
theorem dX9_solve_62 : decode cX9_solve 62 = .ok (.istore_n 2, 1) := by decide +kernel
theorem dX9_solve_63 : decode cX9_solve 63 = .ok (.iload_n 2, 1) := by decide +kernel
theorem dX9_solve_64 : decode cX9_solve 64 = .ok (.iconst (-1), 1) := by decide +kernel
theorem dX9_solve_65 : decode cX9_solve 65 = .ok (.if_icmp .ne 12, 3) := by decide +kernel
theorem dX9_solve_68 : decode cX9_solve 68 = .ok (.aload_n 0, 1) := by decide +kernel
theorem dX9_solve_69 : decode cX9_solve 69 = .ok (.iload_n 1, 1) := by decide +kernel
theorem dX9_solve_70 : decode cX9_solve 70 = .ok (.invokevirtual 186, 3) := by decide +kernel
theorem dX9_solve_73 : decode cX9_solve 73 = .ok (.istore_n 2, 1) := by decide +kernel
theorem dX9_solve_74 : decode cX9_solve 74 = .ok (.goto (-11), 3) := by decide +kernel
theorem dX9_solve_77 : decode cX9_solve 77 = .ok (.iload_n 2, 1) := by decide +kernel
theorem dX9_solve_78 : decode cX9_solve 78 = .ok (.ireturn, 1) := by decide +kernel
theorem dX9_learntMany_0 : decode cX9_learntMany 0 = .ok (.iconst 0, 1) := by decide +kernel
theorem dX9_learntMany_1 : decode cX9_learntMany 1 = .ok (.istore_n 1, 1) := by decide +kernel
theorem dX9_learntMany_2 : decode cX9_learntMany 2 = .ok (.iconst 0, 1) := by decide +kernel
theorem dX9_learntMany_3 : decode cX9_learntMany 3 = .ok (.istore_n 2, 1) := by decide +kernel
theorem dX9_learntMany_4 : decode cX9_learntMany 4 = .ok (.iload_n 2, 1) := by decide +kernel
theorem dX9_learntMany_5 : decode cX9_learntMany 5 = .ok (.aload_n 0, 1) := by decide +kernel
theorem dX9_learntMany_6 : decode cX9_learntMany 6 = .ok (.getfield 7, 3) := by decide +kernel
theorem dX9_learntMany_9 : decode cX9_learntMany 9 = .ok (.iconst 1, 1) := by decide +kernel
theorem dX9_learntMany_10 : decode cX9_learntMany 10 = .ok (.iaload, 1) := by decide +kernel
theorem dX9_learntMany_11 : decode cX9_learntMany 11 = .ok (.if_icmp .ge 31, 3) := by decide +kernel
theorem dX9_learntMany_14 : decode cX9_learntMany 14 = .ok (.iload_n 1, 1) := by decide +kernel
theorem dX9_learntMany_15 : decode cX9_learntMany 15 = .ok (.aload_n 0, 1) := by decide +kernel
theorem dX9_learntMany_16 : decode cX9_learntMany 16 = .ok (.getfield 7, 3) := by decide +kernel
theorem dX9_learntMany_19 : decode cX9_learntMany 19 = .ok (.sipush 525, 3) := by decide +kernel
theorem dX9_learntMany_22 : decode cX9_learntMany 22 = .ok (.iload_n 2, 1) := by decide +kernel
theorem dX9_learntMany_23 : decode cX9_learntMany 23 = .ok (.iadd, 1) := by decide +kernel
theorem dX9_learntMany_24 : decode cX9_learntMany 24 = .ok (.iaload, 1) := by decide +kernel
theorem dX9_learntMany_25 : decode cX9_learntMany 25 = .ok (.iconst 1, 1) := by decide +kernel
theorem dX9_learntMany_26 : decode cX9_learntMany 26 = .ok (.if_icmp .ne 7, 3) := by decide +kernel
theorem dX9_learntMany_29 : decode cX9_learntMany 29 = .ok (.iconst 1, 1) := by decide +kernel
theorem dX9_learntMany_30 : decode cX9_learntMany 30 = .ok (.goto 4, 3) := by decide +kernel
theorem dX9_learntMany_33 : decode cX9_learntMany 33 = .ok (.iconst 0, 1) := by decide +kernel
theorem dX9_learntMany_34 : decode cX9_learntMany 34 = .ok (.iadd, 1) := by decide +kernel
theorem dX9_learntMany_35 : decode cX9_learntMany 35 = .ok (.istore_n 1, 1) := by decide +kernel
theorem dX9_learntMany_36 : decode cX9_learntMany 36 = .ok (.iinc 2 1, 3) := by decide +kernel
theorem dX9_learntMany_39 : decode cX9_learntMany 39 = .ok (.goto (-35), 3) := by decide +kernel
theorem dX9_learntMany_42 : decode cX9_learntMany 42 = .ok (.iload_n 1, 1) := by decide +kernel
theorem dX9_learntMany_43 : decode cX9_learntMany 43 = .ok (.ireturn, 1) := by decide +kernel
theorem dX9_count_0 : decode cX9_count 0 = .ok (.aload_n 0, 1) := by decide +kernel
theorem dX9_count_1 : decode cX9_count 1 = .ok (.iconst 0, 1) := by decide +kernel
theorem dX9_count_2 : decode cX9_count 2 = .ok (.putfield 63, 3) := by decide +kernel
theorem dX9_count_5 : decode cX9_count 5 = .ok (.iload_n 1, 1) := by decide +kernel
theorem dX9_count_6 : decode cX9_count 6 = .ok (.tableswitch 182 0 14 #[74, 81, 88, 95, 100, 107, 114, 121, 129, 137, 142, 150, 158, 166, 174], 74) := by decide +kernel
theorem dX9_count_80 : decode cX9_count 80 = .ok (.aload_n 0, 1) := by decide +kernel
theorem dX9_count_81 : decode cX9_count 81 = .ok (.getfield 7, 3) := by decide +kernel
theorem dX9_count_84 : decode cX9_count 84 = .ok (.iconst 0, 1) := by decide +kernel
theorem dX9_count_85 : decode cX9_count 85 = .ok (.iaload, 1) := by decide +kernel
theorem dX9_count_86 : decode cX9_count 86 = .ok (.ireturn, 1) := by decide +kernel
theorem dX9_count_87 : decode cX9_count 87 = .ok (.aload_n 0, 1) := by decide +kernel
theorem dX9_count_88 : decode cX9_count 88 = .ok (.getfield 7, 3) := by decide +kernel
theorem dX9_count_91 : decode cX9_count 91 = .ok (.iconst 1, 1) := by decide +kernel
theorem dX9_count_92 : decode cX9_count 92 = .ok (.iaload, 1) := by decide +kernel
theorem dX9_count_93 : decode cX9_count 93 = .ok (.ireturn, 1) := by decide +kernel
theorem dX9_count_94 : decode cX9_count 94 = .ok (.aload_n 0, 1) := by decide +kernel
theorem dX9_count_95 : decode cX9_count 95 = .ok (.getfield 7, 3) := by decide +kernel
theorem dX9_count_98 : decode cX9_count 98 = .ok (.iconst 2, 1) := by decide +kernel
theorem dX9_count_99 : decode cX9_count 99 = .ok (.iaload, 1) := by decide +kernel
theorem dX9_count_100 : decode cX9_count 100 = .ok (.ireturn, 1) := by decide +kernel
theorem dX9_count_101 : decode cX9_count 101 = .ok (.aload_n 0, 1) := by decide +kernel
theorem dX9_count_102 : decode cX9_count 102 = .ok (.invokevirtual 189, 3) := by decide +kernel
theorem dX9_count_105 : decode cX9_count 105 = .ok (.ireturn, 1) := by decide +kernel
theorem dX9_count_106 : decode cX9_count 106 = .ok (.aload_n 0, 1) := by decide +kernel
theorem dX9_count_107 : decode cX9_count 107 = .ok (.getfield 7, 3) := by decide +kernel
theorem dX9_count_110 : decode cX9_count 110 = .ok (.iconst 3, 1) := by decide +kernel
theorem dX9_count_111 : decode cX9_count 111 = .ok (.iaload, 1) := by decide +kernel
theorem dX9_count_112 : decode cX9_count 112 = .ok (.ireturn, 1) := by decide +kernel
theorem dX9_count_113 : decode cX9_count 113 = .ok (.aload_n 0, 1) := by decide +kernel
theorem dX9_count_114 : decode cX9_count 114 = .ok (.getfield 7, 3) := by decide +kernel
theorem dX9_count_117 : decode cX9_count 117 = .ok (.iconst 4, 1) := by decide +kernel
theorem dX9_count_118 : decode cX9_count 118 = .ok (.iaload, 1) := by decide +kernel
theorem dX9_count_119 : decode cX9_count 119 = .ok (.ireturn, 1) := by decide +kernel
theorem dX9_count_120 : decode cX9_count 120 = .ok (.aload_n 0, 1) := by decide +kernel
theorem dX9_count_121 : decode cX9_count 121 = .ok (.getfield 7, 3) := by decide +kernel
theorem dX9_count_124 : decode cX9_count 124 = .ok (.iconst 5, 1) := by decide +kernel
theorem dX9_count_125 : decode cX9_count 125 = .ok (.iaload, 1) := by decide +kernel
theorem dX9_count_126 : decode cX9_count 126 = .ok (.ireturn, 1) := by decide +kernel
theorem dX9_count_127 : decode cX9_count 127 = .ok (.aload_n 0, 1) := by decide +kernel
theorem dX9_count_128 : decode cX9_count 128 = .ok (.getfield 7, 3) := by decide +kernel
theorem dX9_count_131 : decode cX9_count 131 = .ok (.bipush 6, 2) := by decide +kernel
theorem dX9_count_133 : decode cX9_count 133 = .ok (.iaload, 1) := by decide +kernel
theorem dX9_count_134 : decode cX9_count 134 = .ok (.ireturn, 1) := by decide +kernel
theorem dX9_count_135 : decode cX9_count 135 = .ok (.aload_n 0, 1) := by decide +kernel
theorem dX9_count_136 : decode cX9_count 136 = .ok (.getfield 7, 3) := by decide +kernel
theorem dX9_count_139 : decode cX9_count 139 = .ok (.bipush 7, 2) := by decide +kernel
theorem dX9_count_141 : decode cX9_count 141 = .ok (.iaload, 1) := by decide +kernel
theorem dX9_count_142 : decode cX9_count 142 = .ok (.ireturn, 1) := by decide +kernel
theorem dX9_count_143 : decode cX9_count 143 = .ok (.aload_n 0, 1) := by decide +kernel
theorem dX9_count_144 : decode cX9_count 144 = .ok (.getfield 192, 3) := by decide +kernel
theorem dX9_count_147 : decode cX9_count 147 = .ok (.ireturn, 1) := by decide +kernel
theorem dX9_count_148 : decode cX9_count 148 = .ok (.aload_n 0, 1) := by decide +kernel
theorem dX9_count_149 : decode cX9_count 149 = .ok (.getfield 7, 3) := by decide +kernel
theorem dX9_count_152 : decode cX9_count 152 = .ok (.bipush 8, 2) := by decide +kernel
theorem dX9_count_154 : decode cX9_count 154 = .ok (.iaload, 1) := by decide +kernel
theorem dX9_count_155 : decode cX9_count 155 = .ok (.ireturn, 1) := by decide +kernel
theorem dX9_count_156 : decode cX9_count 156 = .ok (.aload_n 0, 1) := by decide +kernel
theorem dX9_count_157 : decode cX9_count 157 = .ok (.getfield 7, 3) := by decide +kernel
theorem dX9_count_160 : decode cX9_count 160 = .ok (.bipush 9, 2) := by decide +kernel
theorem dX9_count_162 : decode cX9_count 162 = .ok (.iaload, 1) := by decide +kernel
theorem dX9_count_163 : decode cX9_count 163 = .ok (.ireturn, 1) := by decide +kernel
theorem dX9_count_164 : decode cX9_count 164 = .ok (.aload_n 0, 1) := by decide +kernel
theorem dX9_count_165 : decode cX9_count 165 = .ok (.getfield 7, 3) := by decide +kernel
theorem dX9_count_168 : decode cX9_count 168 = .ok (.bipush 10, 2) := by decide +kernel
theorem dX9_count_170 : decode cX9_count 170 = .ok (.iaload, 1) := by decide +kernel
theorem dX9_count_171 : decode cX9_count 171 = .ok (.ireturn, 1) := by decide +kernel
theorem dX9_count_172 : decode cX9_count 172 = .ok (.aload_n 0, 1) := by decide +kernel
theorem dX9_count_173 : decode cX9_count 173 = .ok (.getfield 7, 3) := by decide +kernel
theorem dX9_count_176 : decode cX9_count 176 = .ok (.bipush 11, 2) := by decide +kernel
theorem dX9_count_178 : decode cX9_count 178 = .ok (.iaload, 1) := by decide +kernel
theorem dX9_count_179 : decode cX9_count 179 = .ok (.ireturn, 1) := by decide +kernel
theorem dX9_count_180 : decode cX9_count 180 = .ok (.aload_n 0, 1) := by decide +kernel
theorem dX9_count_181 : decode cX9_count 181 = .ok (.getfield 7, 3) := by decide +kernel
theorem dX9_count_184 : decode cX9_count 184 = .ok (.bipush 12, 2) := by decide +kernel
theorem dX9_count_186 : decode cX9_count 186 = .ok (.iaload, 1) := by decide +kernel
theorem dX9_count_187 : decode cX9_count 187 = .ok (.ireturn, 1) := by decide +kernel
theorem dX9_count_188 : decode cX9_count 188 = .ok (.iconst (-1), 1) := by decide +kernel
theorem dX9_count_189 : decode cX9_count 189 = .ok (.ireturn, 1) := by decide +kernel
theorem dX9_clause_0 : decode cX9_clause 0 = .ok (.aload_n 0, 1) := by decide +kernel
theorem dX9_clause_1 : decode cX9_clause 1 = .ok (.iload_n 1, 1) := by decide +kernel
theorem dX9_clause_2 : decode cX9_clause 2 = .ok (.iconst 0, 1) := by decide +kernel
theorem dX9_clause_3 : decode cX9_clause 3 = .ok (.aload_n 0, 1) := by decide +kernel
theorem dX9_clause_4 : decode cX9_clause 4 = .ok (.getfield 7, 3) := by decide +kernel
theorem dX9_clause_7 : decode cX9_clause 7 = .ok (.iconst 1, 1) := by decide +kernel
theorem dX9_clause_8 : decode cX9_clause 8 = .ok (.iaload, 1) := by decide +kernel
theorem dX9_clause_9 : decode cX9_clause 9 = .ok (.iconst 1, 1) := by decide +kernel
theorem dX9_clause_10 : decode cX9_clause 10 = .ok (.isub, 1) := by decide +kernel
theorem dX9_clause_11 : decode cX9_clause 11 = .ok (.invokestatic 67, 3) := by decide +kernel
theorem dX9_clause_14 : decode cX9_clause 14 = .ok (.ifCond .eq 23, 3) := by decide +kernel
theorem dX9_clause_17 : decode cX9_clause 17 = .ok (.iload_n 2, 1) := by decide +kernel
theorem dX9_clause_18 : decode cX9_clause 18 = .ok (.bipush (-3), 2) := by decide +kernel
theorem dX9_clause_20 : decode cX9_clause 20 = .ok (.aload_n 0, 1) := by decide +kernel
theorem dX9_clause_21 : decode cX9_clause 21 = .ok (.iload_n 1, 1) := by decide +kernel
theorem dX9_clause_22 : decode cX9_clause 22 = .ok (.invokevirtual 99, 3) := by decide +kernel
theorem dX9_clause_25 : decode cX9_clause 25 = .ok (.iconst 1, 1) := by decide +kernel
theorem dX9_clause_26 : decode cX9_clause 26 = .ok (.isub, 1) := by decide +kernel
theorem dX9_clause_27 : decode cX9_clause 27 = .ok (.invokestatic 67, 3) := by decide +kernel
theorem dX9_clause_30 : decode cX9_clause 30 = .ok (.ifCond .eq 7, 3) := by decide +kernel
theorem dX9_clause_33 : decode cX9_clause 33 = .ok (.iconst 0, 1) := by decide +kernel
theorem dX9_clause_34 : decode cX9_clause 34 = .ok (.goto 4, 3) := by decide +kernel
theorem dX9_clause_37 : decode cX9_clause 37 = .ok (.iconst 1, 1) := by decide +kernel
theorem dX9_clause_38 : decode cX9_clause 38 = .ok (.putfield 63, 3) := by decide +kernel
theorem dX9_clause_41 : decode cX9_clause 41 = .ok (.aload_n 0, 1) := by decide +kernel
theorem dX9_clause_42 : decode cX9_clause 42 = .ok (.getfield 63, 3) := by decide +kernel
theorem dX9_clause_45 : decode cX9_clause 45 = .ok (.iconst 1, 1) := by decide +kernel
theorem dX9_clause_46 : decode cX9_clause 46 = .ok (.if_icmp .ne 5, 3) := by decide +kernel
theorem dX9_clause_49 : decode cX9_clause 49 = .ok (.iconst 0, 1) := by decide +kernel
theorem dX9_clause_50 : decode cX9_clause 50 = .ok (.ireturn, 1) := by decide +kernel
theorem dX9_clause_51 : decode cX9_clause 51 = .ok (.iload_n 2, 1) := by decide +kernel
theorem dX9_clause_52 : decode cX9_clause 52 = .ok (.tableswitch 62 (-3) (-1) #[48, 34, 28], 28) := by decide +kernel
theorem dX9_clause_80 : decode cX9_clause 80 = .ok (.aload_n 0, 1) := by decide +kernel
theorem dX9_clause_81 : decode cX9_clause 81 = .ok (.iload_n 1, 1) := by decide +kernel
theorem dX9_clause_82 : decode cX9_clause 82 = .ok (.invokevirtual 99, 3) := by decide +kernel
theorem dX9_clause_85 : decode cX9_clause 85 = .ok (.ireturn, 1) := by decide +kernel
theorem dX9_clause_86 : decode cX9_clause 86 = .ok (.aload_n 0, 1) := by decide +kernel
theorem dX9_clause_87 : decode cX9_clause 87 = .ok (.iload_n 1, 1) := by decide +kernel
theorem dX9_clause_88 : decode cX9_clause 88 = .ok (.invokevirtual 93, 3) := by decide +kernel
theorem dX9_clause_91 : decode cX9_clause 91 = .ok (.ifCond .eq 7, 3) := by decide +kernel
theorem dX9_clause_94 : decode cX9_clause 94 = .ok (.iconst 1, 1) := by decide +kernel
theorem dX9_clause_95 : decode cX9_clause 95 = .ok (.goto 4, 3) := by decide +kernel
theorem dX9_clause_98 : decode cX9_clause 98 = .ok (.iconst 0, 1) := by decide +kernel
theorem dX9_clause_99 : decode cX9_clause 99 = .ok (.ireturn, 1) := by decide +kernel
theorem dX9_clause_100 : decode cX9_clause 100 = .ok (.aload_n 0, 1) := by decide +kernel
theorem dX9_clause_101 : decode cX9_clause 101 = .ok (.iload_n 1, 1) := by decide +kernel
theorem dX9_clause_102 : decode cX9_clause 102 = .ok (.invokevirtual 96, 3) := by decide +kernel
theorem dX9_clause_105 : decode cX9_clause 105 = .ok (.ifCond .eq 7, 3) := by decide +kernel
theorem dX9_clause_108 : decode cX9_clause 108 = .ok (.iconst 1, 1) := by decide +kernel
theorem dX9_clause_109 : decode cX9_clause 109 = .ok (.goto 4, 3) := by decide +kernel
theorem dX9_clause_112 : decode cX9_clause 112 = .ok (.iconst 0, 1) := by decide +kernel
theorem dX9_clause_113 : decode cX9_clause 113 = .ok (.ireturn, 1) := by decide +kernel
theorem dX9_clause_114 : decode cX9_clause 114 = .ok (.aload_n 0, 1) := by decide +kernel
theorem dX9_clause_115 : decode cX9_clause 115 = .ok (.iload_n 1, 1) := by decide +kernel
theorem dX9_clause_116 : decode cX9_clause 116 = .ok (.iload_n 2, 1) := by decide +kernel
theorem dX9_clause_117 : decode cX9_clause 117 = .ok (.invokevirtual 108, 3) := by decide +kernel
theorem dX9_clause_120 : decode cX9_clause 120 = .ok (.ireturn, 1) := by decide +kernel
theorem dX9_assumption_0 : decode cX9_assumption 0 = .ok (.aload_n 0, 1) := by decide +kernel
theorem dX9_assumption_1 : decode cX9_assumption 1 = .ok (.iconst 0, 1) := by decide +kernel
theorem dX9_assumption_2 : decode cX9_assumption 2 = .ok (.putfield 63, 3) := by decide +kernel
theorem dX9_assumption_5 : decode cX9_assumption 5 = .ok (.iload_n 1, 1) := by decide +kernel
theorem dX9_assumption_6 : decode cX9_assumption 6 = .ok (.iconst 0, 1) := by decide +kernel
theorem dX9_assumption_7 : decode cX9_assumption 7 = .ok (.aload_n 0, 1) := by decide +kernel
theorem dX9_assumption_8 : decode cX9_assumption 8 = .ok (.getfield 7, 3) := by decide +kernel
theorem dX9_assumption_11 : decode cX9_assumption 11 = .ok (.iconst 3, 1) := by decide +kernel
theorem dX9_assumption_12 : decode cX9_assumption 12 = .ok (.iaload, 1) := by decide +kernel
theorem dX9_assumption_13 : decode cX9_assumption 13 = .ok (.iconst 1, 1) := by decide +kernel
theorem dX9_assumption_14 : decode cX9_assumption 14 = .ok (.isub, 1) := by decide +kernel
theorem dX9_assumption_15 : decode cX9_assumption 15 = .ok (.invokestatic 67, 3) := by decide +kernel
theorem dX9_assumption_18 : decode cX9_assumption 18 = .ok (.ifCond .eq 15, 3) := by decide +kernel
theorem dX9_assumption_21 : decode cX9_assumption 21 = .ok (.aload_n 0, 1) := by decide +kernel
theorem dX9_assumption_22 : decode cX9_assumption 22 = .ok (.getfield 7, 3) := by decide +kernel
theorem dX9_assumption_25 : decode cX9_assumption 25 = .ok (.bipush 16, 2) := by decide +kernel
theorem dX9_assumption_27 : decode cX9_assumption 27 = .ok (.iload_n 1, 1) := by decide +kernel
theorem dX9_assumption_28 : decode cX9_assumption 28 = .ok (.iadd, 1) := by decide +kernel
theorem dX9_assumption_29 : decode cX9_assumption 29 = .ok (.iaload, 1) := by decide +kernel
theorem dX9_assumption_30 : decode cX9_assumption 30 = .ok (.goto 4, 3) := by decide +kernel
theorem dX9_assumption_33 : decode cX9_assumption 33 = .ok (.iconst 0, 1) := by decide +kernel
theorem dX9_assumption_34 : decode cX9_assumption 34 = .ok (.ireturn, 1) := by decide +kernel
theorem dX9_model_0 : decode cX9_model 0 = .ok (.aload_n 0, 1) := by decide +kernel
theorem dX9_model_1 : decode cX9_model 1 = .ok (.iconst 0, 1) := by decide +kernel
theorem dX9_model_2 : decode cX9_model 2 = .ok (.putfield 63, 3) := by decide +kernel
theorem dX9_model_5 : decode cX9_model 5 = .ok (.iload_n 1, 1) := by decide +kernel
theorem dX9_model_6 : decode cX9_model 6 = .ok (.iconst 1, 1) := by decide +kernel
theorem dX9_model_7 : decode cX9_model 7 = .ok (.aload_n 0, 1) := by decide +kernel
theorem dX9_model_8 : decode cX9_model 8 = .ok (.getfield 7, 3) := by decide +kernel
theorem dX9_model_11 : decode cX9_model 11 = .ok (.bipush 14, 2) := by decide +kernel
theorem dX9_model_13 : decode cX9_model 13 = .ok (.iaload, 1) := by decide +kernel
theorem dX9_model_14 : decode cX9_model 14 = .ok (.invokestatic 67, 3) := by decide +kernel
theorem dX9_model_17 : decode cX9_model 17 = .ok (.ifCond .eq 15, 3) := by decide +kernel
theorem dX9_model_20 : decode cX9_model 20 = .ok (.aload_n 0, 1) := by decide +kernel
theorem dX9_model_21 : decode cX9_model 21 = .ok (.getfield 7, 3) := by decide +kernel
theorem dX9_model_24 : decode cX9_model 24 = .ok (.bipush 94, 2) := by decide +kernel
theorem dX9_model_26 : decode cX9_model 26 = .ok (.iload_n 1, 1) := by decide +kernel
theorem dX9_model_27 : decode cX9_model 27 = .ok (.iadd, 1) := by decide +kernel
theorem dX9_model_28 : decode cX9_model 28 = .ok (.iaload, 1) := by decide +kernel
theorem dX9_model_29 : decode cX9_model 29 = .ok (.goto 4, 3) := by decide +kernel
theorem dX9_model_32 : decode cX9_model 32 = .ok (.iconst (-1), 1) := by decide +kernel
theorem dX9_model_33 : decode cX9_model 33 = .ok (.ireturn, 1) := by decide +kernel
theorem dX9_core_0 : decode cX9_core 0 = .ok (.aload_n 0, 1) := by decide +kernel
theorem dX9_core_1 : decode cX9_core 1 = .ok (.iconst 0, 1) := by decide +kernel
theorem dX9_core_2 : decode cX9_core 2 = .ok (.putfield 63, 3) := by decide +kernel
theorem dX9_core_5 : decode cX9_core 5 = .ok (.aload_n 0, 1) := by decide +kernel
theorem dX9_core_6 : decode cX9_core 6 = .ok (.getfield 7, 3) := by decide +kernel
theorem dX9_core_9 : decode cX9_core 9 = .ok (.bipush 13, 2) := by decide +kernel
theorem dX9_core_11 : decode cX9_core 11 = .ok (.iaload, 1) := by decide +kernel
theorem dX9_core_12 : decode cX9_core 12 = .ok (.ireturn, 1) := by decide +kernel
theorem dX9_among_0 : decode cX9_among 0 = .ok (.iconst 0, 1) := by decide +kernel
theorem dX9_among_1 : decode cX9_among 1 = .ok (.istore_n 2, 1) := by decide +kernel
theorem dX9_among_2 : decode cX9_among 2 = .ok (.iconst 0, 1) := by decide +kernel
theorem dX9_among_3 : decode cX9_among 3 = .ok (.istore_n 3, 1) := by decide +kernel
theorem dX9_among_4 : decode cX9_among 4 = .ok (.iload_n 3, 1) := by decide +kernel
theorem dX9_among_5 : decode cX9_among 5 = .ok (.aload_n 0, 1) := by decide +kernel
theorem dX9_among_6 : decode cX9_among 6 = .ok (.getfield 7, 3) := by decide +kernel
theorem dX9_among_9 : decode cX9_among 9 = .ok (.iconst 1, 1) := by decide +kernel
theorem dX9_among_10 : decode cX9_among 10 = .ok (.iaload, 1) := by decide +kernel
theorem dX9_among_11 : decode cX9_among 11 = .ok (.if_icmp .ge 58, 3) := by decide +kernel
theorem dX9_among_14 : decode cX9_among 14 = .ok (.iconst 0, 1) := by decide +kernel
theorem dX9_among_15 : decode cX9_among 15 = .ok (.istore 4, 2) := by decide +kernel
theorem dX9_among_17 : decode cX9_among 17 = .ok (.iload 4, 2) := by decide +kernel
theorem dX9_among_19 : decode cX9_among 19 = .ok (.aload_n 0, 1) := by decide +kernel
theorem dX9_among_20 : decode cX9_among 20 = .ok (.iload_n 3, 1) := by decide +kernel
theorem dX9_among_21 : decode cX9_among 21 = .ok (.invokevirtual 99, 3) := by decide +kernel
theorem dX9_among_24 : decode cX9_among 24 = .ok (.if_icmp .ge 39, 3) := by decide +kernel
theorem dX9_among_27 : decode cX9_among 27 = .ok (.aload_n 0, 1) := by decide +kernel
theorem dX9_among_28 : decode cX9_among 28 = .ok (.iload_n 3, 1) := by decide +kernel
theorem dX9_among_29 : decode cX9_among 29 = .ok (.invokevirtual 96, 3) := by decide +kernel
theorem dX9_among_32 : decode cX9_among 32 = .ok (.ifCond .ne 31, 3) := by decide +kernel
theorem dX9_among_35 : decode cX9_among 35 = .ok (.iload_n 2, 1) := by decide +kernel
theorem dX9_among_36 : decode cX9_among 36 = .ok (.aload_n 0, 1) := by decide +kernel
theorem dX9_among_37 : decode cX9_among 37 = .ok (.iload_n 3, 1) := by decide +kernel
theorem dX9_among_38 : decode cX9_among 38 = .ok (.iload 4, 2) := by decide +kernel
theorem dX9_among_40 : decode cX9_among 40 = .ok (.invokevirtual 108, 3) := by decide +kernel
theorem dX9_among_43 : decode cX9_among 43 = .ok (.invokestatic 71, 3) := by decide +kernel
theorem dX9_among_46 : decode cX9_among 46 = .ok (.iload_n 1, 1) := by decide +kernel
theorem dX9_among_47 : decode cX9_among 47 = .ok (.if_icmp .ne 7, 3) := by decide +kernel
theorem dX9_among_50 : decode cX9_among 50 = .ok (.iconst 1, 1) := by decide +kernel
theorem dX9_among_51 : decode cX9_among 51 = .ok (.goto 4, 3) := by decide +kernel
theorem dX9_among_54 : decode cX9_among 54 = .ok (.iconst 0, 1) := by decide +kernel
theorem dX9_among_55 : decode cX9_among 55 = .ok (.iadd, 1) := by decide +kernel
theorem dX9_among_56 : decode cX9_among 56 = .ok (.istore_n 2, 1) := by decide +kernel
theorem dX9_among_57 : decode cX9_among 57 = .ok (.iinc 4 1, 3) := by decide +kernel
theorem dX9_among_60 : decode cX9_among 60 = .ok (.goto (-43), 3) := by decide +kernel
theorem dX9_among_63 : decode cX9_among 63 = .ok (.iinc 3 1, 3) := by decide +kernel
theorem dX9_among_66 : decode cX9_among 66 = .ok (.goto (-62), 3) := by decide +kernel
theorem dX9_among_69 : decode cX9_among 69 = .ok (.iload_n 2, 1) := by decide +kernel
theorem dX9_among_70 : decode cX9_among 70 = .ok (.ireturn, 1) := by decide +kernel
theorem dX9_variable_0 : decode cX9_variable 0 = .ok (.aload_n 0, 1) := by decide +kernel
theorem dX9_variable_1 : decode cX9_variable 1 = .ok (.iconst 0, 1) := by decide +kernel
theorem dX9_variable_2 : decode cX9_variable 2 = .ok (.putfield 63, 3) := by decide +kernel
theorem dX9_variable_5 : decode cX9_variable 5 = .ok (.aload_n 0, 1) := by decide +kernel
theorem dX9_variable_6 : decode cX9_variable 6 = .ok (.iload_n 1, 1) := by decide +kernel
theorem dX9_variable_7 : decode cX9_variable 7 = .ok (.invokevirtual 75, 3) := by decide +kernel
theorem dX9_variable_10 : decode cX9_variable 10 = .ok (.ifCond .ne 5, 3) := by decide +kernel
theorem dX9_variable_13 : decode cX9_variable 13 = .ok (.iconst (-1), 1) := by decide +kernel
theorem dX9_variable_14 : decode cX9_variable 14 = .ok (.ireturn, 1) := by decide +kernel
theorem dX9_variable_15 : decode cX9_variable 15 = .ok (.iload_n 2, 1) := by decide +kernel
theorem dX9_variable_16 : decode cX9_variable 16 = .ok (.tableswitch 54 0 2 #[28, 38, 48], 28) := by decide +kernel
theorem dX9_variable_44 : decode cX9_variable 44 = .ok (.aload_n 0, 1) := by decide +kernel
theorem dX9_variable_45 : decode cX9_variable 45 = .ok (.getfield 7, 3) := by decide +kernel
theorem dX9_variable_48 : decode cX9_variable 48 = .ok (.bipush 32, 2) := by decide +kernel
theorem dX9_variable_50 : decode cX9_variable 50 = .ok (.iload_n 1, 1) := by decide +kernel
theorem dX9_variable_51 : decode cX9_variable 51 = .ok (.iadd, 1) := by decide +kernel
theorem dX9_variable_52 : decode cX9_variable 52 = .ok (.iaload, 1) := by decide +kernel
theorem dX9_variable_53 : decode cX9_variable 53 = .ok (.ireturn, 1) := by decide +kernel
theorem dX9_variable_54 : decode cX9_variable 54 = .ok (.aload_n 0, 1) := by decide +kernel
theorem dX9_variable_55 : decode cX9_variable 55 = .ok (.getfield 7, 3) := by decide +kernel
theorem dX9_variable_58 : decode cX9_variable 58 = .ok (.bipush 63, 2) := by decide +kernel
theorem dX9_variable_60 : decode cX9_variable 60 = .ok (.iload_n 1, 1) := by decide +kernel
theorem dX9_variable_61 : decode cX9_variable 61 = .ok (.iadd, 1) := by decide +kernel
theorem dX9_variable_62 : decode cX9_variable 62 = .ok (.iaload, 1) := by decide +kernel
theorem dX9_variable_63 : decode cX9_variable 63 = .ok (.ireturn, 1) := by decide +kernel
theorem dX9_variable_64 : decode cX9_variable 64 = .ok (.aload_n 0, 1) := by decide +kernel
theorem dX9_variable_65 : decode cX9_variable 65 = .ok (.iload_n 1, 1) := by decide +kernel
theorem dX9_variable_66 : decode cX9_variable 66 = .ok (.invokevirtual 195, 3) := by decide +kernel
theorem dX9_variable_69 : decode cX9_variable 69 = .ok (.ireturn, 1) := by decide +kernel
theorem dX9_variable_70 : decode cX9_variable 70 = .ok (.iconst (-1), 1) := by decide +kernel
theorem dX9_variable_71 : decode cX9_variable 71 = .ok (.ireturn, 1) := by decide +kernel
theorem dX9_follows_0 : decode cX9_follows 0 = .ok (.aload_n 0, 1) := by decide +kernel
theorem dX9_follows_1 : decode cX9_follows 1 = .ok (.iconst 0, 1) := by decide +kernel
theorem dX9_follows_2 : decode cX9_follows 2 = .ok (.putfield 63, 3) := by decide +kernel
theorem dX9_follows_5 : decode cX9_follows 5 = .ok (.iload_n 1, 1) := by decide +kernel
theorem dX9_follows_6 : decode cX9_follows 6 = .ok (.iconst (-1), 1) := by decide +kernel
theorem dX9_follows_7 : decode cX9_follows 7 = .ok (.if_icmp .ge 5, 3) := by decide +kernel
theorem dX9_follows_10 : decode cX9_follows 10 = .ok (.iconst 0, 1) := by decide +kernel
theorem dX9_follows_11 : decode cX9_follows 11 = .ok (.ireturn, 1) := by decide +kernel
theorem dX9_follows_12 : decode cX9_follows 12 = .ok (.aload_n 0, 1) := by decide +kernel
theorem dX9_follows_13 : decode cX9_follows 13 = .ok (.invokevirtual 183, 3) := by decide +kernel
theorem dX9_follows_16 : decode cX9_follows 16 = .ok (.aload_n 0, 1) := by decide +kernel
theorem dX9_follows_17 : decode cX9_follows 17 = .ok (.iconst 0, 1) := by decide +kernel
theorem dX9_follows_18 : decode cX9_follows 18 = .ok (.invokevirtual 165, 3) := by decide +kernel
theorem dX9_follows_21 : decode cX9_follows 21 = .ok (.iconst (-1), 1) := by decide +kernel
theorem dX9_follows_22 : decode cX9_follows 22 = .ok (.if_icmp .eq 7, 3) := by decide +kernel
theorem dX9_follows_25 : decode cX9_follows 25 = .ok (.iconst 1, 1) := by decide +kernel
theorem dX9_follows_26 : decode cX9_follows 26 = .ok (.goto 4, 3) := by decide +kernel
theorem dX9_follows_29 : decode cX9_follows 29 = .ok (.iconst 0, 1) := by decide +kernel
theorem dX9_follows_30 : decode cX9_follows 30 = .ok (.istore_n 2, 1) := by decide +kernel
theorem dX9_follows_31 : decode cX9_follows 31 = .ok (.aload_n 0, 1) := by decide +kernel
theorem dX9_follows_32 : decode cX9_follows 32 = .ok (.iconst 1, 1) := by decide +kernel
theorem dX9_follows_33 : decode cX9_follows 33 = .ok (.invokevirtual 165, 3) := by decide +kernel
theorem dX9_follows_36 : decode cX9_follows 36 = .ok (.istore_n 3, 1) := by decide +kernel
theorem dX9_follows_37 : decode cX9_follows 37 = .ok (.iload_n 3, 1) := by decide +kernel
theorem dX9_follows_38 : decode cX9_follows 38 = .ok (.iconst (-1), 1) := by decide +kernel
theorem dX9_follows_39 : decode cX9_follows 39 = .ok (.if_icmp .eq 41, 3) := by decide +kernel
theorem dX9_follows_42 : decode cX9_follows 42 = .ok (.aload_n 0, 1) := by decide +kernel
theorem dX9_follows_43 : decode cX9_follows 43 = .ok (.aload_n 0, 1) := by decide +kernel
theorem dX9_follows_44 : decode cX9_follows 44 = .ok (.iload_n 3, 1) := by decide +kernel
theorem dX9_follows_45 : decode cX9_follows 45 = .ok (.invokevirtual 171, 3) := by decide +kernel
theorem dX9_follows_48 : decode cX9_follows 48 = .ok (.iload_n 3, 1) := by decide +kernel
theorem dX9_follows_49 : decode cX9_follows 49 = .ok (.invokevirtual 135, 3) := by decide +kernel
theorem dX9_follows_52 : decode cX9_follows 52 = .ok (.iload_n 2, 1) := by decide +kernel
theorem dX9_follows_53 : decode cX9_follows 53 = .ok (.ifCond .ne 12, 3) := by decide +kernel
theorem dX9_follows_56 : decode cX9_follows 56 = .ok (.aload_n 0, 1) := by decide +kernel
theorem dX9_follows_57 : decode cX9_follows 57 = .ok (.iconst 0, 1) := by decide +kernel
theorem dX9_follows_58 : decode cX9_follows 58 = .ok (.invokevirtual 165, 3) := by decide +kernel
theorem dX9_follows_61 : decode cX9_follows 61 = .ok (.iconst (-1), 1) := by decide +kernel
theorem dX9_follows_62 : decode cX9_follows 62 = .ok (.if_icmp .eq 7, 3) := by decide +kernel
theorem dX9_follows_65 : decode cX9_follows 65 = .ok (.iconst 1, 1) := by decide +kernel
theorem dX9_follows_66 : decode cX9_follows 66 = .ok (.goto 4, 3) := by decide +kernel
theorem dX9_follows_69 : decode cX9_follows 69 = .ok (.iconst 0, 1) := by decide +kernel
theorem dX9_follows_70 : decode cX9_follows 70 = .ok (.istore_n 2, 1) := by decide +kernel
theorem dX9_follows_71 : decode cX9_follows 71 = .ok (.aload_n 0, 1) := by decide +kernel
theorem dX9_follows_72 : decode cX9_follows 72 = .ok (.iconst 1, 1) := by decide +kernel
theorem dX9_follows_73 : decode cX9_follows 73 = .ok (.invokevirtual 165, 3) := by decide +kernel
theorem dX9_follows_76 : decode cX9_follows 76 = .ok (.istore_n 3, 1) := by decide +kernel
theorem dX9_follows_77 : decode cX9_follows 77 = .ok (.goto (-40), 3) := by decide +kernel
theorem dX9_follows_80 : decode cX9_follows 80 = .ok (.iload_n 1, 1) := by decide +kernel
theorem dX9_follows_81 : decode cX9_follows 81 = .ok (.iconst (-1), 1) := by decide +kernel
theorem dX9_follows_82 : decode cX9_follows 82 = .ok (.if_icmp .ne 19, 3) := by decide +kernel
theorem dX9_follows_85 : decode cX9_follows 85 = .ok (.iload_n 2, 1) := by decide +kernel
theorem dX9_follows_86 : decode cX9_follows 86 = .ok (.ifCond .eq 8, 3) := by decide +kernel
theorem dX9_follows_89 : decode cX9_follows 89 = .ok (.bipush 100, 2) := by decide +kernel
theorem dX9_follows_91 : decode cX9_follows 91 = .ok (.goto 28, 3) := by decide +kernel
theorem dX9_follows_94 : decode cX9_follows 94 = .ok (.aload_n 0, 1) := by decide +kernel
theorem dX9_follows_95 : decode cX9_follows 95 = .ok (.getfield 102, 3) := by decide +kernel
theorem dX9_follows_98 : decode cX9_follows 98 = .ok (.goto 21, 3) := by decide +kernel
theorem dX9_follows_101 : decode cX9_follows 101 = .ok (.iload_n 1, 1) := by decide +kernel
theorem dX9_follows_102 : decode cX9_follows 102 = .ok (.aload_n 0, 1) := by decide +kernel
theorem dX9_follows_103 : decode cX9_follows 103 = .ok (.getfield 102, 3) := by decide +kernel
theorem dX9_follows_106 : decode cX9_follows 106 = .ok (.if_icmp .ge 12, 3) := by decide +kernel
theorem dX9_follows_109 : decode cX9_follows 109 = .ok (.aload_n 0, 1) := by decide +kernel
theorem dX9_follows_110 : decode cX9_follows 110 = .ok (.getfield 35, 3) := by decide +kernel
theorem dX9_follows_113 : decode cX9_follows 113 = .ok (.iload_n 1, 1) := by decide +kernel
theorem dX9_follows_114 : decode cX9_follows 114 = .ok (.iaload, 1) := by decide +kernel
theorem dX9_follows_115 : decode cX9_follows 115 = .ok (.goto 4, 3) := by decide +kernel
theorem dX9_follows_118 : decode cX9_follows 118 = .ok (.iconst 0, 1) := by decide +kernel
theorem dX9_follows_119 : decode cX9_follows 119 = .ok (.ireturn, 1) := by decide +kernel
theorem dX9_isLine_0 : decode cX9_isLine 0 = .ok (.iload_n 1, 1) := by decide +kernel
theorem dX9_isLine_1 : decode cX9_isLine 1 = .ok (.iconst 0, 1) := by decide +kernel
theorem dX9_isLine_2 : decode cX9_isLine 2 = .ok (.aload_n 0, 1) := by decide +kernel
theorem dX9_isLine_3 : decode cX9_isLine 3 = .ok (.getfield 7, 3) := by decide +kernel
theorem dX9_isLine_6 : decode cX9_isLine 6 = .ok (.bipush 6, 2) := by decide +kernel
theorem dX9_isLine_8 : decode cX9_isLine 8 = .ok (.iaload, 1) := by decide +kernel
theorem dX9_isLine_9 : decode cX9_isLine 9 = .ok (.iconst 1, 1) := by decide +kernel
theorem dX9_isLine_10 : decode cX9_isLine 10 = .ok (.isub, 1) := by decide +kernel
theorem dX9_isLine_11 : decode cX9_isLine 11 = .ok (.invokestatic 67, 3) := by decide +kernel
theorem dX9_isLine_14 : decode cX9_isLine 14 = .ok (.ireturn, 1) := by decide +kernel
theorem dX9_lineSize_0 : decode cX9_lineSize 0 = .ok (.aload_n 0, 1) := by decide +kernel
theorem dX9_lineSize_1 : decode cX9_lineSize 1 = .ok (.getfield 7, 3) := by decide +kernel
theorem dX9_lineSize_4 : decode cX9_lineSize 4 = .ok (.sipush 925, 3) := by decide +kernel
theorem dX9_lineSize_7 : decode cX9_lineSize 7 = .ok (.iload_n 1, 1) := by decide +kernel
theorem dX9_lineSize_8 : decode cX9_lineSize 8 = .ok (.iadd, 1) := by decide +kernel
theorem dX9_lineSize_9 : decode cX9_lineSize 9 = .ok (.iaload, 1) := by decide +kernel
theorem dX9_lineSize_10 : decode cX9_lineSize 10 = .ok (.iconst (-1), 1) := by decide +kernel
theorem dX9_lineSize_11 : decode cX9_lineSize 11 = .ok (.if_icmp .ne 7, 3) := by decide +kernel
theorem dX9_lineSize_14 : decode cX9_lineSize 14 = .ok (.iconst 0, 1) := by decide +kernel
theorem dX9_lineSize_15 : decode cX9_lineSize 15 = .ok (.goto 17, 3) := by decide +kernel
theorem dX9_lineSize_18 : decode cX9_lineSize 18 = .ok (.aload_n 0, 1) := by decide +kernel
theorem dX9_lineSize_19 : decode cX9_lineSize 19 = .ok (.aload_n 0, 1) := by decide +kernel
theorem dX9_lineSize_20 : decode cX9_lineSize 20 = .ok (.getfield 7, 3) := by decide +kernel
theorem dX9_lineSize_23 : decode cX9_lineSize 23 = .ok (.sipush 925, 3) := by decide +kernel
theorem dX9_lineSize_26 : decode cX9_lineSize 26 = .ok (.iload_n 1, 1) := by decide +kernel
theorem dX9_lineSize_27 : decode cX9_lineSize 27 = .ok (.iadd, 1) := by decide +kernel
theorem dX9_lineSize_28 : decode cX9_lineSize 28 = .ok (.iaload, 1) := by decide +kernel
theorem dX9_lineSize_29 : decode cX9_lineSize 29 = .ok (.invokevirtual 99, 3) := by decide +kernel
theorem dX9_lineSize_32 : decode cX9_lineSize 32 = .ok (.ireturn, 1) := by decide +kernel
theorem dX9_line_0 : decode cX9_line 0 = .ok (.aload_n 0, 1) := by decide +kernel
theorem dX9_line_1 : decode cX9_line 1 = .ok (.iconst 0, 1) := by decide +kernel
theorem dX9_line_2 : decode cX9_line 2 = .ok (.putfield 63, 3) := by decide +kernel
theorem dX9_line_5 : decode cX9_line 5 = .ok (.aload_n 0, 1) := by decide +kernel
theorem dX9_line_6 : decode cX9_line 6 = .ok (.iload_n 1, 1) := by decide +kernel
theorem dX9_line_7 : decode cX9_line 7 = .ok (.invokevirtual 198, 3) := by decide +kernel
theorem dX9_line_10 : decode cX9_line 10 = .ok (.ifCond .eq 18, 3) := by decide +kernel
theorem dX9_line_13 : decode cX9_line 13 = .ok (.iload_n 2, 1) := by decide +kernel
theorem dX9_line_14 : decode cX9_line 14 = .ok (.iconst (-1), 1) := by decide +kernel
theorem dX9_line_15 : decode cX9_line 15 = .ok (.aload_n 0, 1) := by decide +kernel
theorem dX9_line_16 : decode cX9_line 16 = .ok (.iload_n 1, 1) := by decide +kernel
theorem dX9_line_17 : decode cX9_line 17 = .ok (.invokevirtual 201, 3) := by decide +kernel
theorem dX9_line_20 : decode cX9_line 20 = .ok (.iconst 1, 1) := by decide +kernel
theorem dX9_line_21 : decode cX9_line 21 = .ok (.isub, 1) := by decide +kernel
theorem dX9_line_22 : decode cX9_line 22 = .ok (.invokestatic 67, 3) := by decide +kernel
theorem dX9_line_25 : decode cX9_line 25 = .ok (.ifCond .ne 6, 3) := by decide +kernel
theorem dX9_line_28 : decode cX9_line 28 = .ok (.bipush (-100), 2) := by decide +kernel
theorem dX9_line_30 : decode cX9_line 30 = .ok (.ireturn, 1) := by decide +kernel
theorem dX9_line_31 : decode cX9_line 31 = .ok (.iload_n 2, 1) := by decide +kernel
theorem dX9_line_32 : decode cX9_line 32 = .ok (.iconst (-1), 1) := by decide +kernel
theorem dX9_line_33 : decode cX9_line 33 = .ok (.if_icmp .ne 11, 3) := by decide +kernel
theorem dX9_line_36 : decode cX9_line 36 = .ok (.aload_n 0, 1) := by decide +kernel
theorem dX9_line_37 : decode cX9_line 37 = .ok (.iload_n 1, 1) := by decide +kernel
theorem dX9_line_38 : decode cX9_line 38 = .ok (.invokevirtual 201, 3) := by decide +kernel
theorem dX9_line_41 : decode cX9_line 41 = .ok (.goto 18, 3) := by decide +kernel
theorem dX9_line_44 : decode cX9_line 44 = .ok (.aload_n 0, 1) := by decide +kernel
theorem dX9_line_45 : decode cX9_line 45 = .ok (.aload_n 0, 1) := by decide +kernel
theorem dX9_line_46 : decode cX9_line 46 = .ok (.getfield 7, 3) := by decide +kernel
theorem dX9_line_49 : decode cX9_line 49 = .ok (.sipush 925, 3) := by decide +kernel
theorem dX9_line_52 : decode cX9_line 52 = .ok (.iload_n 1, 1) := by decide +kernel
theorem dX9_line_53 : decode cX9_line 53 = .ok (.iadd, 1) := by decide +kernel
theorem dX9_line_54 : decode cX9_line 54 = .ok (.iaload, 1) := by decide +kernel
theorem dX9_line_55 : decode cX9_line 55 = .ok (.iload_n 2, 1) := by decide +kernel
theorem dX9_line_56 : decode cX9_line 56 = .ok (.invokevirtual 108, 3) := by decide +kernel
theorem dX9_line_59 : decode cX9_line 59 = .ok (.ireturn, 1) := by decide +kernel
theorem dX9_drawsFrom_0 : decode cX9_drawsFrom 0 = .ok (.aload_n 0, 1) := by decide +kernel
theorem dX9_drawsFrom_1 : decode cX9_drawsFrom 1 = .ok (.iload_n 1, 1) := by decide +kernel
theorem dX9_drawsFrom_2 : decode cX9_drawsFrom 2 = .ok (.invokevirtual 114, 3) := by decide +kernel
theorem dX9_drawsFrom_5 : decode cX9_drawsFrom 5 = .ok (.istore_n 2, 1) := by decide +kernel
theorem dX9_drawsFrom_6 : decode cX9_drawsFrom 6 = .ok (.iload_n 2, 1) := by decide +kernel
theorem dX9_drawsFrom_7 : decode cX9_drawsFrom 7 = .ok (.iconst 1, 1) := by decide +kernel
theorem dX9_drawsFrom_8 : decode cX9_drawsFrom 8 = .ok (.if_icmp .ne 13, 3) := by decide +kernel
theorem dX9_drawsFrom_11 : decode cX9_drawsFrom 11 = .ok (.aload_n 0, 1) := by decide +kernel
theorem dX9_drawsFrom_12 : decode cX9_drawsFrom 12 = .ok (.aload_n 0, 1) := by decide +kernel
theorem dX9_drawsFrom_13 : decode cX9_drawsFrom 13 = .ok (.iload_n 1, 1) := by decide +kernel
theorem dX9_drawsFrom_14 : decode cX9_drawsFrom 14 = .ok (.invokevirtual 171, 3) := by decide +kernel
theorem dX9_drawsFrom_17 : decode cX9_drawsFrom 17 = .ok (.iload_n 1, 1) := by decide +kernel
theorem dX9_drawsFrom_18 : decode cX9_drawsFrom 18 = .ok (.invokevirtual 135, 3) := by decide +kernel
theorem dX9_drawsFrom_21 : decode cX9_drawsFrom 21 = .ok (.iload_n 2, 1) := by decide +kernel
theorem dX9_drawsFrom_22 : decode cX9_drawsFrom 22 = .ok (.ifCond .ne 7, 3) := by decide +kernel
theorem dX9_drawsFrom_25 : decode cX9_drawsFrom 25 = .ok (.iconst 2, 1) := by decide +kernel
theorem dX9_drawsFrom_26 : decode cX9_drawsFrom 26 = .ok (.goto 13, 3) := by decide +kernel
theorem dX9_drawsFrom_29 : decode cX9_drawsFrom 29 = .ok (.iload_n 2, 1) := by decide +kernel
theorem dX9_drawsFrom_30 : decode cX9_drawsFrom 30 = .ok (.iconst 1, 1) := by decide +kernel
theorem dX9_drawsFrom_31 : decode cX9_drawsFrom 31 = .ok (.if_icmp .ne 7, 3) := by decide +kernel
theorem dX9_drawsFrom_34 : decode cX9_drawsFrom 34 = .ok (.iconst 1, 1) := by decide +kernel
theorem dX9_drawsFrom_35 : decode cX9_drawsFrom 35 = .ok (.goto 4, 3) := by decide +kernel
theorem dX9_drawsFrom_38 : decode cX9_drawsFrom 38 = .ok (.iconst 0, 1) := by decide +kernel
theorem dX9_drawsFrom_39 : decode cX9_drawsFrom 39 = .ok (.ireturn, 1) := by decide +kernel
theorem dX9_drawsRead_0 : decode cX9_drawsRead 0 = .ok (.iconst 0, 1) := by decide +kernel
theorem dX9_drawsRead_1 : decode cX9_drawsRead 1 = .ok (.istore_n 2, 1) := by decide +kernel
theorem dX9_drawsRead_2 : decode cX9_drawsRead 2 = .ok (.iconst 0, 1) := by decide +kernel
theorem dX9_drawsRead_3 : decode cX9_drawsRead 3 = .ok (.istore_n 3, 1) := by decide +kernel
theorem dX9_drawsRead_4 : decode cX9_drawsRead 4 = .ok (.aload_n 0, 1) := by decide +kernel
theorem dX9_drawsRead_5 : decode cX9_drawsRead 5 = .ok (.getfield 50, 3) := by decide +kernel
theorem dX9_drawsRead_8 : decode cX9_drawsRead 8 = .ok (.iload_n 1, 1) := by decide +kernel
theorem dX9_drawsRead_9 : decode cX9_drawsRead 9 = .ok (.iaload, 1) := by decide +kernel
theorem dX9_drawsRead_10 : decode cX9_drawsRead 10 = .ok (.istore 4, 2) := by decide +kernel
theorem dX9_drawsRead_12 : decode cX9_drawsRead 12 = .ok (.iload 4, 2) := by decide +kernel
theorem dX9_drawsRead_14 : decode cX9_drawsRead 14 = .ok (.aload_n 0, 1) := by decide +kernel
theorem dX9_drawsRead_15 : decode cX9_drawsRead 15 = .ok (.getfield 50, 3) := by decide +kernel
theorem dX9_drawsRead_18 : decode cX9_drawsRead 18 = .ok (.iload_n 1, 1) := by decide +kernel
theorem dX9_drawsRead_19 : decode cX9_drawsRead 19 = .ok (.iconst 1, 1) := by decide +kernel
theorem dX9_drawsRead_20 : decode cX9_drawsRead 20 = .ok (.iadd, 1) := by decide +kernel
theorem dX9_drawsRead_21 : decode cX9_drawsRead 21 = .ok (.iaload, 1) := by decide +kernel
theorem dX9_drawsRead_22 : decode cX9_drawsRead 22 = .ok (.if_icmp .ge 59, 3) := by decide +kernel
theorem dX9_drawsRead_25 : decode cX9_drawsRead 25 = .ok (.aload_n 0, 1) := by decide +kernel
theorem dX9_drawsRead_26 : decode cX9_drawsRead 26 = .ok (.aload_n 0, 1) := by decide +kernel
theorem dX9_drawsRead_27 : decode cX9_drawsRead 27 = .ok (.getfield 47, 3) := by decide +kernel
theorem dX9_drawsRead_30 : decode cX9_drawsRead 30 = .ok (.iload 4, 2) := by decide +kernel
theorem dX9_drawsRead_32 : decode cX9_drawsRead 32 = .ok (.iaload, 1) := by decide +kernel
theorem dX9_drawsRead_33 : decode cX9_drawsRead 33 = .ok (.invokevirtual 111, 3) := by decide +kernel
theorem dX9_drawsRead_36 : decode cX9_drawsRead 36 = .ok (.istore 5, 2) := by decide +kernel
theorem dX9_drawsRead_38 : decode cX9_drawsRead 38 = .ok (.iload 5, 2) := by decide +kernel
theorem dX9_drawsRead_40 : decode cX9_drawsRead 40 = .ok (.ifCond .le 5, 3) := by decide +kernel
theorem dX9_drawsRead_43 : decode cX9_drawsRead 43 = .ok (.iconst 0, 1) := by decide +kernel
theorem dX9_drawsRead_44 : decode cX9_drawsRead 44 = .ok (.ireturn, 1) := by decide +kernel
theorem dX9_drawsRead_45 : decode cX9_drawsRead 45 = .ok (.iload_n 2, 1) := by decide +kernel
theorem dX9_drawsRead_46 : decode cX9_drawsRead 46 = .ok (.iload 5, 2) := by decide +kernel
theorem dX9_drawsRead_48 : decode cX9_drawsRead 48 = .ok (.ifCond .ne 7, 3) := by decide +kernel
theorem dX9_drawsRead_51 : decode cX9_drawsRead 51 = .ok (.iconst 1, 1) := by decide +kernel
theorem dX9_drawsRead_52 : decode cX9_drawsRead 52 = .ok (.goto 4, 3) := by decide +kernel
theorem dX9_drawsRead_55 : decode cX9_drawsRead 55 = .ok (.iconst 0, 1) := by decide +kernel
theorem dX9_drawsRead_56 : decode cX9_drawsRead 56 = .ok (.iadd, 1) := by decide +kernel
theorem dX9_drawsRead_57 : decode cX9_drawsRead 57 = .ok (.istore_n 2, 1) := by decide +kernel
theorem dX9_drawsRead_58 : decode cX9_drawsRead 58 = .ok (.iload 5, 2) := by decide +kernel
theorem dX9_drawsRead_60 : decode cX9_drawsRead 60 = .ok (.ifCond .ne 13, 3) := by decide +kernel
theorem dX9_drawsRead_63 : decode cX9_drawsRead 63 = .ok (.aload_n 0, 1) := by decide +kernel
theorem dX9_drawsRead_64 : decode cX9_drawsRead 64 = .ok (.getfield 47, 3) := by decide +kernel
theorem dX9_drawsRead_67 : decode cX9_drawsRead 67 = .ok (.iload 4, 2) := by decide +kernel
theorem dX9_drawsRead_69 : decode cX9_drawsRead 69 = .ok (.iaload, 1) := by decide +kernel
theorem dX9_drawsRead_70 : decode cX9_drawsRead 70 = .ok (.goto 4, 3) := by decide +kernel
theorem dX9_drawsRead_73 : decode cX9_drawsRead 73 = .ok (.iload_n 3, 1) := by decide +kernel
theorem dX9_drawsRead_74 : decode cX9_drawsRead 74 = .ok (.istore_n 3, 1) := by decide +kernel
theorem dX9_drawsRead_75 : decode cX9_drawsRead 75 = .ok (.iinc 4 1, 3) := by decide +kernel
theorem dX9_drawsRead_78 : decode cX9_drawsRead 78 = .ok (.goto (-66), 3) := by decide +kernel
theorem dX9_drawsRead_81 : decode cX9_drawsRead 81 = .ok (.iload_n 2, 1) := by decide +kernel
theorem dX9_drawsRead_82 : decode cX9_drawsRead 82 = .ok (.iconst 1, 1) := by decide +kernel
theorem dX9_drawsRead_83 : decode cX9_drawsRead 83 = .ok (.if_icmp .ne 9, 3) := by decide +kernel
theorem dX9_drawsRead_86 : decode cX9_drawsRead 86 = .ok (.aload_n 0, 1) := by decide +kernel
theorem dX9_drawsRead_87 : decode cX9_drawsRead 87 = .ok (.iload_n 3, 1) := by decide +kernel
theorem dX9_drawsRead_88 : decode cX9_drawsRead 88 = .ok (.iconst (-1), 1) := by decide +kernel
theorem dX9_drawsRead_89 : decode cX9_drawsRead 89 = .ok (.invokevirtual 135, 3) := by decide +kernel
theorem dX9_drawsRead_92 : decode cX9_drawsRead 92 = .ok (.iload_n 2, 1) := by decide +kernel
theorem dX9_drawsRead_93 : decode cX9_drawsRead 93 = .ok (.ifCond .ne 7, 3) := by decide +kernel
theorem dX9_drawsRead_96 : decode cX9_drawsRead 96 = .ok (.iconst 2, 1) := by decide +kernel
theorem dX9_drawsRead_97 : decode cX9_drawsRead 97 = .ok (.goto 13, 3) := by decide +kernel
theorem dX9_drawsRead_100 : decode cX9_drawsRead 100 = .ok (.iload_n 2, 1) := by decide +kernel
theorem dX9_drawsRead_101 : decode cX9_drawsRead 101 = .ok (.iconst 1, 1) := by decide +kernel
theorem dX9_drawsRead_102 : decode cX9_drawsRead 102 = .ok (.if_icmp .ne 7, 3) := by decide +kernel
theorem dX9_drawsRead_105 : decode cX9_drawsRead 105 = .ok (.iconst 1, 1) := by decide +kernel
theorem dX9_drawsRead_106 : decode cX9_drawsRead 106 = .ok (.goto 4, 3) := by decide +kernel
theorem dX9_drawsRead_109 : decode cX9_drawsRead 109 = .ok (.iconst 0, 1) := by decide +kernel
theorem dX9_drawsRead_110 : decode cX9_drawsRead 110 = .ok (.ireturn, 1) := by decide +kernel
theorem dX9_isRefused_0 : decode cX9_isRefused 0 = .ok (.iconst 1, 1) := by decide +kernel
theorem dX9_isRefused_1 : decode cX9_isRefused 1 = .ok (.istore_n 3, 1) := by decide +kernel
theorem dX9_isRefused_2 : decode cX9_isRefused 2 = .ok (.iload_n 3, 1) := by decide +kernel
theorem dX9_isRefused_3 : decode cX9_isRefused 3 = .ok (.ifCond .eq 195, 3) := by decide +kernel
theorem dX9_isRefused_6 : decode cX9_isRefused 6 = .ok (.iconst 0, 1) := by decide +kernel
theorem dX9_isRefused_7 : decode cX9_isRefused 7 = .ok (.istore_n 3, 1) := by decide +kernel
theorem dX9_isRefused_8 : decode cX9_isRefused 8 = .ok (.iconst 0, 1) := by decide +kernel
theorem dX9_isRefused_9 : decode cX9_isRefused 9 = .ok (.istore 4, 2) := by decide +kernel
theorem dX9_isRefused_11 : decode cX9_isRefused 11 = .ok (.iload 4, 2) := by decide +kernel
theorem dX9_isRefused_13 : decode cX9_isRefused 13 = .ok (.aload_n 0, 1) := by decide +kernel
theorem dX9_isRefused_14 : decode cX9_isRefused 14 = .ok (.getfield 7, 3) := by decide +kernel
theorem dX9_isRefused_17 : decode cX9_isRefused 17 = .ok (.iconst 1, 1) := by decide +kernel
theorem dX9_isRefused_18 : decode cX9_isRefused 18 = .ok (.iaload, 1) := by decide +kernel
theorem dX9_isRefused_19 : decode cX9_isRefused 19 = .ok (.if_icmp .ge 54, 3) := by decide +kernel
theorem dX9_isRefused_22 : decode cX9_isRefused 22 = .ok (.aload_n 0, 1) := by decide +kernel
theorem dX9_isRefused_23 : decode cX9_isRefused 23 = .ok (.iload 4, 2) := by decide +kernel
theorem dX9_isRefused_25 : decode cX9_isRefused 25 = .ok (.invokevirtual 93, 3) := by decide +kernel
theorem dX9_isRefused_28 : decode cX9_isRefused 28 = .ok (.ifCond .eq 7, 3) := by decide +kernel
theorem dX9_isRefused_31 : decode cX9_isRefused 31 = .ok (.iconst 0, 1) := by decide +kernel
theorem dX9_isRefused_32 : decode cX9_isRefused 32 = .ok (.goto 9, 3) := by decide +kernel
theorem dX9_isRefused_35 : decode cX9_isRefused 35 = .ok (.aload_n 0, 1) := by decide +kernel
theorem dX9_isRefused_36 : decode cX9_isRefused 36 = .ok (.iload 4, 2) := by decide +kernel
theorem dX9_isRefused_38 : decode cX9_isRefused 38 = .ok (.invokevirtual 204, 3) := by decide +kernel
theorem dX9_isRefused_41 : decode cX9_isRefused 41 = .ok (.istore 5, 2) := by decide +kernel
theorem dX9_isRefused_43 : decode cX9_isRefused 43 = .ok (.iload 5, 2) := by decide +kernel
theorem dX9_isRefused_45 : decode cX9_isRefused 45 = .ok (.iconst 2, 1) := by decide +kernel
theorem dX9_isRefused_46 : decode cX9_isRefused 46 = .ok (.if_icmp .ne 5, 3) := by decide +kernel
theorem dX9_isRefused_49 : decode cX9_isRefused 49 = .ok (.iconst 1, 1) := by decide +kernel
theorem dX9_isRefused_50 : decode cX9_isRefused 50 = .ok (.ireturn, 1) := by decide +kernel
theorem dX9_isRefused_51 : decode cX9_isRefused 51 = .ok (.iload_n 3, 1) := by decide +kernel
theorem dX9_isRefused_52 : decode cX9_isRefused 52 = .ok (.ifCond .ne 9, 3) := by decide +kernel
theorem dX9_isRefused_55 : decode cX9_isRefused 55 = .ok (.iload 5, 2) := by decide +kernel
theorem dX9_isRefused_57 : decode cX9_isRefused 57 = .ok (.iconst 1, 1) := by decide +kernel
theorem dX9_isRefused_58 : decode cX9_isRefused 58 = .ok (.if_icmp .ne 7, 3) := by decide +kernel
theorem dX9_isRefused_61 : decode cX9_isRefused 61 = .ok (.iconst 1, 1) := by decide +kernel
theorem dX9_isRefused_62 : decode cX9_isRefused 62 = .ok (.goto 4, 3) := by decide +kernel
theorem dX9_isRefused_65 : decode cX9_isRefused 65 = .ok (.iconst 0, 1) := by decide +kernel
theorem dX9_isRefused_66 : decode cX9_isRefused 66 = .ok (.istore_n 3, 1) := by decide +kernel
theorem dX9_isRefused_67 : decode cX9_isRefused 67 = .ok (.iinc 4 1, 3) := by decide +kernel
theorem dX9_isRefused_70 : decode cX9_isRefused 70 = .ok (.goto (-59), 3) := by decide +kernel
theorem dX9_isRefused_73 : decode cX9_isRefused 73 = .ok (.iconst 0, 1) := by decide +kernel
theorem dX9_isRefused_74 : decode cX9_isRefused 74 = .ok (.istore 4, 2) := by decide +kernel
theorem dX9_isRefused_76 : decode cX9_isRefused 76 = .ok (.iload 4, 2) := by decide +kernel
theorem dX9_isRefused_78 : decode cX9_isRefused 78 = .ok (.iload_n 1, 1) := by decide +kernel
theorem dX9_isRefused_79 : decode cX9_isRefused 79 = .ok (.if_icmp .ge 69, 3) := by decide +kernel
theorem dX9_isRefused_82 : decode cX9_isRefused 82 = .ok (.aload_n 0, 1) := by decide +kernel
theorem dX9_isRefused_83 : decode cX9_isRefused 83 = .ok (.getfield 7, 3) := by decide +kernel
theorem dX9_isRefused_86 : decode cX9_isRefused 86 = .ok (.sipush 925, 3) := by decide +kernel
theorem dX9_isRefused_89 : decode cX9_isRefused 89 = .ok (.iload 4, 2) := by decide +kernel
theorem dX9_isRefused_91 : decode cX9_isRefused 91 = .ok (.iadd, 1) := by decide +kernel
theorem dX9_isRefused_92 : decode cX9_isRefused 92 = .ok (.iaload, 1) := by decide +kernel
theorem dX9_isRefused_93 : decode cX9_isRefused 93 = .ok (.iconst (-1), 1) := by decide +kernel
theorem dX9_isRefused_94 : decode cX9_isRefused 94 = .ok (.if_icmp .ne 7, 3) := by decide +kernel
theorem dX9_isRefused_97 : decode cX9_isRefused 97 = .ok (.iconst 2, 1) := by decide +kernel
theorem dX9_isRefused_98 : decode cX9_isRefused 98 = .ok (.goto 18, 3) := by decide +kernel
theorem dX9_isRefused_101 : decode cX9_isRefused 101 = .ok (.aload_n 0, 1) := by decide +kernel
theorem dX9_isRefused_102 : decode cX9_isRefused 102 = .ok (.aload_n 0, 1) := by decide +kernel
theorem dX9_isRefused_103 : decode cX9_isRefused 103 = .ok (.getfield 7, 3) := by decide +kernel
theorem dX9_isRefused_106 : decode cX9_isRefused 106 = .ok (.sipush 925, 3) := by decide +kernel
theorem dX9_isRefused_109 : decode cX9_isRefused 109 = .ok (.iload 4, 2) := by decide +kernel
theorem dX9_isRefused_111 : decode cX9_isRefused 111 = .ok (.iadd, 1) := by decide +kernel
theorem dX9_isRefused_112 : decode cX9_isRefused 112 = .ok (.iaload, 1) := by decide +kernel
theorem dX9_isRefused_113 : decode cX9_isRefused 113 = .ok (.invokevirtual 204, 3) := by decide +kernel
theorem dX9_isRefused_116 : decode cX9_isRefused 116 = .ok (.istore 5, 2) := by decide +kernel
theorem dX9_isRefused_118 : decode cX9_isRefused 118 = .ok (.iload 5, 2) := by decide +kernel
theorem dX9_isRefused_120 : decode cX9_isRefused 120 = .ok (.iconst 2, 1) := by decide +kernel
theorem dX9_isRefused_121 : decode cX9_isRefused 121 = .ok (.if_icmp .ne 5, 3) := by decide +kernel
theorem dX9_isRefused_124 : decode cX9_isRefused 124 = .ok (.iconst 1, 1) := by decide +kernel
theorem dX9_isRefused_125 : decode cX9_isRefused 125 = .ok (.ireturn, 1) := by decide +kernel
theorem dX9_isRefused_126 : decode cX9_isRefused 126 = .ok (.iload_n 3, 1) := by decide +kernel
theorem dX9_isRefused_127 : decode cX9_isRefused 127 = .ok (.ifCond .ne 9, 3) := by decide +kernel
theorem dX9_isRefused_130 : decode cX9_isRefused 130 = .ok (.iload 5, 2) := by decide +kernel
theorem dX9_isRefused_132 : decode cX9_isRefused 132 = .ok (.iconst 1, 1) := by decide +kernel
theorem dX9_isRefused_133 : decode cX9_isRefused 133 = .ok (.if_icmp .ne 7, 3) := by decide +kernel
theorem dX9_isRefused_136 : decode cX9_isRefused 136 = .ok (.iconst 1, 1) := by decide +kernel
theorem dX9_isRefused_137 : decode cX9_isRefused 137 = .ok (.goto 4, 3) := by decide +kernel
theorem dX9_isRefused_140 : decode cX9_isRefused 140 = .ok (.iconst 0, 1) := by decide +kernel
theorem dX9_isRefused_141 : decode cX9_isRefused 141 = .ok (.istore_n 3, 1) := by decide +kernel
theorem dX9_isRefused_142 : decode cX9_isRefused 142 = .ok (.iinc 4 1, 3) := by decide +kernel
theorem dX9_isRefused_145 : decode cX9_isRefused 145 = .ok (.goto (-69), 3) := by decide +kernel
theorem dX9_isRefused_148 : decode cX9_isRefused 148 = .ok (.iconst 0, 1) := by decide +kernel
theorem dX9_isRefused_149 : decode cX9_isRefused 149 = .ok (.istore 4, 2) := by decide +kernel
theorem dX9_isRefused_151 : decode cX9_isRefused 151 = .ok (.iload 4, 2) := by decide +kernel
theorem dX9_isRefused_153 : decode cX9_isRefused 153 = .ok (.iload_n 2, 1) := by decide +kernel
theorem dX9_isRefused_154 : decode cX9_isRefused 154 = .ok (.if_icmp .ge 41, 3) := by decide +kernel
theorem dX9_isRefused_157 : decode cX9_isRefused 157 = .ok (.aload_n 0, 1) := by decide +kernel
theorem dX9_isRefused_158 : decode cX9_isRefused 158 = .ok (.iload 4, 2) := by decide +kernel
theorem dX9_isRefused_160 : decode cX9_isRefused 160 = .ok (.invokevirtual 207, 3) := by decide +kernel
theorem dX9_isRefused_163 : decode cX9_isRefused 163 = .ok (.istore 5, 2) := by decide +kernel
theorem dX9_isRefused_165 : decode cX9_isRefused 165 = .ok (.iload 5, 2) := by decide +kernel
theorem dX9_isRefused_167 : decode cX9_isRefused 167 = .ok (.iconst 2, 1) := by decide +kernel
theorem dX9_isRefused_168 : decode cX9_isRefused 168 = .ok (.if_icmp .ne 5, 3) := by decide +kernel
theorem dX9_isRefused_171 : decode cX9_isRefused 171 = .ok (.iconst 1, 1) := by decide +kernel
theorem dX9_isRefused_172 : decode cX9_isRefused 172 = .ok (.ireturn, 1) := by decide +kernel
theorem dX9_isRefused_173 : decode cX9_isRefused 173 = .ok (.iload_n 3, 1) := by decide +kernel
theorem dX9_isRefused_174 : decode cX9_isRefused 174 = .ok (.ifCond .ne 9, 3) := by decide +kernel
theorem dX9_isRefused_177 : decode cX9_isRefused 177 = .ok (.iload 5, 2) := by decide +kernel
theorem dX9_isRefused_179 : decode cX9_isRefused 179 = .ok (.iconst 1, 1) := by decide +kernel
theorem dX9_isRefused_180 : decode cX9_isRefused 180 = .ok (.if_icmp .ne 7, 3) := by decide +kernel
theorem dX9_isRefused_183 : decode cX9_isRefused 183 = .ok (.iconst 1, 1) := by decide +kernel
theorem dX9_isRefused_184 : decode cX9_isRefused 184 = .ok (.goto 4, 3) := by decide +kernel
theorem dX9_isRefused_187 : decode cX9_isRefused 187 = .ok (.iconst 0, 1) := by decide +kernel
theorem dX9_isRefused_188 : decode cX9_isRefused 188 = .ok (.istore_n 3, 1) := by decide +kernel
theorem dX9_isRefused_189 : decode cX9_isRefused 189 = .ok (.iinc 4 1, 3) := by decide +kernel
theorem dX9_isRefused_192 : decode cX9_isRefused 192 = .ok (.goto (-41), 3) := by decide +kernel
theorem dX9_isRefused_195 : decode cX9_isRefused 195 = .ok (.goto (-193), 3) := by decide +kernel
theorem dX9_isRefused_198 : decode cX9_isRefused 198 = .ok (.iconst 0, 1) := by decide +kernel
theorem dX9_isRefused_199 : decode cX9_isRefused 199 = .ok (.ireturn, 1) := by decide +kernel
theorem dX9_proof_0 : decode cX9_proof 0 = .ok (.aload_n 0, 1) := by decide +kernel
theorem dX9_proof_1 : decode cX9_proof 1 = .ok (.iconst 0, 1) := by decide +kernel
theorem dX9_proof_2 : decode cX9_proof 2 = .ok (.putfield 63, 3) := by decide +kernel
theorem dX9_proof_5 : decode cX9_proof 5 = .ok (.iconst 0, 1) := by decide +kernel
theorem dX9_proof_6 : decode cX9_proof 6 = .ok (.istore_n 1, 1) := by decide +kernel
theorem dX9_proof_7 : decode cX9_proof 7 = .ok (.iload_n 1, 1) := by decide +kernel
theorem dX9_proof_8 : decode cX9_proof 8 = .ok (.aload_n 0, 1) := by decide +kernel
theorem dX9_proof_9 : decode cX9_proof 9 = .ok (.getfield 7, 3) := by decide +kernel
theorem dX9_proof_12 : decode cX9_proof 12 = .ok (.bipush 6, 2) := by decide +kernel
theorem dX9_proof_14 : decode cX9_proof 14 = .ok (.iaload, 1) := by decide +kernel
theorem dX9_proof_15 : decode cX9_proof 15 = .ok (.if_icmp .ge 62, 3) := by decide +kernel
theorem dX9_proof_18 : decode cX9_proof 18 = .ok (.aload_n 0, 1) := by decide +kernel
theorem dX9_proof_19 : decode cX9_proof 19 = .ok (.invokevirtual 183, 3) := by decide +kernel
theorem dX9_proof_22 : decode cX9_proof 22 = .ok (.iconst 0, 1) := by decide +kernel
theorem dX9_proof_23 : decode cX9_proof 23 = .ok (.istore_n 2, 1) := by decide +kernel
theorem dX9_proof_24 : decode cX9_proof 24 = .ok (.iload_n 2, 1) := by decide +kernel
theorem dX9_proof_25 : decode cX9_proof 25 = .ok (.aload_n 0, 1) := by decide +kernel
theorem dX9_proof_26 : decode cX9_proof 26 = .ok (.iload_n 1, 1) := by decide +kernel
theorem dX9_proof_27 : decode cX9_proof 27 = .ok (.invokevirtual 201, 3) := by decide +kernel
theorem dX9_proof_30 : decode cX9_proof 30 = .ok (.if_icmp .ge 30, 3) := by decide +kernel
theorem dX9_proof_33 : decode cX9_proof 33 = .ok (.aload_n 0, 1) := by decide +kernel
theorem dX9_proof_34 : decode cX9_proof 34 = .ok (.aload_n 0, 1) := by decide +kernel
theorem dX9_proof_35 : decode cX9_proof 35 = .ok (.aload_n 0, 1) := by decide +kernel
theorem dX9_proof_36 : decode cX9_proof 36 = .ok (.getfield 7, 3) := by decide +kernel
theorem dX9_proof_39 : decode cX9_proof 39 = .ok (.sipush 925, 3) := by decide +kernel
theorem dX9_proof_42 : decode cX9_proof 42 = .ok (.iload_n 1, 1) := by decide +kernel
theorem dX9_proof_43 : decode cX9_proof 43 = .ok (.iadd, 1) := by decide +kernel
theorem dX9_proof_44 : decode cX9_proof 44 = .ok (.iaload, 1) := by decide +kernel
theorem dX9_proof_45 : decode cX9_proof 45 = .ok (.iload_n 2, 1) := by decide +kernel
theorem dX9_proof_46 : decode cX9_proof 46 = .ok (.invokevirtual 108, 3) := by decide +kernel
theorem dX9_proof_49 : decode cX9_proof 49 = .ok (.ineg, 1) := by decide +kernel
theorem dX9_proof_50 : decode cX9_proof 50 = .ok (.iconst (-1), 1) := by decide +kernel
theorem dX9_proof_51 : decode cX9_proof 51 = .ok (.invokevirtual 135, 3) := by decide +kernel
theorem dX9_proof_54 : decode cX9_proof 54 = .ok (.iinc 2 1, 3) := by decide +kernel
theorem dX9_proof_57 : decode cX9_proof 57 = .ok (.goto (-33), 3) := by decide +kernel
theorem dX9_proof_60 : decode cX9_proof 60 = .ok (.aload_n 0, 1) := by decide +kernel
theorem dX9_proof_61 : decode cX9_proof 61 = .ok (.iload_n 1, 1) := by decide +kernel
theorem dX9_proof_62 : decode cX9_proof 62 = .ok (.iconst 0, 1) := by decide +kernel
theorem dX9_proof_63 : decode cX9_proof 63 = .ok (.invokevirtual 210, 3) := by decide +kernel
theorem dX9_proof_66 : decode cX9_proof 66 = .ok (.ifCond .ne 5, 3) := by decide +kernel
theorem dX9_proof_69 : decode cX9_proof 69 = .ok (.iload_n 1, 1) := by decide +kernel
theorem dX9_proof_70 : decode cX9_proof 70 = .ok (.ireturn, 1) := by decide +kernel
theorem dX9_proof_71 : decode cX9_proof 71 = .ok (.iinc 1 1, 3) := by decide +kernel
theorem dX9_proof_74 : decode cX9_proof 74 = .ok (.goto (-67), 3) := by decide +kernel
theorem dX9_proof_77 : decode cX9_proof 77 = .ok (.iconst (-1), 1) := by decide +kernel
theorem dX9_proof_78 : decode cX9_proof 78 = .ok (.ireturn, 1) := by decide +kernel
theorem dX9_refute_0 : decode cX9_refute 0 = .ok (.aload_n 0, 1) := by decide +kernel
theorem dX9_refute_1 : decode cX9_refute 1 = .ok (.iconst 0, 1) := by decide +kernel
theorem dX9_refute_2 : decode cX9_refute 2 = .ok (.putfield 63, 3) := by decide +kernel
theorem dX9_refute_5 : decode cX9_refute 5 = .ok (.aload_n 0, 1) := by decide +kernel
theorem dX9_refute_6 : decode cX9_refute 6 = .ok (.invokevirtual 214, 3) := by decide +kernel
theorem dX9_refute_9 : decode cX9_refute 9 = .ok (.aload_n 0, 1) := by decide +kernel
theorem dX9_refute_10 : decode cX9_refute 10 = .ok (.iconst 0, 1) := by decide +kernel
theorem dX9_refute_11 : decode cX9_refute 11 = .ok (.putfield 217, 3) := by decide +kernel
theorem dX9_refute_14 : decode cX9_refute 14 = .ok (.aload_n 0, 1) := by decide +kernel
theorem dX9_refute_15 : decode cX9_refute 15 = .ok (.getfield 50, 3) := by decide +kernel
theorem dX9_refute_18 : decode cX9_refute 18 = .ok (.iconst 0, 1) := by decide +kernel
theorem dX9_refute_19 : decode cX9_refute 19 = .ok (.iconst 0, 1) := by decide +kernel
theorem dX9_refute_20 : decode cX9_refute 20 = .ok (.iastore, 1) := by decide +kernel
theorem dX9_refute_21 : decode cX9_refute 21 = .ok (.aload_n 0, 1) := by decide +kernel
theorem dX9_refute_22 : decode cX9_refute 22 = .ok (.getfield 220, 3) := by decide +kernel
theorem dX9_refute_25 : decode cX9_refute 25 = .ok (.ifCond .ne 94, 3) := by decide +kernel
theorem dX9_refute_28 : decode cX9_refute 28 = .ok (.aload_n 0, 1) := by decide +kernel
theorem dX9_refute_29 : decode cX9_refute 29 = .ok (.invokevirtual 223, 3) := by decide +kernel
theorem dX9_refute_32 : decode cX9_refute 32 = .ok (.iconst (-1), 1) := by decide +kernel
theorem dX9_refute_33 : decode cX9_refute 33 = .ok (.if_icmp .eq 86, 3) := by decide +kernel
theorem dX9_refute_36 : decode cX9_refute 36 = .ok (.aload_n 0, 1) := by decide +kernel
theorem dX9_refute_37 : decode cX9_refute 37 = .ok (.getfield 50, 3) := by decide +kernel
theorem dX9_refute_40 : decode cX9_refute 40 = .ok (.aload_n 0, 1) := by decide +kernel
theorem dX9_refute_41 : decode cX9_refute 41 = .ok (.getfield 217, 3) := by decide +kernel
theorem dX9_refute_44 : decode cX9_refute 44 = .ok (.iaload, 1) := by decide +kernel
theorem dX9_refute_45 : decode cX9_refute 45 = .ok (.istore_n 1, 1) := by decide +kernel
theorem dX9_refute_46 : decode cX9_refute 46 = .ok (.aload_n 0, 1) := by decide +kernel
theorem dX9_refute_47 : decode cX9_refute 47 = .ok (.invokevirtual 226, 3) := by decide +kernel
theorem dX9_refute_50 : decode cX9_refute 50 = .ok (.aload_n 0, 1) := by decide +kernel
theorem dX9_refute_51 : decode cX9_refute 51 = .ok (.getfield 220, 3) := by decide +kernel
theorem dX9_refute_54 : decode cX9_refute 54 = .ok (.ifCond .ne 32, 3) := by decide +kernel
theorem dX9_refute_57 : decode cX9_refute 57 = .ok (.aload_n 0, 1) := by decide +kernel
theorem dX9_refute_58 : decode cX9_refute 58 = .ok (.invokevirtual 223, 3) := by decide +kernel
theorem dX9_refute_61 : decode cX9_refute 61 = .ok (.bipush 59, 2) := by decide +kernel
theorem dX9_refute_63 : decode cX9_refute 63 = .ok (.if_icmp .eq 23, 3) := by decide +kernel
theorem dX9_refute_66 : decode cX9_refute 66 = .ok (.aload_n 0, 1) := by decide +kernel
theorem dX9_refute_67 : decode cX9_refute 67 = .ok (.iconst 1, 1) := by decide +kernel
theorem dX9_refute_68 : decode cX9_refute 68 = .ok (.iconst 0, 1) := by decide +kernel
theorem dX9_refute_69 : decode cX9_refute 69 = .ok (.invokevirtual 229, 3) := by decide +kernel
theorem dX9_refute_72 : decode cX9_refute 72 = .ok (.istore_n 2, 1) := by decide +kernel
theorem dX9_refute_73 : decode cX9_refute 73 = .ok (.aload_n 0, 1) := by decide +kernel
theorem dX9_refute_74 : decode cX9_refute 74 = .ok (.getfield 47, 3) := by decide +kernel
theorem dX9_refute_77 : decode cX9_refute 77 = .ok (.iload_n 1, 1) := by decide +kernel
theorem dX9_refute_78 : decode cX9_refute 78 = .ok (.iload_n 2, 1) := by decide +kernel
theorem dX9_refute_79 : decode cX9_refute 79 = .ok (.iastore, 1) := by decide +kernel
theorem dX9_refute_80 : decode cX9_refute 80 = .ok (.iinc 1 1, 3) := by decide +kernel
theorem dX9_refute_83 : decode cX9_refute 83 = .ok (.goto (-33), 3) := by decide +kernel
theorem dX9_refute_86 : decode cX9_refute 86 = .ok (.aload_n 0, 1) := by decide +kernel
theorem dX9_refute_87 : decode cX9_refute 87 = .ok (.dup, 1) := by decide +kernel
theorem dX9_refute_88 : decode cX9_refute 88 = .ok (.getfield 233, 3) := by decide +kernel
theorem dX9_refute_91 : decode cX9_refute 91 = .ok (.iconst 1, 1) := by decide +kernel
theorem dX9_refute_92 : decode cX9_refute 92 = .ok (.iadd, 1) := by decide +kernel
theorem dX9_refute_93 : decode cX9_refute 93 = .ok (.putfield 233, 3) := by decide +kernel
theorem dX9_refute_96 : decode cX9_refute 96 = .ok (.aload_n 0, 1) := by decide +kernel
theorem dX9_refute_97 : decode cX9_refute 97 = .ok (.dup, 1) := by decide +kernel
theorem dX9_refute_98 : decode cX9_refute 98 = .ok (.getfield 217, 3) := by decide +kernel
theorem dX9_refute_101 : decode cX9_refute 101 = .ok (.iconst 1, 1) := by decide +kernel
theorem dX9_refute_102 : decode cX9_refute 102 = .ok (.iadd, 1) := by decide +kernel
theorem dX9_refute_103 : decode cX9_refute 103 = .ok (.putfield 217, 3) := by decide +kernel
theorem dX9_refute_106 : decode cX9_refute 106 = .ok (.aload_n 0, 1) := by decide +kernel
theorem dX9_refute_107 : decode cX9_refute 107 = .ok (.getfield 50, 3) := by decide +kernel
theorem dX9_refute_110 : decode cX9_refute 110 = .ok (.aload_n 0, 1) := by decide +kernel
theorem dX9_refute_111 : decode cX9_refute 111 = .ok (.getfield 217, 3) := by decide +kernel
theorem dX9_refute_114 : decode cX9_refute 114 = .ok (.iload_n 1, 1) := by decide +kernel
theorem dX9_refute_115 : decode cX9_refute 115 = .ok (.iastore, 1) := by decide +kernel
theorem dX9_refute_116 : decode cX9_refute 116 = .ok (.goto (-95), 3) := by decide +kernel
theorem dX9_refute_119 : decode cX9_refute 119 = .ok (.aload_n 0, 1) := by decide +kernel
theorem dX9_refute_120 : decode cX9_refute 120 = .ok (.getfield 220, 3) := by decide +kernel
theorem dX9_refute_123 : decode cX9_refute 123 = .ok (.ifCond .eq 5, 3) := by decide +kernel
theorem dX9_refute_126 : decode cX9_refute 126 = .ok (.iconst (-1), 1) := by decide +kernel
theorem dX9_refute_127 : decode cX9_refute 127 = .ok (.ireturn, 1) := by decide +kernel
theorem dX9_refute_128 : decode cX9_refute 128 = .ok (.aload_n 0, 1) := by decide +kernel
theorem dX9_refute_129 : decode cX9_refute 129 = .ok (.getfield 7, 3) := by decide +kernel
theorem dX9_refute_132 : decode cX9_refute 132 = .ok (.bipush 15, 2) := by decide +kernel
theorem dX9_refute_134 : decode cX9_refute 134 = .ok (.iconst 0, 1) := by decide +kernel
theorem dX9_refute_135 : decode cX9_refute 135 = .ok (.iastore, 1) := by decide +kernel
theorem dX9_refute_136 : decode cX9_refute 136 = .ok (.iconst 0, 1) := by decide +kernel
theorem dX9_refute_137 : decode cX9_refute 137 = .ok (.istore_n 1, 1) := by decide +kernel
theorem dX9_refute_138 : decode cX9_refute 138 = .ok (.iload_n 1, 1) := by decide +kernel
theorem dX9_refute_139 : decode cX9_refute 139 = .ok (.aload_n 0, 1) := by decide +kernel
theorem dX9_refute_140 : decode cX9_refute 140 = .ok (.getfield 217, 3) := by decide +kernel
theorem dX9_refute_143 : decode cX9_refute 143 = .ok (.if_icmp .ge 96, 3) := by decide +kernel
theorem dX9_refute_146 : decode cX9_refute 146 = .ok (.aload_n 0, 1) := by decide +kernel
theorem dX9_refute_147 : decode cX9_refute 147 = .ok (.invokevirtual 183, 3) := by decide +kernel
theorem dX9_refute_150 : decode cX9_refute 150 = .ok (.aload_n 0, 1) := by decide +kernel
theorem dX9_refute_151 : decode cX9_refute 151 = .ok (.getfield 50, 3) := by decide +kernel
theorem dX9_refute_154 : decode cX9_refute 154 = .ok (.iload_n 1, 1) := by decide +kernel
theorem dX9_refute_155 : decode cX9_refute 155 = .ok (.iaload, 1) := by decide +kernel
theorem dX9_refute_156 : decode cX9_refute 156 = .ok (.istore_n 2, 1) := by decide +kernel
theorem dX9_refute_157 : decode cX9_refute 157 = .ok (.iload_n 2, 1) := by decide +kernel
theorem dX9_refute_158 : decode cX9_refute 158 = .ok (.aload_n 0, 1) := by decide +kernel
theorem dX9_refute_159 : decode cX9_refute 159 = .ok (.getfield 50, 3) := by decide +kernel
theorem dX9_refute_162 : decode cX9_refute 162 = .ok (.iload_n 1, 1) := by decide +kernel
theorem dX9_refute_163 : decode cX9_refute 163 = .ok (.iconst 1, 1) := by decide +kernel
theorem dX9_refute_164 : decode cX9_refute 164 = .ok (.iadd, 1) := by decide +kernel
theorem dX9_refute_165 : decode cX9_refute 165 = .ok (.iaload, 1) := by decide +kernel
theorem dX9_refute_166 : decode cX9_refute 166 = .ok (.if_icmp .ge 21, 3) := by decide +kernel
theorem dX9_refute_169 : decode cX9_refute 169 = .ok (.aload_n 0, 1) := by decide +kernel
theorem dX9_refute_170 : decode cX9_refute 170 = .ok (.aload_n 0, 1) := by decide +kernel
theorem dX9_refute_171 : decode cX9_refute 171 = .ok (.getfield 47, 3) := by decide +kernel
theorem dX9_refute_174 : decode cX9_refute 174 = .ok (.iload_n 2, 1) := by decide +kernel
theorem dX9_refute_175 : decode cX9_refute 175 = .ok (.iaload, 1) := by decide +kernel
theorem dX9_refute_176 : decode cX9_refute 176 = .ok (.ineg, 1) := by decide +kernel
theorem dX9_refute_177 : decode cX9_refute 177 = .ok (.iconst (-1), 1) := by decide +kernel
theorem dX9_refute_178 : decode cX9_refute 178 = .ok (.invokevirtual 135, 3) := by decide +kernel
theorem dX9_refute_181 : decode cX9_refute 181 = .ok (.iinc 2 1, 3) := by decide +kernel
theorem dX9_refute_184 : decode cX9_refute 184 = .ok (.goto (-27), 3) := by decide +kernel
theorem dX9_refute_187 : decode cX9_refute 187 = .ok (.aload_n 0, 1) := by decide +kernel
theorem dX9_refute_188 : decode cX9_refute 188 = .ok (.iconst 0, 1) := by decide +kernel
theorem dX9_refute_189 : decode cX9_refute 189 = .ok (.iload_n 1, 1) := by decide +kernel
theorem dX9_refute_190 : decode cX9_refute 190 = .ok (.invokevirtual 210, 3) := by decide +kernel
theorem dX9_refute_193 : decode cX9_refute 193 = .ok (.ifCond .ne 5, 3) := by decide +kernel
theorem dX9_refute_196 : decode cX9_refute 196 = .ok (.iload_n 1, 1) := by decide +kernel
theorem dX9_refute_197 : decode cX9_refute 197 = .ok (.ireturn, 1) := by decide +kernel
theorem dX9_refute_198 : decode cX9_refute 198 = .ok (.aload_n 0, 1) := by decide +kernel
theorem dX9_refute_199 : decode cX9_refute 199 = .ok (.getfield 7, 3) := by decide +kernel
theorem dX9_refute_202 : decode cX9_refute 202 = .ok (.bipush 15, 2) := by decide +kernel
theorem dX9_refute_204 : decode cX9_refute 204 = .ok (.aload_n 0, 1) := by decide +kernel
theorem dX9_refute_205 : decode cX9_refute 205 = .ok (.getfield 50, 3) := by decide +kernel
theorem dX9_refute_208 : decode cX9_refute 208 = .ok (.iload_n 1, 1) := by decide +kernel
theorem dX9_refute_209 : decode cX9_refute 209 = .ok (.iconst 1, 1) := by decide +kernel
theorem dX9_refute_210 : decode cX9_refute 210 = .ok (.iadd, 1) := by decide +kernel
theorem dX9_refute_211 : decode cX9_refute 211 = .ok (.iaload, 1) := by decide +kernel
theorem dX9_refute_212 : decode cX9_refute 212 = .ok (.aload_n 0, 1) := by decide +kernel
theorem dX9_refute_213 : decode cX9_refute 213 = .ok (.getfield 50, 3) := by decide +kernel
theorem dX9_refute_216 : decode cX9_refute 216 = .ok (.iload_n 1, 1) := by decide +kernel
theorem dX9_refute_217 : decode cX9_refute 217 = .ok (.iaload, 1) := by decide +kernel
theorem dX9_refute_218 : decode cX9_refute 218 = .ok (.if_icmp .ne 7, 3) := by decide +kernel
theorem dX9_refute_221 : decode cX9_refute 221 = .ok (.iconst 1, 1) := by decide +kernel
theorem dX9_refute_222 : decode cX9_refute 222 = .ok (.goto 10, 3) := by decide +kernel
theorem dX9_refute_225 : decode cX9_refute 225 = .ok (.aload_n 0, 1) := by decide +kernel
theorem dX9_refute_226 : decode cX9_refute 226 = .ok (.getfield 7, 3) := by decide +kernel
theorem dX9_refute_229 : decode cX9_refute 229 = .ok (.bipush 15, 2) := by decide +kernel
theorem dX9_refute_231 : decode cX9_refute 231 = .ok (.iaload, 1) := by decide +kernel
theorem dX9_refute_232 : decode cX9_refute 232 = .ok (.iastore, 1) := by decide +kernel
theorem dX9_refute_233 : decode cX9_refute 233 = .ok (.iinc 1 1, 3) := by decide +kernel
theorem dX9_refute_236 : decode cX9_refute 236 = .ok (.goto (-98), 3) := by decide +kernel
theorem dX9_refute_239 : decode cX9_refute 239 = .ok (.aload_n 0, 1) := by decide +kernel
theorem dX9_refute_240 : decode cX9_refute 240 = .ok (.getfield 217, 3) := by decide +kernel
theorem dX9_refute_243 : decode cX9_refute 243 = .ok (.ireturn, 1) := by decide +kernel
theorem dX9_closed_0 : decode cX9_closed 0 = .ok (.aload_n 0, 1) := by decide +kernel
theorem dX9_closed_1 : decode cX9_closed 1 = .ok (.iconst 0, 1) := by decide +kernel
theorem dX9_closed_2 : decode cX9_closed 2 = .ok (.putfield 63, 3) := by decide +kernel
theorem dX9_closed_5 : decode cX9_closed 5 = .ok (.aload_n 0, 1) := by decide +kernel
theorem dX9_closed_6 : decode cX9_closed 6 = .ok (.getfield 7, 3) := by decide +kernel
theorem dX9_closed_9 : decode cX9_closed 9 = .ok (.bipush 15, 2) := by decide +kernel
theorem dX9_closed_11 : decode cX9_closed 11 = .ok (.iaload, 1) := by decide +kernel
theorem dX9_closed_12 : decode cX9_closed 12 = .ok (.ireturn, 1) := by decide +kernel
theorem dX9_isModel_0 : decode cX9_isModel 0 = .ok (.iconst 0, 1) := by decide +kernel
theorem dX9_isModel_1 : decode cX9_isModel 1 = .ok (.istore_n 2, 1) := by decide +kernel
theorem dX9_isModel_2 : decode cX9_isModel 2 = .ok (.iload_n 2, 1) := by decide +kernel
theorem dX9_isModel_3 : decode cX9_isModel 3 = .ok (.aload_n 0, 1) := by decide +kernel
theorem dX9_isModel_4 : decode cX9_isModel 4 = .ok (.getfield 7, 3) := by decide +kernel
theorem dX9_isModel_7 : decode cX9_isModel 7 = .ok (.iconst 1, 1) := by decide +kernel
theorem dX9_isModel_8 : decode cX9_isModel 8 = .ok (.iaload, 1) := by decide +kernel
theorem dX9_isModel_9 : decode cX9_isModel 9 = .ok (.if_icmp .ge 93, 3) := by decide +kernel
theorem dX9_isModel_12 : decode cX9_isModel 12 = .ok (.aload_n 0, 1) := by decide +kernel
theorem dX9_isModel_13 : decode cX9_isModel 13 = .ok (.iload_n 2, 1) := by decide +kernel
theorem dX9_isModel_14 : decode cX9_isModel 14 = .ok (.invokevirtual 93, 3) := by decide +kernel
theorem dX9_isModel_17 : decode cX9_isModel 17 = .ok (.istore_n 3, 1) := by decide +kernel
theorem dX9_isModel_18 : decode cX9_isModel 18 = .ok (.iconst 0, 1) := by decide +kernel
theorem dX9_isModel_19 : decode cX9_isModel 19 = .ok (.istore 4, 2) := by decide +kernel
theorem dX9_isModel_21 : decode cX9_isModel 21 = .ok (.iload 4, 2) := by decide +kernel
theorem dX9_isModel_23 : decode cX9_isModel 23 = .ok (.aload_n 0, 1) := by decide +kernel
theorem dX9_isModel_24 : decode cX9_isModel 24 = .ok (.iload_n 2, 1) := by decide +kernel
theorem dX9_isModel_25 : decode cX9_isModel 25 = .ok (.invokevirtual 99, 3) := by decide +kernel
theorem dX9_isModel_28 : decode cX9_isModel 28 = .ok (.if_icmp .ge 62, 3) := by decide +kernel
theorem dX9_isModel_31 : decode cX9_isModel 31 = .ok (.iload_n 3, 1) := by decide +kernel
theorem dX9_isModel_32 : decode cX9_isModel 32 = .ok (.ifCond .ne 58, 3) := by decide +kernel
theorem dX9_isModel_35 : decode cX9_isModel 35 = .ok (.iload_n 1, 1) := by decide +kernel
theorem dX9_isModel_36 : decode cX9_isModel 36 = .ok (.aload_n 0, 1) := by decide +kernel
theorem dX9_isModel_37 : decode cX9_isModel 37 = .ok (.iload_n 2, 1) := by decide +kernel
theorem dX9_isModel_38 : decode cX9_isModel 38 = .ok (.iload 4, 2) := by decide +kernel
theorem dX9_isModel_40 : decode cX9_isModel 40 = .ok (.invokevirtual 108, 3) := by decide +kernel
theorem dX9_isModel_43 : decode cX9_isModel 43 = .ok (.invokestatic 71, 3) := by decide +kernel
theorem dX9_isModel_46 : decode cX9_isModel 46 = .ok (.iconst 1, 1) := by decide +kernel
theorem dX9_isModel_47 : decode cX9_isModel 47 = .ok (.isub, 1) := by decide +kernel
theorem dX9_isModel_48 : decode cX9_isModel 48 = .ok (.ishr, 1) := by decide +kernel
theorem dX9_isModel_49 : decode cX9_isModel 49 = .ok (.iconst 1, 1) := by decide +kernel
theorem dX9_isModel_50 : decode cX9_isModel 50 = .ok (.iand, 1) := by decide +kernel
theorem dX9_isModel_51 : decode cX9_isModel 51 = .ok (.iconst 1, 1) := by decide +kernel
theorem dX9_isModel_52 : decode cX9_isModel 52 = .ok (.if_icmp .ne 7, 3) := by decide +kernel
theorem dX9_isModel_55 : decode cX9_isModel 55 = .ok (.iconst 1, 1) := by decide +kernel
theorem dX9_isModel_56 : decode cX9_isModel 56 = .ok (.goto 4, 3) := by decide +kernel
theorem dX9_isModel_59 : decode cX9_isModel 59 = .ok (.iconst 0, 1) := by decide +kernel
theorem dX9_isModel_60 : decode cX9_isModel 60 = .ok (.aload_n 0, 1) := by decide +kernel
theorem dX9_isModel_61 : decode cX9_isModel 61 = .ok (.iload_n 2, 1) := by decide +kernel
theorem dX9_isModel_62 : decode cX9_isModel 62 = .ok (.iload 4, 2) := by decide +kernel
theorem dX9_isModel_64 : decode cX9_isModel 64 = .ok (.invokevirtual 108, 3) := by decide +kernel
theorem dX9_isModel_67 : decode cX9_isModel 67 = .ok (.ifCond .le 7, 3) := by decide +kernel
theorem dX9_isModel_70 : decode cX9_isModel 70 = .ok (.iconst 1, 1) := by decide +kernel
theorem dX9_isModel_71 : decode cX9_isModel 71 = .ok (.goto 4, 3) := by decide +kernel
theorem dX9_isModel_74 : decode cX9_isModel 74 = .ok (.iconst 0, 1) := by decide +kernel
theorem dX9_isModel_75 : decode cX9_isModel 75 = .ok (.if_icmp .ne 7, 3) := by decide +kernel
theorem dX9_isModel_78 : decode cX9_isModel 78 = .ok (.iconst 1, 1) := by decide +kernel
theorem dX9_isModel_79 : decode cX9_isModel 79 = .ok (.goto 4, 3) := by decide +kernel
theorem dX9_isModel_82 : decode cX9_isModel 82 = .ok (.iconst 0, 1) := by decide +kernel
theorem dX9_isModel_83 : decode cX9_isModel 83 = .ok (.istore_n 3, 1) := by decide +kernel
theorem dX9_isModel_84 : decode cX9_isModel 84 = .ok (.iinc 4 1, 3) := by decide +kernel
theorem dX9_isModel_87 : decode cX9_isModel 87 = .ok (.goto (-66), 3) := by decide +kernel
theorem dX9_isModel_90 : decode cX9_isModel 90 = .ok (.iload_n 3, 1) := by decide +kernel
theorem dX9_isModel_91 : decode cX9_isModel 91 = .ok (.ifCond .ne 5, 3) := by decide +kernel
theorem dX9_isModel_94 : decode cX9_isModel 94 = .ok (.iconst 0, 1) := by decide +kernel
theorem dX9_isModel_95 : decode cX9_isModel 95 = .ok (.ireturn, 1) := by decide +kernel
theorem dX9_isModel_96 : decode cX9_isModel 96 = .ok (.iinc 2 1, 3) := by decide +kernel
theorem dX9_isModel_99 : decode cX9_isModel 99 = .ok (.goto (-97), 3) := by decide +kernel
theorem dX9_isModel_102 : decode cX9_isModel 102 = .ok (.iconst 1, 1) := by decide +kernel
theorem dX9_isModel_103 : decode cX9_isModel 103 = .ok (.ireturn, 1) := by decide +kernel
theorem dX9_models_0 : decode cX9_models 0 = .ok (.aload_n 0, 1) := by decide +kernel
theorem dX9_models_1 : decode cX9_models 1 = .ok (.iconst 0, 1) := by decide +kernel
theorem dX9_models_2 : decode cX9_models 2 = .ok (.putfield 63, 3) := by decide +kernel
theorem dX9_models_5 : decode cX9_models 5 = .ok (.aload_n 0, 1) := by decide +kernel
theorem dX9_models_6 : decode cX9_models 6 = .ok (.getfield 7, 3) := by decide +kernel
theorem dX9_models_9 : decode cX9_models 9 = .ok (.iconst 0, 1) := by decide +kernel
theorem dX9_models_10 : decode cX9_models 10 = .ok (.iaload, 1) := by decide +kernel
theorem dX9_models_11 : decode cX9_models 11 = .ok (.bipush 12, 2) := by decide +kernel
theorem dX9_models_13 : decode cX9_models 13 = .ok (.if_icmp .le 5, 3) := by decide +kernel
theorem dX9_models_16 : decode cX9_models 16 = .ok (.iconst (-1), 1) := by decide +kernel
theorem dX9_models_17 : decode cX9_models 17 = .ok (.ireturn, 1) := by decide +kernel
theorem dX9_models_18 : decode cX9_models 18 = .ok (.iconst 0, 1) := by decide +kernel
theorem dX9_models_19 : decode cX9_models 19 = .ok (.istore_n 1, 1) := by decide +kernel
theorem dX9_models_20 : decode cX9_models 20 = .ok (.iconst 0, 1) := by decide +kernel
theorem dX9_models_21 : decode cX9_models 21 = .ok (.istore_n 2, 1) := by decide +kernel
theorem dX9_models_22 : decode cX9_models 22 = .ok (.iload_n 2, 1) := by decide +kernel
theorem dX9_models_23 : decode cX9_models 23 = .ok (.iconst 1, 1) := by decide +kernel
theorem dX9_models_24 : decode cX9_models 24 = .ok (.aload_n 0, 1) := by decide +kernel
theorem dX9_models_25 : decode cX9_models 25 = .ok (.getfield 7, 3) := by decide +kernel
theorem dX9_models_28 : decode cX9_models 28 = .ok (.iconst 0, 1) := by decide +kernel
theorem dX9_models_29 : decode cX9_models 29 = .ok (.iaload, 1) := by decide +kernel
theorem dX9_models_30 : decode cX9_models 30 = .ok (.ishl, 1) := by decide +kernel
theorem dX9_models_31 : decode cX9_models 31 = .ok (.if_icmp .ge 25, 3) := by decide +kernel
theorem dX9_models_34 : decode cX9_models 34 = .ok (.iload_n 1, 1) := by decide +kernel
theorem dX9_models_35 : decode cX9_models 35 = .ok (.aload_n 0, 1) := by decide +kernel
theorem dX9_models_36 : decode cX9_models 36 = .ok (.iload_n 2, 1) := by decide +kernel
theorem dX9_models_37 : decode cX9_models 37 = .ok (.invokevirtual 236, 3) := by decide +kernel
theorem dX9_models_40 : decode cX9_models 40 = .ok (.ifCond .eq 7, 3) := by decide +kernel
theorem dX9_models_43 : decode cX9_models 43 = .ok (.iconst 1, 1) := by decide +kernel
theorem dX9_models_44 : decode cX9_models 44 = .ok (.goto 4, 3) := by decide +kernel
theorem dX9_models_47 : decode cX9_models 47 = .ok (.iconst 0, 1) := by decide +kernel
theorem dX9_models_48 : decode cX9_models 48 = .ok (.iadd, 1) := by decide +kernel
theorem dX9_models_49 : decode cX9_models 49 = .ok (.istore_n 1, 1) := by decide +kernel
theorem dX9_models_50 : decode cX9_models 50 = .ok (.iinc 2 1, 3) := by decide +kernel
theorem dX9_models_53 : decode cX9_models 53 = .ok (.goto (-31), 3) := by decide +kernel
theorem dX9_models_56 : decode cX9_models 56 = .ok (.iload_n 1, 1) := by decide +kernel
theorem dX9_models_57 : decode cX9_models 57 = .ok (.ireturn, 1) := by decide +kernel
theorem dX9_fixed_0 : decode cX9_fixed 0 = .ok (.aload_n 0, 1) := by decide +kernel
theorem dX9_fixed_1 : decode cX9_fixed 1 = .ok (.iconst 0, 1) := by decide +kernel
theorem dX9_fixed_2 : decode cX9_fixed 2 = .ok (.putfield 63, 3) := by decide +kernel
theorem dX9_fixed_5 : decode cX9_fixed 5 = .ok (.aload_n 0, 1) := by decide +kernel
theorem dX9_fixed_6 : decode cX9_fixed 6 = .ok (.getfield 7, 3) := by decide +kernel
theorem dX9_fixed_9 : decode cX9_fixed 9 = .ok (.iconst 0, 1) := by decide +kernel
theorem dX9_fixed_10 : decode cX9_fixed 10 = .ok (.iaload, 1) := by decide +kernel
theorem dX9_fixed_11 : decode cX9_fixed 11 = .ok (.bipush 12, 2) := by decide +kernel
theorem dX9_fixed_13 : decode cX9_fixed 13 = .ok (.if_icmp .le 5, 3) := by decide +kernel
theorem dX9_fixed_16 : decode cX9_fixed 16 = .ok (.iconst (-1), 1) := by decide +kernel
theorem dX9_fixed_17 : decode cX9_fixed 17 = .ok (.ireturn, 1) := by decide +kernel
theorem dX9_fixed_18 : decode cX9_fixed 18 = .ok (.iconst 1, 1) := by decide +kernel
theorem dX9_fixed_19 : decode cX9_fixed 19 = .ok (.aload_n 0, 1) := by decide +kernel
theorem dX9_fixed_20 : decode cX9_fixed 20 = .ok (.getfield 7, 3) := by decide +kernel
theorem dX9_fixed_23 : decode cX9_fixed 23 = .ok (.iconst 0, 1) := by decide +kernel
theorem dX9_fixed_24 : decode cX9_fixed 24 = .ok (.iaload, 1) := by decide +kernel
theorem dX9_fixed_25 : decode cX9_fixed 25 = .ok (.ishl, 1) := by decide +kernel
theorem dX9_fixed_26 : decode cX9_fixed 26 = .ok (.iconst 1, 1) := by decide +kernel
theorem dX9_fixed_27 : decode cX9_fixed 27 = .ok (.isub, 1) := by decide +kernel
theorem dX9_fixed_28 : decode cX9_fixed 28 = .ok (.istore_n 2, 1) := by decide +kernel
theorem dX9_fixed_29 : decode cX9_fixed 29 = .ok (.iload_n 2, 1) := by decide +kernel
theorem dX9_fixed_30 : decode cX9_fixed 30 = .ok (.istore_n 3, 1) := by decide +kernel
theorem dX9_fixed_31 : decode cX9_fixed 31 = .ok (.iconst 0, 1) := by decide +kernel
theorem dX9_fixed_32 : decode cX9_fixed 32 = .ok (.istore 4, 2) := by decide +kernel
theorem dX9_fixed_34 : decode cX9_fixed 34 = .ok (.iconst 0, 1) := by decide +kernel
theorem dX9_fixed_35 : decode cX9_fixed 35 = .ok (.istore 5, 2) := by decide +kernel
theorem dX9_fixed_37 : decode cX9_fixed 37 = .ok (.iload 5, 2) := by decide +kernel
theorem dX9_fixed_39 : decode cX9_fixed 39 = .ok (.iload_n 2, 1) := by decide +kernel
theorem dX9_fixed_40 : decode cX9_fixed 40 = .ok (.if_icmp .gt 40, 3) := by decide +kernel
theorem dX9_fixed_43 : decode cX9_fixed 43 = .ok (.aload_n 0, 1) := by decide +kernel
theorem dX9_fixed_44 : decode cX9_fixed 44 = .ok (.iload 5, 2) := by decide +kernel
theorem dX9_fixed_46 : decode cX9_fixed 46 = .ok (.invokevirtual 236, 3) := by decide +kernel
theorem dX9_fixed_49 : decode cX9_fixed 49 = .ok (.ifCond .ne 6, 3) := by decide +kernel
theorem dX9_fixed_52 : decode cX9_fixed 52 = .ok (.goto 22, 3) := by decide +kernel
theorem dX9_fixed_55 : decode cX9_fixed 55 = .ok (.iconst 1, 1) := by decide +kernel
theorem dX9_fixed_56 : decode cX9_fixed 56 = .ok (.istore 4, 2) := by decide +kernel
theorem dX9_fixed_58 : decode cX9_fixed 58 = .ok (.iload_n 3, 1) := by decide +kernel
theorem dX9_fixed_59 : decode cX9_fixed 59 = .ok (.iload_n 1, 1) := by decide +kernel
theorem dX9_fixed_60 : decode cX9_fixed 60 = .ok (.ifCond .eq 8, 3) := by decide +kernel
theorem dX9_fixed_63 : decode cX9_fixed 63 = .ok (.iload 5, 2) := by decide +kernel
theorem dX9_fixed_65 : decode cX9_fixed 65 = .ok (.goto 7, 3) := by decide +kernel
theorem dX9_fixed_68 : decode cX9_fixed 68 = .ok (.iload 5, 2) := by decide +kernel
theorem dX9_fixed_70 : decode cX9_fixed 70 = .ok (.iconst (-1), 1) := by decide +kernel
theorem dX9_fixed_71 : decode cX9_fixed 71 = .ok (.ixor, 1) := by decide +kernel
theorem dX9_fixed_72 : decode cX9_fixed 72 = .ok (.iand, 1) := by decide +kernel
theorem dX9_fixed_73 : decode cX9_fixed 73 = .ok (.istore_n 3, 1) := by decide +kernel
theorem dX9_fixed_74 : decode cX9_fixed 74 = .ok (.iinc 5 1, 3) := by decide +kernel
theorem dX9_fixed_77 : decode cX9_fixed 77 = .ok (.goto (-40), 3) := by decide +kernel
theorem dX9_fixed_80 : decode cX9_fixed 80 = .ok (.iload 4, 2) := by decide +kernel
theorem dX9_fixed_82 : decode cX9_fixed 82 = .ok (.ifCond .eq 7, 3) := by decide +kernel
theorem dX9_fixed_85 : decode cX9_fixed 85 = .ok (.iload_n 3, 1) := by decide +kernel
theorem dX9_fixed_86 : decode cX9_fixed 86 = .ok (.goto 4, 3) := by decide +kernel
theorem dX9_fixed_89 : decode cX9_fixed 89 = .ok (.iconst (-1), 1) := by decide +kernel
theorem dX9_fixed_90 : decode cX9_fixed 90 = .ok (.ireturn, 1) := by decide +kernel
theorem dX9_put_0 : decode cX9_put 0 = .ok (.bipush 24, 2) := by decide +kernel
theorem dX9_put_2 : decode cX9_put 2 = .ok (.istore_n 2, 1) := by decide +kernel
theorem dX9_put_3 : decode cX9_put 3 = .ok (.iload_n 2, 1) := by decide +kernel
theorem dX9_put_4 : decode cX9_put 4 = .ok (.ifCond .lt 32, 3) := by decide +kernel
theorem dX9_put_7 : decode cX9_put 7 = .ok (.aload_n 0, 1) := by decide +kernel
theorem dX9_put_8 : decode cX9_put 8 = .ok (.getfield 53, 3) := by decide +kernel
theorem dX9_put_11 : decode cX9_put 11 = .ok (.aload_n 0, 1) := by decide +kernel
theorem dX9_put_12 : decode cX9_put 12 = .ok (.getfield 192, 3) := by decide +kernel
theorem dX9_put_15 : decode cX9_put 15 = .ok (.iload_n 1, 1) := by decide +kernel
theorem dX9_put_16 : decode cX9_put 16 = .ok (.iload_n 2, 1) := by decide +kernel
theorem dX9_put_17 : decode cX9_put 17 = .ok (.ishr, 1) := by decide +kernel
theorem dX9_put_18 : decode cX9_put 18 = .ok (.i2b, 1) := by decide +kernel
theorem dX9_put_19 : decode cX9_put 19 = .ok (.bastore, 1) := by decide +kernel
theorem dX9_put_20 : decode cX9_put 20 = .ok (.aload_n 0, 1) := by decide +kernel
theorem dX9_put_21 : decode cX9_put 21 = .ok (.dup, 1) := by decide +kernel
theorem dX9_put_22 : decode cX9_put 22 = .ok (.getfield 192, 3) := by decide +kernel
theorem dX9_put_25 : decode cX9_put 25 = .ok (.iconst 1, 1) := by decide +kernel
theorem dX9_put_26 : decode cX9_put 26 = .ok (.iadd, 1) := by decide +kernel
theorem dX9_put_27 : decode cX9_put 27 = .ok (.putfield 192, 3) := by decide +kernel
theorem dX9_put_30 : decode cX9_put 30 = .ok (.iinc 2 (-8), 3) := by decide +kernel
theorem dX9_put_33 : decode cX9_put 33 = .ok (.goto (-30), 3) := by decide +kernel
theorem dX9_put_36 : decode cX9_put 36 = .ok (.return_, 1) := by decide +kernel
theorem dX9_feed_0 : decode cX9_feed 0 = .ok (.aload_n 0, 1) := by decide +kernel
theorem dX9_feed_1 : decode cX9_feed 1 = .ok (.iconst 0, 1) := by decide +kernel
theorem dX9_feed_2 : decode cX9_feed 2 = .ok (.putfield 63, 3) := by decide +kernel
theorem dX9_feed_5 : decode cX9_feed 5 = .ok (.aload_n 0, 1) := by decide +kernel
theorem dX9_feed_6 : decode cX9_feed 6 = .ok (.getfield 192, 3) := by decide +kernel
theorem dX9_feed_9 : decode cX9_feed 9 = .ok (.bipush 20, 2) := by decide +kernel
theorem dX9_feed_11 : decode cX9_feed 11 = .ok (.iadd, 1) := by decide +kernel
theorem dX9_feed_12 : decode cX9_feed 12 = .ok (.sipush 400, 3) := by decide +kernel
theorem dX9_feed_15 : decode cX9_feed 15 = .ok (.if_icmp .le 5, 3) := by decide +kernel
theorem dX9_feed_18 : decode cX9_feed 18 = .ok (.iconst (-1), 1) := by decide +kernel
theorem dX9_feed_19 : decode cX9_feed 19 = .ok (.ireturn, 1) := by decide +kernel
theorem dX9_feed_20 : decode cX9_feed 20 = .ok (.aload_n 0, 1) := by decide +kernel
theorem dX9_feed_21 : decode cX9_feed 21 = .ok (.iload_n 1, 1) := by decide +kernel
theorem dX9_feed_22 : decode cX9_feed 22 = .ok (.invokevirtual 239, 3) := by decide +kernel
theorem dX9_feed_25 : decode cX9_feed 25 = .ok (.aload_n 0, 1) := by decide +kernel
theorem dX9_feed_26 : decode cX9_feed 26 = .ok (.iload_n 2, 1) := by decide +kernel
theorem dX9_feed_27 : decode cX9_feed 27 = .ok (.invokevirtual 239, 3) := by decide +kernel
theorem dX9_feed_30 : decode cX9_feed 30 = .ok (.aload_n 0, 1) := by decide +kernel
theorem dX9_feed_31 : decode cX9_feed 31 = .ok (.iload_n 3, 1) := by decide +kernel
theorem dX9_feed_32 : decode cX9_feed 32 = .ok (.invokevirtual 239, 3) := by decide +kernel
theorem dX9_feed_35 : decode cX9_feed 35 = .ok (.aload_n 0, 1) := by decide +kernel
theorem dX9_feed_36 : decode cX9_feed 36 = .ok (.iload 4, 2) := by decide +kernel
theorem dX9_feed_38 : decode cX9_feed 38 = .ok (.invokevirtual 239, 3) := by decide +kernel
theorem dX9_feed_41 : decode cX9_feed 41 = .ok (.aload_n 0, 1) := by decide +kernel
theorem dX9_feed_42 : decode cX9_feed 42 = .ok (.iload 5, 2) := by decide +kernel
theorem dX9_feed_44 : decode cX9_feed 44 = .ok (.invokevirtual 239, 3) := by decide +kernel
theorem dX9_feed_47 : decode cX9_feed 47 = .ok (.aload_n 0, 1) := by decide +kernel
theorem dX9_feed_48 : decode cX9_feed 48 = .ok (.getfield 192, 3) := by decide +kernel
theorem dX9_feed_51 : decode cX9_feed 51 = .ok (.ireturn, 1) := by decide +kernel
theorem dX9_end_0 : decode cX9_end 0 = .ok (.aload_n 0, 1) := by decide +kernel
theorem dX9_end_1 : decode cX9_end 1 = .ok (.iconst 0, 1) := by decide +kernel
theorem dX9_end_2 : decode cX9_end 2 = .ok (.putfield 63, 3) := by decide +kernel
theorem dX9_end_5 : decode cX9_end 5 = .ok (.iload_n 1, 1) := by decide +kernel
theorem dX9_end_6 : decode cX9_end 6 = .ok (.iconst 0, 1) := by decide +kernel
theorem dX9_end_7 : decode cX9_end 7 = .ok (.aload_n 0, 1) := by decide +kernel
theorem dX9_end_8 : decode cX9_end 8 = .ok (.getfield 192, 3) := by decide +kernel
theorem dX9_end_11 : decode cX9_end 11 = .ok (.invokestatic 67, 3) := by decide +kernel
theorem dX9_end_14 : decode cX9_end 14 = .ok (.ifCond .ne 5, 3) := by decide +kernel
theorem dX9_end_17 : decode cX9_end 17 = .ok (.iconst 0, 1) := by decide +kernel
theorem dX9_end_18 : decode cX9_end 18 = .ok (.ireturn, 1) := by decide +kernel
theorem dX9_end_19 : decode cX9_end 19 = .ok (.aload_n 0, 1) := by decide +kernel
theorem dX9_end_20 : decode cX9_end 20 = .ok (.iload_n 1, 1) := by decide +kernel
theorem dX9_end_21 : decode cX9_end 21 = .ok (.putfield 192, 3) := by decide +kernel
theorem dX9_end_24 : decode cX9_end 24 = .ok (.iconst 1, 1) := by decide +kernel
theorem dX9_end_25 : decode cX9_end 25 = .ok (.ireturn, 1) := by decide +kernel
theorem dX9_startsText_0 : decode cX9_startsText 0 = .ok (.aload_n 0, 1) := by decide +kernel
theorem dX9_startsText_1 : decode cX9_startsText 1 = .ok (.aload_n 0, 1) := by decide +kernel
theorem dX9_startsText_2 : decode cX9_startsText 2 = .ok (.getfield 192, 3) := by decide +kernel
theorem dX9_startsText_5 : decode cX9_startsText 5 = .ok (.putfield 242, 3) := by decide +kernel
theorem dX9_startsText_8 : decode cX9_startsText 8 = .ok (.aload_n 0, 1) := by decide +kernel
theorem dX9_startsText_9 : decode cX9_startsText 9 = .ok (.iconst 0, 1) := by decide +kernel
theorem dX9_startsText_10 : decode cX9_startsText 10 = .ok (.putfield 192, 3) := by decide +kernel
theorem dX9_startsText_13 : decode cX9_startsText 13 = .ok (.aload_n 0, 1) := by decide +kernel
theorem dX9_startsText_14 : decode cX9_startsText 14 = .ok (.iconst 0, 1) := by decide +kernel
theorem dX9_startsText_15 : decode cX9_startsText 15 = .ok (.putfield 233, 3) := by decide +kernel
theorem dX9_startsText_18 : decode cX9_startsText 18 = .ok (.aload_n 0, 1) := by decide +kernel
theorem dX9_startsText_19 : decode cX9_startsText 19 = .ok (.iconst 0, 1) := by decide +kernel
theorem dX9_startsText_20 : decode cX9_startsText 20 = .ok (.putfield 220, 3) := by decide +kernel
theorem dX9_startsText_23 : decode cX9_startsText 23 = .ok (.return_, 1) := by decide +kernel
theorem dX9_here_0 : decode cX9_here 0 = .ok (.aload_n 0, 1) := by decide +kernel
theorem dX9_here_1 : decode cX9_here 1 = .ok (.getfield 233, 3) := by decide +kernel
theorem dX9_here_4 : decode cX9_here 4 = .ok (.aload_n 0, 1) := by decide +kernel
theorem dX9_here_5 : decode cX9_here 5 = .ok (.getfield 242, 3) := by decide +kernel
theorem dX9_here_8 : decode cX9_here 8 = .ok (.if_icmp .ge 44, 3) := by decide +kernel
theorem dX9_here_11 : decode cX9_here 11 = .ok (.aload_n 0, 1) := by decide +kernel
theorem dX9_here_12 : decode cX9_here 12 = .ok (.getfield 53, 3) := by decide +kernel
theorem dX9_here_15 : decode cX9_here 15 = .ok (.aload_n 0, 1) := by decide +kernel
theorem dX9_here_16 : decode cX9_here 16 = .ok (.getfield 233, 3) := by decide +kernel
theorem dX9_here_19 : decode cX9_here 19 = .ok (.baload, 1) := by decide +kernel
theorem dX9_here_20 : decode cX9_here 20 = .ok (.bipush 32, 2) := by decide +kernel
theorem dX9_here_22 : decode cX9_here 22 = .ok (.if_icmp .eq 17, 3) := by decide +kernel
theorem dX9_here_25 : decode cX9_here 25 = .ok (.aload_n 0, 1) := by decide +kernel
theorem dX9_here_26 : decode cX9_here 26 = .ok (.getfield 53, 3) := by decide +kernel
theorem dX9_here_29 : decode cX9_here 29 = .ok (.aload_n 0, 1) := by decide +kernel
theorem dX9_here_30 : decode cX9_here 30 = .ok (.getfield 233, 3) := by decide +kernel
theorem dX9_here_33 : decode cX9_here 33 = .ok (.baload, 1) := by decide +kernel
theorem dX9_here_34 : decode cX9_here 34 = .ok (.bipush 10, 2) := by decide +kernel
theorem dX9_here_36 : decode cX9_here 36 = .ok (.if_icmp .ne 16, 3) := by decide +kernel
theorem dX9_here_39 : decode cX9_here 39 = .ok (.aload_n 0, 1) := by decide +kernel
theorem dX9_here_40 : decode cX9_here 40 = .ok (.dup, 1) := by decide +kernel
theorem dX9_here_41 : decode cX9_here 41 = .ok (.getfield 233, 3) := by decide +kernel
theorem dX9_here_44 : decode cX9_here 44 = .ok (.iconst 1, 1) := by decide +kernel
theorem dX9_here_45 : decode cX9_here 45 = .ok (.iadd, 1) := by decide +kernel
theorem dX9_here_46 : decode cX9_here 46 = .ok (.putfield 233, 3) := by decide +kernel
theorem dX9_here_49 : decode cX9_here 49 = .ok (.goto (-49), 3) := by decide +kernel
theorem dX9_here_52 : decode cX9_here 52 = .ok (.aload_n 0, 1) := by decide +kernel
theorem dX9_here_53 : decode cX9_here 53 = .ok (.getfield 233, 3) := by decide +kernel
theorem dX9_here_56 : decode cX9_here 56 = .ok (.aload_n 0, 1) := by decide +kernel
theorem dX9_here_57 : decode cX9_here 57 = .ok (.getfield 242, 3) := by decide +kernel
theorem dX9_here_60 : decode cX9_here 60 = .ok (.if_icmp .ge 19, 3) := by decide +kernel
theorem dX9_here_63 : decode cX9_here 63 = .ok (.aload_n 0, 1) := by decide +kernel
theorem dX9_here_64 : decode cX9_here 64 = .ok (.getfield 53, 3) := by decide +kernel
theorem dX9_here_67 : decode cX9_here 67 = .ok (.aload_n 0, 1) := by decide +kernel
theorem dX9_here_68 : decode cX9_here 68 = .ok (.getfield 233, 3) := by decide +kernel
theorem dX9_here_71 : decode cX9_here 71 = .ok (.baload, 1) := by decide +kernel
theorem dX9_here_72 : decode cX9_here 72 = .ok (.sipush 255, 3) := by decide +kernel
theorem dX9_here_75 : decode cX9_here 75 = .ok (.iand, 1) := by decide +kernel
theorem dX9_here_76 : decode cX9_here 76 = .ok (.goto 4, 3) := by decide +kernel
theorem dX9_here_79 : decode cX9_here 79 = .ok (.iconst (-1), 1) := by decide +kernel
theorem dX9_here_80 : decode cX9_here 80 = .ok (.ireturn, 1) := by decide +kernel
theorem dX9_fails_0 : decode cX9_fails 0 = .ok (.aload_n 0, 1) := by decide +kernel
theorem dX9_fails_1 : decode cX9_fails 1 = .ok (.getfield 220, 3) := by decide +kernel
theorem dX9_fails_4 : decode cX9_fails 4 = .ok (.ifCond .ne 13, 3) := by decide +kernel
theorem dX9_fails_7 : decode cX9_fails 7 = .ok (.aload_n 0, 1) := by decide +kernel
theorem dX9_fails_8 : decode cX9_fails 8 = .ok (.iload_n 1, 1) := by decide +kernel
theorem dX9_fails_9 : decode cX9_fails 9 = .ok (.bipush 8, 2) := by decide +kernel
theorem dX9_fails_11 : decode cX9_fails 11 = .ok (.iload_n 2, 1) := by decide +kernel
theorem dX9_fails_12 : decode cX9_fails 12 = .ok (.imul, 1) := by decide +kernel
theorem dX9_fails_13 : decode cX9_fails 13 = .ok (.iadd, 1) := by decide +kernel
theorem dX9_fails_14 : decode cX9_fails 14 = .ok (.putfield 220, 3) := by decide +kernel
theorem dX9_fails_17 : decode cX9_fails 17 = .ok (.return_, 1) := by decide +kernel
theorem dX9_isDigit_0 : decode cX9_isDigit 0 = .ok (.aload_n 0, 1) := by decide +kernel
theorem dX9_isDigit_1 : decode cX9_isDigit 1 = .ok (.invokevirtual 223, 3) := by decide +kernel
theorem dX9_isDigit_4 : decode cX9_isDigit 4 = .ok (.bipush 48, 2) := by decide +kernel
theorem dX9_isDigit_6 : decode cX9_isDigit 6 = .ok (.bipush 57, 2) := by decide +kernel
theorem dX9_isDigit_8 : decode cX9_isDigit 8 = .ok (.invokestatic 67, 3) := by decide +kernel
theorem dX9_isDigit_11 : decode cX9_isDigit 11 = .ok (.ireturn, 1) := by decide +kernel
theorem dX9_number_0 : decode cX9_number 0 = .ok (.aload_n 0, 1) := by decide +kernel
theorem dX9_number_1 : decode cX9_number 1 = .ok (.invokevirtual 245, 3) := by decide +kernel
theorem dX9_number_4 : decode cX9_number 4 = .ok (.istore_n 1, 1) := by decide +kernel
theorem dX9_number_5 : decode cX9_number 5 = .ok (.aload_n 0, 1) := by decide +kernel
theorem dX9_number_6 : decode cX9_number 6 = .ok (.getfield 233, 3) := by decide +kernel
theorem dX9_number_9 : decode cX9_number 9 = .ok (.istore_n 2, 1) := by decide +kernel
theorem dX9_number_10 : decode cX9_number 10 = .ok (.iconst 0, 1) := by decide +kernel
theorem dX9_number_11 : decode cX9_number 11 = .ok (.istore_n 3, 1) := by decide +kernel
theorem dX9_number_12 : decode cX9_number 12 = .ok (.iload_n 1, 1) := by decide +kernel
theorem dX9_number_13 : decode cX9_number 13 = .ok (.ifCond .eq 78, 3) := by decide +kernel
theorem dX9_number_16 : decode cX9_number 16 = .ok (.aload_n 0, 1) := by decide +kernel
theorem dX9_number_17 : decode cX9_number 17 = .ok (.getfield 233, 3) := by decide +kernel
theorem dX9_number_20 : decode cX9_number 20 = .ok (.aload_n 0, 1) := by decide +kernel
theorem dX9_number_21 : decode cX9_number 21 = .ok (.getfield 242, 3) := by decide +kernel
theorem dX9_number_24 : decode cX9_number 24 = .ok (.if_icmp .ge 67, 3) := by decide +kernel
theorem dX9_number_27 : decode cX9_number 27 = .ok (.aload_n 0, 1) := by decide +kernel
theorem dX9_number_28 : decode cX9_number 28 = .ok (.getfield 53, 3) := by decide +kernel
theorem dX9_number_31 : decode cX9_number 31 = .ok (.aload_n 0, 1) := by decide +kernel
theorem dX9_number_32 : decode cX9_number 32 = .ok (.getfield 233, 3) := by decide +kernel
theorem dX9_number_35 : decode cX9_number 35 = .ok (.baload, 1) := by decide +kernel
theorem dX9_number_36 : decode cX9_number 36 = .ok (.bipush 48, 2) := by decide +kernel
theorem dX9_number_38 : decode cX9_number 38 = .ok (.bipush 57, 2) := by decide +kernel
theorem dX9_number_40 : decode cX9_number 40 = .ok (.invokestatic 67, 3) := by decide +kernel
theorem dX9_number_43 : decode cX9_number 43 = .ok (.ifCond .eq 48, 3) := by decide +kernel
theorem dX9_number_46 : decode cX9_number 46 = .ok (.aload_n 0, 1) := by decide +kernel
theorem dX9_number_47 : decode cX9_number 47 = .ok (.getfield 233, 3) := by decide +kernel
theorem dX9_number_50 : decode cX9_number 50 = .ok (.iload_n 2, 1) := by decide +kernel
theorem dX9_number_51 : decode cX9_number 51 = .ok (.isub, 1) := by decide +kernel
theorem dX9_number_52 : decode cX9_number 52 = .ok (.iconst 2, 1) := by decide +kernel
theorem dX9_number_53 : decode cX9_number 53 = .ok (.if_icmp .ge 23, 3) := by decide +kernel
theorem dX9_number_56 : decode cX9_number 56 = .ok (.bipush 10, 2) := by decide +kernel
theorem dX9_number_58 : decode cX9_number 58 = .ok (.iload_n 3, 1) := by decide +kernel
theorem dX9_number_59 : decode cX9_number 59 = .ok (.imul, 1) := by decide +kernel
theorem dX9_number_60 : decode cX9_number 60 = .ok (.aload_n 0, 1) := by decide +kernel
theorem dX9_number_61 : decode cX9_number 61 = .ok (.getfield 53, 3) := by decide +kernel
theorem dX9_number_64 : decode cX9_number 64 = .ok (.aload_n 0, 1) := by decide +kernel
theorem dX9_number_65 : decode cX9_number 65 = .ok (.getfield 233, 3) := by decide +kernel
theorem dX9_number_68 : decode cX9_number 68 = .ok (.baload, 1) := by decide +kernel
theorem dX9_number_69 : decode cX9_number 69 = .ok (.iadd, 1) := by decide +kernel
theorem dX9_number_70 : decode cX9_number 70 = .ok (.bipush 48, 2) := by decide +kernel
theorem dX9_number_72 : decode cX9_number 72 = .ok (.isub, 1) := by decide +kernel
theorem dX9_number_73 : decode cX9_number 73 = .ok (.goto 4, 3) := by decide +kernel
theorem dX9_number_76 : decode cX9_number 76 = .ok (.iload_n 3, 1) := by decide +kernel
theorem dX9_number_77 : decode cX9_number 77 = .ok (.istore_n 3, 1) := by decide +kernel
theorem dX9_number_78 : decode cX9_number 78 = .ok (.aload_n 0, 1) := by decide +kernel
theorem dX9_number_79 : decode cX9_number 79 = .ok (.dup, 1) := by decide +kernel
theorem dX9_number_80 : decode cX9_number 80 = .ok (.getfield 233, 3) := by decide +kernel
theorem dX9_number_83 : decode cX9_number 83 = .ok (.iconst 1, 1) := by decide +kernel
theorem dX9_number_84 : decode cX9_number 84 = .ok (.iadd, 1) := by decide +kernel
theorem dX9_number_85 : decode cX9_number 85 = .ok (.putfield 233, 3) := by decide +kernel
theorem dX9_number_88 : decode cX9_number 88 = .ok (.goto (-76), 3) := by decide +kernel
theorem dX9_number_91 : decode cX9_number 91 = .ok (.aload_n 0, 1) := by decide +kernel
theorem dX9_number_92 : decode cX9_number 92 = .ok (.getfield 233, 3) := by decide +kernel
theorem dX9_number_95 : decode cX9_number 95 = .ok (.iload_n 2, 1) := by decide +kernel
theorem dX9_number_96 : decode cX9_number 96 = .ok (.isub, 1) := by decide +kernel
theorem dX9_number_97 : decode cX9_number 97 = .ok (.iconst 1, 1) := by decide +kernel
theorem dX9_number_98 : decode cX9_number 98 = .ok (.iconst 2, 1) := by decide +kernel
theorem dX9_number_99 : decode cX9_number 99 = .ok (.invokestatic 67, 3) := by decide +kernel
theorem dX9_number_102 : decode cX9_number 102 = .ok (.ifCond .ne 9, 3) := by decide +kernel
theorem dX9_number_105 : decode cX9_number 105 = .ok (.aload_n 0, 1) := by decide +kernel
theorem dX9_number_106 : decode cX9_number 106 = .ok (.iconst 1, 1) := by decide +kernel
theorem dX9_number_107 : decode cX9_number 107 = .ok (.iload_n 2, 1) := by decide +kernel
theorem dX9_number_108 : decode cX9_number 108 = .ok (.invokevirtual 248, 3) := by decide +kernel
theorem dX9_number_111 : decode cX9_number 111 = .ok (.iload_n 3, 1) := by decide +kernel
theorem dX9_number_112 : decode cX9_number 112 = .ok (.ireturn, 1) := by decide +kernel
theorem dX9_clearsTold_0 : decode cX9_clearsTold 0 = .ok (.iconst 0, 1) := by decide +kernel
theorem dX9_clearsTold_1 : decode cX9_clearsTold 1 = .ok (.istore_n 1, 1) := by decide +kernel
theorem dX9_clearsTold_2 : decode cX9_clearsTold 2 = .ok (.iload_n 1, 1) := by decide +kernel
theorem dX9_clearsTold_3 : decode cX9_clearsTold 3 = .ok (.bipush 30, 2) := by decide +kernel
theorem dX9_clearsTold_5 : decode cX9_clearsTold 5 = .ok (.if_icmp .gt 16, 3) := by decide +kernel
theorem dX9_clearsTold_8 : decode cX9_clearsTold 8 = .ok (.aload_n 0, 1) := by decide +kernel
theorem dX9_clearsTold_9 : decode cX9_clearsTold 9 = .ok (.getfield 57, 3) := by decide +kernel
theorem dX9_clearsTold_12 : decode cX9_clearsTold 12 = .ok (.iload_n 1, 1) := by decide +kernel
theorem dX9_clearsTold_13 : decode cX9_clearsTold 13 = .ok (.iconst 0, 1) := by decide +kernel
theorem dX9_clearsTold_14 : decode cX9_clearsTold 14 = .ok (.bastore, 1) := by decide +kernel
theorem dX9_clearsTold_15 : decode cX9_clearsTold 15 = .ok (.iinc 1 1, 3) := by decide +kernel
theorem dX9_clearsTold_18 : decode cX9_clearsTold 18 = .ok (.goto (-16), 3) := by decide +kernel
theorem dX9_clearsTold_21 : decode cX9_clearsTold 21 = .ok (.return_, 1) := by decide +kernel
theorem dX9_lit_0 : decode cX9_lit 0 = .ok (.aload_n 0, 1) := by decide +kernel
theorem dX9_lit_1 : decode cX9_lit 1 = .ok (.invokevirtual 223, 3) := by decide +kernel
theorem dX9_lit_4 : decode cX9_lit 4 = .ok (.bipush 45, 2) := by decide +kernel
theorem dX9_lit_6 : decode cX9_lit 6 = .ok (.if_icmp .ne 7, 3) := by decide +kernel
theorem dX9_lit_9 : decode cX9_lit 9 = .ok (.iconst 1, 1) := by decide +kernel
theorem dX9_lit_10 : decode cX9_lit 10 = .ok (.goto 4, 3) := by decide +kernel
theorem dX9_lit_13 : decode cX9_lit 13 = .ok (.iconst 0, 1) := by decide +kernel
theorem dX9_lit_14 : decode cX9_lit 14 = .ok (.istore_n 3, 1) := by decide +kernel
theorem dX9_lit_15 : decode cX9_lit 15 = .ok (.iload_n 3, 1) := by decide +kernel
theorem dX9_lit_16 : decode cX9_lit 16 = .ok (.ifCond .eq 16, 3) := by decide +kernel
theorem dX9_lit_19 : decode cX9_lit 19 = .ok (.iload_n 2, 1) := by decide +kernel
theorem dX9_lit_20 : decode cX9_lit 20 = .ok (.ifCond .eq 12, 3) := by decide +kernel
theorem dX9_lit_23 : decode cX9_lit 23 = .ok (.aload_n 0, 1) := by decide +kernel
theorem dX9_lit_24 : decode cX9_lit 24 = .ok (.iconst 3, 1) := by decide +kernel
theorem dX9_lit_25 : decode cX9_lit 25 = .ok (.aload_n 0, 1) := by decide +kernel
theorem dX9_lit_26 : decode cX9_lit 26 = .ok (.getfield 233, 3) := by decide +kernel
theorem dX9_lit_29 : decode cX9_lit 29 = .ok (.invokevirtual 248, 3) := by decide +kernel
theorem dX9_lit_32 : decode cX9_lit 32 = .ok (.aload_n 0, 1) := by decide +kernel
theorem dX9_lit_33 : decode cX9_lit 33 = .ok (.dup, 1) := by decide +kernel
theorem dX9_lit_34 : decode cX9_lit 34 = .ok (.getfield 233, 3) := by decide +kernel
theorem dX9_lit_37 : decode cX9_lit 37 = .ok (.iload_n 3, 1) := by decide +kernel
theorem dX9_lit_38 : decode cX9_lit 38 = .ok (.ifCond .eq 7, 3) := by decide +kernel
theorem dX9_lit_41 : decode cX9_lit 41 = .ok (.iconst 1, 1) := by decide +kernel
theorem dX9_lit_42 : decode cX9_lit 42 = .ok (.goto 4, 3) := by decide +kernel
theorem dX9_lit_45 : decode cX9_lit 45 = .ok (.iconst 0, 1) := by decide +kernel
theorem dX9_lit_46 : decode cX9_lit 46 = .ok (.iadd, 1) := by decide +kernel
theorem dX9_lit_47 : decode cX9_lit 47 = .ok (.putfield 233, 3) := by decide +kernel
theorem dX9_lit_50 : decode cX9_lit 50 = .ok (.aload_n 0, 1) := by decide +kernel
theorem dX9_lit_51 : decode cX9_lit 51 = .ok (.invokevirtual 223, 3) := by decide +kernel
theorem dX9_lit_54 : decode cX9_lit 54 = .ok (.pop, 1) := by decide +kernel
theorem dX9_lit_55 : decode cX9_lit 55 = .ok (.aload_n 0, 1) := by decide +kernel
theorem dX9_lit_56 : decode cX9_lit 56 = .ok (.getfield 233, 3) := by decide +kernel
theorem dX9_lit_59 : decode cX9_lit 59 = .ok (.istore 4, 2) := by decide +kernel
theorem dX9_lit_61 : decode cX9_lit 61 = .ok (.aload_n 0, 1) := by decide +kernel
theorem dX9_lit_62 : decode cX9_lit 62 = .ok (.invokevirtual 251, 3) := by decide +kernel
theorem dX9_lit_65 : decode cX9_lit 65 = .ok (.istore 5, 2) := by decide +kernel
theorem dX9_lit_67 : decode cX9_lit 67 = .ok (.aload_n 0, 1) := by decide +kernel
theorem dX9_lit_68 : decode cX9_lit 68 = .ok (.getfield 220, 3) := by decide +kernel
theorem dX9_lit_71 : decode cX9_lit 71 = .ok (.ifCond .ne 33, 3) := by decide +kernel
theorem dX9_lit_74 : decode cX9_lit 74 = .ok (.aload_n 0, 1) := by decide +kernel
theorem dX9_lit_75 : decode cX9_lit 75 = .ok (.iload 5, 2) := by decide +kernel
theorem dX9_lit_77 : decode cX9_lit 77 = .ok (.invokevirtual 75, 3) := by decide +kernel
theorem dX9_lit_80 : decode cX9_lit 80 = .ok (.ifCond .eq 17, 3) := by decide +kernel
theorem dX9_lit_83 : decode cX9_lit 83 = .ok (.iload_n 1, 1) := by decide +kernel
theorem dX9_lit_84 : decode cX9_lit 84 = .ok (.ifCond .eq 20, 3) := by decide +kernel
theorem dX9_lit_87 : decode cX9_lit 87 = .ok (.aload_n 0, 1) := by decide +kernel
theorem dX9_lit_88 : decode cX9_lit 88 = .ok (.getfield 57, 3) := by decide +kernel
theorem dX9_lit_91 : decode cX9_lit 91 = .ok (.iload 5, 2) := by decide +kernel
theorem dX9_lit_93 : decode cX9_lit 93 = .ok (.baload, 1) := by decide +kernel
theorem dX9_lit_94 : decode cX9_lit 94 = .ok (.ifCond .eq 10, 3) := by decide +kernel
theorem dX9_lit_97 : decode cX9_lit 97 = .ok (.aload_n 0, 1) := by decide +kernel
theorem dX9_lit_98 : decode cX9_lit 98 = .ok (.iconst 2, 1) := by decide +kernel
theorem dX9_lit_99 : decode cX9_lit 99 = .ok (.iload 4, 2) := by decide +kernel
theorem dX9_lit_101 : decode cX9_lit 101 = .ok (.invokevirtual 248, 3) := by decide +kernel
theorem dX9_lit_104 : decode cX9_lit 104 = .ok (.aload_n 0, 1) := by decide +kernel
theorem dX9_lit_105 : decode cX9_lit 105 = .ok (.getfield 220, 3) := by decide +kernel
theorem dX9_lit_108 : decode cX9_lit 108 = .ok (.ifCond .ne 14, 3) := by decide +kernel
theorem dX9_lit_111 : decode cX9_lit 111 = .ok (.iload_n 2, 1) := by decide +kernel
theorem dX9_lit_112 : decode cX9_lit 112 = .ok (.ifCond .eq 10, 3) := by decide +kernel
theorem dX9_lit_115 : decode cX9_lit 115 = .ok (.aload_n 0, 1) := by decide +kernel
theorem dX9_lit_116 : decode cX9_lit 116 = .ok (.iconst 3, 1) := by decide +kernel
theorem dX9_lit_117 : decode cX9_lit 117 = .ok (.iload 4, 2) := by decide +kernel
theorem dX9_lit_119 : decode cX9_lit 119 = .ok (.invokevirtual 248, 3) := by decide +kernel
theorem dX9_lit_122 : decode cX9_lit 122 = .ok (.aload_n 0, 1) := by decide +kernel
theorem dX9_lit_123 : decode cX9_lit 123 = .ok (.getfield 220, 3) := by decide +kernel
theorem dX9_lit_126 : decode cX9_lit 126 = .ok (.ifCond .eq 5, 3) := by decide +kernel
theorem dX9_lit_129 : decode cX9_lit 129 = .ok (.iconst 0, 1) := by decide +kernel
theorem dX9_lit_130 : decode cX9_lit 130 = .ok (.ireturn, 1) := by decide +kernel
theorem dX9_lit_131 : decode cX9_lit 131 = .ok (.aload_n 0, 1) := by decide +kernel
theorem dX9_lit_132 : decode cX9_lit 132 = .ok (.getfield 57, 3) := by decide +kernel
theorem dX9_lit_135 : decode cX9_lit 135 = .ok (.iload 5, 2) := by decide +kernel
theorem dX9_lit_137 : decode cX9_lit 137 = .ok (.iconst 1, 1) := by decide +kernel
theorem dX9_lit_138 : decode cX9_lit 138 = .ok (.bastore, 1) := by decide +kernel
theorem dX9_lit_139 : decode cX9_lit 139 = .ok (.iload_n 3, 1) := by decide +kernel
theorem dX9_lit_140 : decode cX9_lit 140 = .ok (.ifCond .eq 9, 3) := by decide +kernel
theorem dX9_lit_143 : decode cX9_lit 143 = .ok (.iload 5, 2) := by decide +kernel
theorem dX9_lit_145 : decode cX9_lit 145 = .ok (.ineg, 1) := by decide +kernel
theorem dX9_lit_146 : decode cX9_lit 146 = .ok (.goto 5, 3) := by decide +kernel
theorem dX9_lit_149 : decode cX9_lit 149 = .ok (.iload 5, 2) := by decide +kernel
theorem dX9_lit_151 : decode cX9_lit 151 = .ok (.ireturn, 1) := by decide +kernel
theorem dX9_isLit_0 : decode cX9_isLit 0 = .ok (.aload_n 0, 1) := by decide +kernel
theorem dX9_isLit_1 : decode cX9_isLit 1 = .ok (.invokevirtual 223, 3) := by decide +kernel
theorem dX9_isLit_4 : decode cX9_isLit 4 = .ok (.bipush 45, 2) := by decide +kernel
theorem dX9_isLit_6 : decode cX9_isLit 6 = .ok (.if_icmp .eq 10, 3) := by decide +kernel
theorem dX9_isLit_9 : decode cX9_isLit 9 = .ok (.aload_n 0, 1) := by decide +kernel
theorem dX9_isLit_10 : decode cX9_isLit 10 = .ok (.invokevirtual 245, 3) := by decide +kernel
theorem dX9_isLit_13 : decode cX9_isLit 13 = .ok (.ifCond .eq 7, 3) := by decide +kernel
theorem dX9_isLit_16 : decode cX9_isLit 16 = .ok (.iconst 1, 1) := by decide +kernel
theorem dX9_isLit_17 : decode cX9_isLit 17 = .ok (.goto 4, 3) := by decide +kernel
theorem dX9_isLit_20 : decode cX9_isLit 20 = .ok (.iconst 0, 1) := by decide +kernel
theorem dX9_isLit_21 : decode cX9_isLit 21 = .ok (.ireturn, 1) := by decide +kernel
theorem dX9_word_0 : decode cX9_word 0 = .ok (.aload_n 0, 1) := by decide +kernel
theorem dX9_word_1 : decode cX9_word 1 = .ok (.invokevirtual 223, 3) := by decide +kernel
theorem dX9_word_4 : decode cX9_word 4 = .ok (.pop, 1) := by decide +kernel
theorem dX9_word_5 : decode cX9_word 5 = .ok (.aload_n 0, 1) := by decide +kernel
theorem dX9_word_6 : decode cX9_word 6 = .ok (.getfield 233, 3) := by decide +kernel
theorem dX9_word_9 : decode cX9_word 9 = .ok (.istore_n 1, 1) := by decide +kernel
theorem dX9_word_10 : decode cX9_word 10 = .ok (.lconst 0, 1) := by decide +kernel
theorem dX9_word_11 : decode cX9_word 11 = .ok (.lstore_n 2, 1) := by decide +kernel
theorem dX9_word_12 : decode cX9_word 12 = .ok (.aload_n 0, 1) := by decide +kernel
theorem dX9_word_13 : decode cX9_word 13 = .ok (.getfield 233, 3) := by decide +kernel
theorem dX9_word_16 : decode cX9_word 16 = .ok (.aload_n 0, 1) := by decide +kernel
theorem dX9_word_17 : decode cX9_word 17 = .ok (.getfield 242, 3) := by decide +kernel
theorem dX9_word_20 : decode cX9_word 20 = .ok (.if_icmp .ge 71, 3) := by decide +kernel
theorem dX9_word_23 : decode cX9_word 23 = .ok (.aload_n 0, 1) := by decide +kernel
theorem dX9_word_24 : decode cX9_word 24 = .ok (.getfield 53, 3) := by decide +kernel
theorem dX9_word_27 : decode cX9_word 27 = .ok (.aload_n 0, 1) := by decide +kernel
theorem dX9_word_28 : decode cX9_word 28 = .ok (.getfield 233, 3) := by decide +kernel
theorem dX9_word_31 : decode cX9_word 31 = .ok (.baload, 1) := by decide +kernel
theorem dX9_word_32 : decode cX9_word 32 = .ok (.bipush 97, 2) := by decide +kernel
theorem dX9_word_34 : decode cX9_word 34 = .ok (.bipush 122, 2) := by decide +kernel
theorem dX9_word_36 : decode cX9_word 36 = .ok (.invokestatic 67, 3) := by decide +kernel
theorem dX9_word_39 : decode cX9_word 39 = .ok (.ifCond .eq 52, 3) := by decide +kernel
theorem dX9_word_42 : decode cX9_word 42 = .ok (.aload_n 0, 1) := by decide +kernel
theorem dX9_word_43 : decode cX9_word 43 = .ok (.getfield 233, 3) := by decide +kernel
theorem dX9_word_46 : decode cX9_word 46 = .ok (.iload_n 1, 1) := by decide +kernel
theorem dX9_word_47 : decode cX9_word 47 = .ok (.isub, 1) := by decide +kernel
theorem dX9_word_48 : decode cX9_word 48 = .ok (.bipush 7, 2) := by decide +kernel
theorem dX9_word_50 : decode cX9_word 50 = .ok (.if_icmp .ge 26, 3) := by decide +kernel
theorem dX9_word_53 : decode cX9_word 53 = .ok (.ldc2_w 254, 3) := by decide +kernel
theorem dX9_word_56 : decode cX9_word 56 = .ok (.lload_n 2, 1) := by decide +kernel
theorem dX9_word_57 : decode cX9_word 57 = .ok (.lmul, 1) := by decide +kernel
theorem dX9_word_58 : decode cX9_word 58 = .ok (.aload_n 0, 1) := by decide +kernel
theorem dX9_word_59 : decode cX9_word 59 = .ok (.getfield 53, 3) := by decide +kernel
theorem dX9_word_62 : decode cX9_word 62 = .ok (.aload_n 0, 1) := by decide +kernel
theorem dX9_word_63 : decode cX9_word 63 = .ok (.getfield 233, 3) := by decide +kernel
theorem dX9_word_66 : decode cX9_word 66 = .ok (.baload, 1) := by decide +kernel
theorem dX9_word_67 : decode cX9_word 67 = .ok (.i2l, 1) := by decide +kernel
theorem dX9_word_68 : decode cX9_word 68 = .ok (.ladd, 1) := by decide +kernel
theorem dX9_word_69 : decode cX9_word 69 = .ok (.ldc2_w 256, 3) := by decide +kernel
theorem dX9_word_72 : decode cX9_word 72 = .ok (.lsub, 1) := by decide +kernel
theorem dX9_word_73 : decode cX9_word 73 = .ok (.goto 4, 3) := by decide +kernel
theorem dX9_word_76 : decode cX9_word 76 = .ok (.lconst 0, 1) := by decide +kernel
theorem dX9_word_77 : decode cX9_word 77 = .ok (.lstore_n 2, 1) := by decide +kernel
theorem dX9_word_78 : decode cX9_word 78 = .ok (.aload_n 0, 1) := by decide +kernel
theorem dX9_word_79 : decode cX9_word 79 = .ok (.dup, 1) := by decide +kernel
theorem dX9_word_80 : decode cX9_word 80 = .ok (.getfield 233, 3) := by decide +kernel
theorem dX9_word_83 : decode cX9_word 83 = .ok (.iconst 1, 1) := by decide +kernel
theorem dX9_word_84 : decode cX9_word 84 = .ok (.iadd, 1) := by decide +kernel
theorem dX9_word_85 : decode cX9_word 85 = .ok (.putfield 233, 3) := by decide +kernel
theorem dX9_word_88 : decode cX9_word 88 = .ok (.goto (-76), 3) := by decide +kernel
theorem dX9_word_91 : decode cX9_word 91 = .ok (.lload_n 2, 1) := by decide +kernel
theorem dX9_word_92 : decode cX9_word 92 = .ok (.lreturn, 1) := by decide +kernel
theorem dX9_endsStatement_0 : decode cX9_endsStatement 0 = .ok (.aload_n 0, 1) := by decide +kernel
theorem dX9_endsStatement_1 : decode cX9_endsStatement 1 = .ok (.getfield 220, 3) := by decide +kernel
theorem dX9_endsStatement_4 : decode cX9_endsStatement 4 = .ok (.ifCond .ne 21, 3) := by decide +kernel
theorem dX9_endsStatement_7 : decode cX9_endsStatement 7 = .ok (.aload_n 0, 1) := by decide +kernel
theorem dX9_endsStatement_8 : decode cX9_endsStatement 8 = .ok (.invokevirtual 223, 3) := by decide +kernel
theorem dX9_endsStatement_11 : decode cX9_endsStatement 11 = .ok (.bipush 59, 2) := by decide +kernel
theorem dX9_endsStatement_13 : decode cX9_endsStatement 13 = .ok (.if_icmp .eq 12, 3) := by decide +kernel
theorem dX9_endsStatement_16 : decode cX9_endsStatement 16 = .ok (.aload_n 0, 1) := by decide +kernel
theorem dX9_endsStatement_17 : decode cX9_endsStatement 17 = .ok (.iconst 1, 1) := by decide +kernel
theorem dX9_endsStatement_18 : decode cX9_endsStatement 18 = .ok (.aload_n 0, 1) := by decide +kernel
theorem dX9_endsStatement_19 : decode cX9_endsStatement 19 = .ok (.getfield 233, 3) := by decide +kernel
theorem dX9_endsStatement_22 : decode cX9_endsStatement 22 = .ok (.invokevirtual 248, 3) := by decide +kernel
theorem dX9_endsStatement_25 : decode cX9_endsStatement 25 = .ok (.aload_n 0, 1) := by decide +kernel
theorem dX9_endsStatement_26 : decode cX9_endsStatement 26 = .ok (.dup, 1) := by decide +kernel
theorem dX9_endsStatement_27 : decode cX9_endsStatement 27 = .ok (.getfield 233, 3) := by decide +kernel
theorem dX9_endsStatement_30 : decode cX9_endsStatement 30 = .ok (.iconst 1, 1) := by decide +kernel
theorem dX9_endsStatement_31 : decode cX9_endsStatement 31 = .ok (.iadd, 1) := by decide +kernel
theorem dX9_endsStatement_32 : decode cX9_endsStatement 32 = .ok (.putfield 233, 3) := by decide +kernel
theorem dX9_endsStatement_35 : decode cX9_endsStatement 35 = .ok (.return_, 1) := by decide +kernel
theorem dX9_clauseTold_0 : decode cX9_clauseTold 0 = .ok (.aload_n 0, 1) := by decide +kernel
theorem dX9_clauseTold_1 : decode cX9_clauseTold 1 = .ok (.invokevirtual 226, 3) := by decide +kernel
theorem dX9_clauseTold_4 : decode cX9_clauseTold 4 = .ok (.aload_n 0, 1) := by decide +kernel
theorem dX9_clauseTold_5 : decode cX9_clauseTold 5 = .ok (.invokevirtual 85, 3) := by decide +kernel
theorem dX9_clauseTold_8 : decode cX9_clauseTold 8 = .ok (.ifCond .ne 7, 3) := by decide +kernel
theorem dX9_clauseTold_11 : decode cX9_clauseTold 11 = .ok (.iconst 1, 1) := by decide +kernel
theorem dX9_clauseTold_12 : decode cX9_clauseTold 12 = .ok (.goto 4, 3) := by decide +kernel
theorem dX9_clauseTold_15 : decode cX9_clauseTold 15 = .ok (.iconst 0, 1) := by decide +kernel
theorem dX9_clauseTold_16 : decode cX9_clauseTold 16 = .ok (.istore_n 1, 1) := by decide +kernel
theorem dX9_clauseTold_17 : decode cX9_clauseTold 17 = .ok (.iconst 0, 1) := by decide +kernel
theorem dX9_clauseTold_18 : decode cX9_clauseTold 18 = .ok (.istore_n 2, 1) := by decide +kernel
theorem dX9_clauseTold_19 : decode cX9_clauseTold 19 = .ok (.aload_n 0, 1) := by decide +kernel
theorem dX9_clauseTold_20 : decode cX9_clauseTold 20 = .ok (.getfield 220, 3) := by decide +kernel
theorem dX9_clauseTold_23 : decode cX9_clauseTold 23 = .ok (.ifCond .ne 55, 3) := by decide +kernel
theorem dX9_clauseTold_26 : decode cX9_clauseTold 26 = .ok (.iload_n 2, 1) := by decide +kernel
theorem dX9_clauseTold_27 : decode cX9_clauseTold 27 = .ok (.ifCond .eq 10, 3) := by decide +kernel
theorem dX9_clauseTold_30 : decode cX9_clauseTold 30 = .ok (.aload_n 0, 1) := by decide +kernel
theorem dX9_clauseTold_31 : decode cX9_clauseTold 31 = .ok (.invokevirtual 258, 3) := by decide +kernel
theorem dX9_clauseTold_34 : decode cX9_clauseTold 34 = .ok (.ifCond .eq 44, 3) := by decide +kernel
theorem dX9_clauseTold_37 : decode cX9_clauseTold 37 = .ok (.aload_n 0, 1) := by decide +kernel
theorem dX9_clauseTold_38 : decode cX9_clauseTold 38 = .ok (.iconst 1, 1) := by decide +kernel
theorem dX9_clauseTold_39 : decode cX9_clauseTold 39 = .ok (.iload_n 1, 1) := by decide +kernel
theorem dX9_clauseTold_40 : decode cX9_clauseTold 40 = .ok (.ifCond .ne 9, 3) := by decide +kernel
theorem dX9_clauseTold_43 : decode cX9_clauseTold 43 = .ok (.iload_n 2, 1) := by decide +kernel
theorem dX9_clauseTold_44 : decode cX9_clauseTold 44 = .ok (.bipush 8, 2) := by decide +kernel
theorem dX9_clauseTold_46 : decode cX9_clauseTold 46 = .ok (.if_icmp .ne 7, 3) := by decide +kernel
theorem dX9_clauseTold_49 : decode cX9_clauseTold 49 = .ok (.iconst 1, 1) := by decide +kernel
theorem dX9_clauseTold_50 : decode cX9_clauseTold 50 = .ok (.goto 4, 3) := by decide +kernel
theorem dX9_clauseTold_53 : decode cX9_clauseTold 53 = .ok (.iconst 0, 1) := by decide +kernel
theorem dX9_clauseTold_54 : decode cX9_clauseTold 54 = .ok (.invokevirtual 229, 3) := by decide +kernel
theorem dX9_clauseTold_57 : decode cX9_clauseTold 57 = .ok (.istore_n 3, 1) := by decide +kernel
theorem dX9_clauseTold_58 : decode cX9_clauseTold 58 = .ok (.aload_n 0, 1) := by decide +kernel
theorem dX9_clauseTold_59 : decode cX9_clauseTold 59 = .ok (.getfield 220, 3) := by decide +kernel
theorem dX9_clauseTold_62 : decode cX9_clauseTold 62 = .ok (.ifCond .ne 10, 3) := by decide +kernel
theorem dX9_clauseTold_65 : decode cX9_clauseTold 65 = .ok (.aload_n 0, 1) := by decide +kernel
theorem dX9_clauseTold_66 : decode cX9_clauseTold 66 = .ok (.getfield 60, 3) := by decide +kernel
theorem dX9_clauseTold_69 : decode cX9_clauseTold 69 = .ok (.iload_n 2, 1) := by decide +kernel
theorem dX9_clauseTold_70 : decode cX9_clauseTold 70 = .ok (.iload_n 3, 1) := by decide +kernel
theorem dX9_clauseTold_71 : decode cX9_clauseTold 71 = .ok (.iastore, 1) := by decide +kernel
theorem dX9_clauseTold_72 : decode cX9_clauseTold 72 = .ok (.iinc 2 1, 3) := by decide +kernel
theorem dX9_clauseTold_75 : decode cX9_clauseTold 75 = .ok (.goto (-56), 3) := by decide +kernel
theorem dX9_clauseTold_78 : decode cX9_clauseTold 78 = .ok (.aload_n 0, 1) := by decide +kernel
theorem dX9_clauseTold_79 : decode cX9_clauseTold 79 = .ok (.invokevirtual 261, 3) := by decide +kernel
theorem dX9_clauseTold_82 : decode cX9_clauseTold 82 = .ok (.aload_n 0, 1) := by decide +kernel
theorem dX9_clauseTold_83 : decode cX9_clauseTold 83 = .ok (.getfield 220, 3) := by decide +kernel
theorem dX9_clauseTold_86 : decode cX9_clauseTold 86 = .ok (.ifCond .eq 4, 3) := by decide +kernel
theorem dX9_clauseTold_89 : decode cX9_clauseTold 89 = .ok (.return_, 1) := by decide +kernel
theorem dX9_clauseTold_90 : decode cX9_clauseTold 90 = .ok (.aload_n 0, 1) := by decide +kernel
theorem dX9_clauseTold_91 : decode cX9_clauseTold 91 = .ok (.iconst 0, 1) := by decide +kernel
theorem dX9_clauseTold_92 : decode cX9_clauseTold 92 = .ok (.iload_n 2, 1) := by decide +kernel
theorem dX9_clauseTold_93 : decode cX9_clauseTold 93 = .ok (.invokevirtual 89, 3) := by decide +kernel
theorem dX9_clauseTold_96 : decode cX9_clauseTold 96 = .ok (.istore_n 3, 1) := by decide +kernel
theorem dX9_clauseTold_97 : decode cX9_clauseTold 97 = .ok (.iconst 0, 1) := by decide +kernel
theorem dX9_clauseTold_98 : decode cX9_clauseTold 98 = .ok (.istore 4, 2) := by decide +kernel
theorem dX9_clauseTold_100 : decode cX9_clauseTold 100 = .ok (.iload 4, 2) := by decide +kernel
theorem dX9_clauseTold_102 : decode cX9_clauseTold 102 = .ok (.iload_n 2, 1) := by decide +kernel
theorem dX9_clauseTold_103 : decode cX9_clauseTold 103 = .ok (.if_icmp .ge 32, 3) := by decide +kernel
theorem dX9_clauseTold_106 : decode cX9_clauseTold 106 = .ok (.aload_n 0, 1) := by decide +kernel
theorem dX9_clauseTold_107 : decode cX9_clauseTold 107 = .ok (.getfield 7, 3) := by decide +kernel
theorem dX9_clauseTold_110 : decode cX9_clauseTold 110 = .ok (.sipush 1326, 3) := by decide +kernel
theorem dX9_clauseTold_113 : decode cX9_clauseTold 113 = .ok (.bipush 30, 2) := by decide +kernel
theorem dX9_clauseTold_115 : decode cX9_clauseTold 115 = .ok (.iload_n 3, 1) := by decide +kernel
theorem dX9_clauseTold_116 : decode cX9_clauseTold 116 = .ok (.imul, 1) := by decide +kernel
theorem dX9_clauseTold_117 : decode cX9_clauseTold 117 = .ok (.iadd, 1) := by decide +kernel
theorem dX9_clauseTold_118 : decode cX9_clauseTold 118 = .ok (.iload 4, 2) := by decide +kernel
theorem dX9_clauseTold_120 : decode cX9_clauseTold 120 = .ok (.iadd, 1) := by decide +kernel
theorem dX9_clauseTold_121 : decode cX9_clauseTold 121 = .ok (.aload_n 0, 1) := by decide +kernel
theorem dX9_clauseTold_122 : decode cX9_clauseTold 122 = .ok (.getfield 60, 3) := by decide +kernel
theorem dX9_clauseTold_125 : decode cX9_clauseTold 125 = .ok (.iload 4, 2) := by decide +kernel
theorem dX9_clauseTold_127 : decode cX9_clauseTold 127 = .ok (.iaload, 1) := by decide +kernel
theorem dX9_clauseTold_128 : decode cX9_clauseTold 128 = .ok (.iastore, 1) := by decide +kernel
theorem dX9_clauseTold_129 : decode cX9_clauseTold 129 = .ok (.iinc 4 1, 3) := by decide +kernel
theorem dX9_clauseTold_132 : decode cX9_clauseTold 132 = .ok (.goto (-32), 3) := by decide +kernel
theorem dX9_clauseTold_135 : decode cX9_clauseTold 135 = .ok (.return_, 1) := by decide +kernel
theorem dX9_assumeTold_0 : decode cX9_assumeTold 0 = .ok (.aload_n 0, 1) := by decide +kernel
theorem dX9_assumeTold_1 : decode cX9_assumeTold 1 = .ok (.invokevirtual 226, 3) := by decide +kernel
theorem dX9_assumeTold_4 : decode cX9_assumeTold 4 = .ok (.iconst 0, 1) := by decide +kernel
theorem dX9_assumeTold_5 : decode cX9_assumeTold 5 = .ok (.istore_n 1, 1) := by decide +kernel
theorem dX9_assumeTold_6 : decode cX9_assumeTold 6 = .ok (.aload_n 0, 1) := by decide +kernel
theorem dX9_assumeTold_7 : decode cX9_assumeTold 7 = .ok (.getfield 220, 3) := by decide +kernel
theorem dX9_assumeTold_10 : decode cX9_assumeTold 10 = .ok (.ifCond .ne 47, 3) := by decide +kernel
theorem dX9_assumeTold_13 : decode cX9_assumeTold 13 = .ok (.aload_n 0, 1) := by decide +kernel
theorem dX9_assumeTold_14 : decode cX9_assumeTold 14 = .ok (.invokevirtual 258, 3) := by decide +kernel
theorem dX9_assumeTold_17 : decode cX9_assumeTold 17 = .ok (.ifCond .eq 40, 3) := by decide +kernel
theorem dX9_assumeTold_20 : decode cX9_assumeTold 20 = .ok (.aload_n 0, 1) := by decide +kernel
theorem dX9_assumeTold_21 : decode cX9_assumeTold 21 = .ok (.iconst 1, 1) := by decide +kernel
theorem dX9_assumeTold_22 : decode cX9_assumeTold 22 = .ok (.iload_n 1, 1) := by decide +kernel
theorem dX9_assumeTold_23 : decode cX9_assumeTold 23 = .ok (.bipush 8, 2) := by decide +kernel
theorem dX9_assumeTold_25 : decode cX9_assumeTold 25 = .ok (.if_icmp .ne 7, 3) := by decide +kernel
theorem dX9_assumeTold_28 : decode cX9_assumeTold 28 = .ok (.iconst 1, 1) := by decide +kernel
theorem dX9_assumeTold_29 : decode cX9_assumeTold 29 = .ok (.goto 4, 3) := by decide +kernel
theorem dX9_assumeTold_32 : decode cX9_assumeTold 32 = .ok (.iconst 0, 1) := by decide +kernel
theorem dX9_assumeTold_33 : decode cX9_assumeTold 33 = .ok (.invokevirtual 229, 3) := by decide +kernel
theorem dX9_assumeTold_36 : decode cX9_assumeTold 36 = .ok (.istore_n 2, 1) := by decide +kernel
theorem dX9_assumeTold_37 : decode cX9_assumeTold 37 = .ok (.aload_n 0, 1) := by decide +kernel
theorem dX9_assumeTold_38 : decode cX9_assumeTold 38 = .ok (.getfield 220, 3) := by decide +kernel
theorem dX9_assumeTold_41 : decode cX9_assumeTold 41 = .ok (.ifCond .ne 10, 3) := by decide +kernel
theorem dX9_assumeTold_44 : decode cX9_assumeTold 44 = .ok (.aload_n 0, 1) := by decide +kernel
theorem dX9_assumeTold_45 : decode cX9_assumeTold 45 = .ok (.getfield 60, 3) := by decide +kernel
theorem dX9_assumeTold_48 : decode cX9_assumeTold 48 = .ok (.iload_n 1, 1) := by decide +kernel
theorem dX9_assumeTold_49 : decode cX9_assumeTold 49 = .ok (.iload_n 2, 1) := by decide +kernel
theorem dX9_assumeTold_50 : decode cX9_assumeTold 50 = .ok (.iastore, 1) := by decide +kernel
theorem dX9_assumeTold_51 : decode cX9_assumeTold 51 = .ok (.iinc 1 1, 3) := by decide +kernel
theorem dX9_assumeTold_54 : decode cX9_assumeTold 54 = .ok (.goto (-48), 3) := by decide +kernel
theorem dX9_assumeTold_57 : decode cX9_assumeTold 57 = .ok (.aload_n 0, 1) := by decide +kernel
theorem dX9_assumeTold_58 : decode cX9_assumeTold 58 = .ok (.invokevirtual 261, 3) := by decide +kernel
theorem dX9_assumeTold_61 : decode cX9_assumeTold 61 = .ok (.aload_n 0, 1) := by decide +kernel
theorem dX9_assumeTold_62 : decode cX9_assumeTold 62 = .ok (.getfield 220, 3) := by decide +kernel
theorem dX9_assumeTold_65 : decode cX9_assumeTold 65 = .ok (.ifCond .eq 4, 3) := by decide +kernel
theorem dX9_assumeTold_68 : decode cX9_assumeTold 68 = .ok (.return_, 1) := by decide +kernel
theorem dX9_assumeTold_69 : decode cX9_assumeTold 69 = .ok (.aload_n 0, 1) := by decide +kernel
theorem dX9_assumeTold_70 : decode cX9_assumeTold 70 = .ok (.getfield 7, 3) := by decide +kernel
theorem dX9_assumeTold_73 : decode cX9_assumeTold 73 = .ok (.iconst 3, 1) := by decide +kernel
theorem dX9_assumeTold_74 : decode cX9_assumeTold 74 = .ok (.iload_n 1, 1) := by decide +kernel
theorem dX9_assumeTold_75 : decode cX9_assumeTold 75 = .ok (.iastore, 1) := by decide +kernel
theorem dX9_assumeTold_76 : decode cX9_assumeTold 76 = .ok (.iconst 0, 1) := by decide +kernel
theorem dX9_assumeTold_77 : decode cX9_assumeTold 77 = .ok (.istore_n 2, 1) := by decide +kernel
theorem dX9_assumeTold_78 : decode cX9_assumeTold 78 = .ok (.iload_n 2, 1) := by decide +kernel
theorem dX9_assumeTold_79 : decode cX9_assumeTold 79 = .ok (.iload_n 1, 1) := by decide +kernel
theorem dX9_assumeTold_80 : decode cX9_assumeTold 80 = .ok (.if_icmp .ge 24, 3) := by decide +kernel
theorem dX9_assumeTold_83 : decode cX9_assumeTold 83 = .ok (.aload_n 0, 1) := by decide +kernel
theorem dX9_assumeTold_84 : decode cX9_assumeTold 84 = .ok (.getfield 7, 3) := by decide +kernel
theorem dX9_assumeTold_87 : decode cX9_assumeTold 87 = .ok (.bipush 16, 2) := by decide +kernel
theorem dX9_assumeTold_89 : decode cX9_assumeTold 89 = .ok (.iload_n 2, 1) := by decide +kernel
theorem dX9_assumeTold_90 : decode cX9_assumeTold 90 = .ok (.iadd, 1) := by decide +kernel
theorem dX9_assumeTold_91 : decode cX9_assumeTold 91 = .ok (.aload_n 0, 1) := by decide +kernel
theorem dX9_assumeTold_92 : decode cX9_assumeTold 92 = .ok (.getfield 60, 3) := by decide +kernel
theorem dX9_assumeTold_95 : decode cX9_assumeTold 95 = .ok (.iload_n 2, 1) := by decide +kernel
theorem dX9_assumeTold_96 : decode cX9_assumeTold 96 = .ok (.iaload, 1) := by decide +kernel
theorem dX9_assumeTold_97 : decode cX9_assumeTold 97 = .ok (.iastore, 1) := by decide +kernel
theorem dX9_assumeTold_98 : decode cX9_assumeTold 98 = .ok (.iinc 2 1, 3) := by decide +kernel
theorem dX9_assumeTold_101 : decode cX9_assumeTold 101 = .ok (.goto (-23), 3) := by decide +kernel
theorem dX9_assumeTold_104 : decode cX9_assumeTold 104 = .ok (.return_, 1) := by decide +kernel
theorem dX9_phaseTold_0 : decode cX9_phaseTold 0 = .ok (.iconst 1, 1) := by decide +kernel
theorem dX9_phaseTold_1 : decode cX9_phaseTold 1 = .ok (.istore_n 1, 1) := by decide +kernel
theorem dX9_phaseTold_2 : decode cX9_phaseTold 2 = .ok (.aload_n 0, 1) := by decide +kernel
theorem dX9_phaseTold_3 : decode cX9_phaseTold 3 = .ok (.getfield 220, 3) := by decide +kernel
theorem dX9_phaseTold_6 : decode cX9_phaseTold 6 = .ok (.ifCond .ne 54, 3) := by decide +kernel
theorem dX9_phaseTold_9 : decode cX9_phaseTold 9 = .ok (.iload_n 1, 1) := by decide +kernel
theorem dX9_phaseTold_10 : decode cX9_phaseTold 10 = .ok (.ifCond .ne 10, 3) := by decide +kernel
theorem dX9_phaseTold_13 : decode cX9_phaseTold 13 = .ok (.aload_n 0, 1) := by decide +kernel
theorem dX9_phaseTold_14 : decode cX9_phaseTold 14 = .ok (.invokevirtual 258, 3) := by decide +kernel
theorem dX9_phaseTold_17 : decode cX9_phaseTold 17 = .ok (.ifCond .eq 43, 3) := by decide +kernel
theorem dX9_phaseTold_20 : decode cX9_phaseTold 20 = .ok (.aload_n 0, 1) := by decide +kernel
theorem dX9_phaseTold_21 : decode cX9_phaseTold 21 = .ok (.iconst 0, 1) := by decide +kernel
theorem dX9_phaseTold_22 : decode cX9_phaseTold 22 = .ok (.iconst 0, 1) := by decide +kernel
theorem dX9_phaseTold_23 : decode cX9_phaseTold 23 = .ok (.invokevirtual 229, 3) := by decide +kernel
theorem dX9_phaseTold_26 : decode cX9_phaseTold 26 = .ok (.istore_n 2, 1) := by decide +kernel
theorem dX9_phaseTold_27 : decode cX9_phaseTold 27 = .ok (.aload_n 0, 1) := by decide +kernel
theorem dX9_phaseTold_28 : decode cX9_phaseTold 28 = .ok (.getfield 220, 3) := by decide +kernel
theorem dX9_phaseTold_31 : decode cX9_phaseTold 31 = .ok (.ifCond .ne 24, 3) := by decide +kernel
theorem dX9_phaseTold_34 : decode cX9_phaseTold 34 = .ok (.aload_n 0, 1) := by decide +kernel
theorem dX9_phaseTold_35 : decode cX9_phaseTold 35 = .ok (.getfield 7, 3) := by decide +kernel
theorem dX9_phaseTold_38 : decode cX9_phaseTold 38 = .ok (.bipush 32, 2) := by decide +kernel
theorem dX9_phaseTold_40 : decode cX9_phaseTold 40 = .ok (.iload_n 2, 1) := by decide +kernel
theorem dX9_phaseTold_41 : decode cX9_phaseTold 41 = .ok (.invokestatic 71, 3) := by decide +kernel
theorem dX9_phaseTold_44 : decode cX9_phaseTold 44 = .ok (.iadd, 1) := by decide +kernel
theorem dX9_phaseTold_45 : decode cX9_phaseTold 45 = .ok (.iload_n 2, 1) := by decide +kernel
theorem dX9_phaseTold_46 : decode cX9_phaseTold 46 = .ok (.ifCond .le 7, 3) := by decide +kernel
theorem dX9_phaseTold_49 : decode cX9_phaseTold 49 = .ok (.iconst 1, 1) := by decide +kernel
theorem dX9_phaseTold_50 : decode cX9_phaseTold 50 = .ok (.goto 4, 3) := by decide +kernel
theorem dX9_phaseTold_53 : decode cX9_phaseTold 53 = .ok (.iconst 0, 1) := by decide +kernel
theorem dX9_phaseTold_54 : decode cX9_phaseTold 54 = .ok (.iastore, 1) := by decide +kernel
theorem dX9_phaseTold_55 : decode cX9_phaseTold 55 = .ok (.iconst 0, 1) := by decide +kernel
theorem dX9_phaseTold_56 : decode cX9_phaseTold 56 = .ok (.istore_n 1, 1) := by decide +kernel
theorem dX9_phaseTold_57 : decode cX9_phaseTold 57 = .ok (.goto (-55), 3) := by decide +kernel
theorem dX9_phaseTold_60 : decode cX9_phaseTold 60 = .ok (.aload_n 0, 1) := by decide +kernel
theorem dX9_phaseTold_61 : decode cX9_phaseTold 61 = .ok (.invokevirtual 261, 3) := by decide +kernel
theorem dX9_phaseTold_64 : decode cX9_phaseTold 64 = .ok (.return_, 1) := by decide +kernel
theorem dX9_growTold_0 : decode cX9_growTold 0 = .ok (.aload_n 0, 1) := by decide +kernel
theorem dX9_growTold_1 : decode cX9_growTold 1 = .ok (.invokevirtual 223, 3) := by decide +kernel
theorem dX9_growTold_4 : decode cX9_growTold 4 = .ok (.pop, 1) := by decide +kernel
theorem dX9_growTold_5 : decode cX9_growTold 5 = .ok (.aload_n 0, 1) := by decide +kernel
theorem dX9_growTold_6 : decode cX9_growTold 6 = .ok (.getfield 233, 3) := by decide +kernel
theorem dX9_growTold_9 : decode cX9_growTold 9 = .ok (.istore_n 1, 1) := by decide +kernel
theorem dX9_growTold_10 : decode cX9_growTold 10 = .ok (.aload_n 0, 1) := by decide +kernel
theorem dX9_growTold_11 : decode cX9_growTold 11 = .ok (.invokevirtual 251, 3) := by decide +kernel
theorem dX9_growTold_14 : decode cX9_growTold 14 = .ok (.istore_n 2, 1) := by decide +kernel
theorem dX9_growTold_15 : decode cX9_growTold 15 = .ok (.aload_n 0, 1) := by decide +kernel
theorem dX9_growTold_16 : decode cX9_growTold 16 = .ok (.getfield 220, 3) := by decide +kernel
theorem dX9_growTold_19 : decode cX9_growTold 19 = .ok (.ifCond .ne 18, 3) := by decide +kernel
theorem dX9_growTold_22 : decode cX9_growTold 22 = .ok (.aload_n 0, 1) := by decide +kernel
theorem dX9_growTold_23 : decode cX9_growTold 23 = .ok (.iload_n 2, 1) := by decide +kernel
theorem dX9_growTold_24 : decode cX9_growTold 24 = .ok (.invokevirtual 79, 3) := by decide +kernel
theorem dX9_growTold_27 : decode cX9_growTold 27 = .ok (.iconst (-1), 1) := by decide +kernel
theorem dX9_growTold_28 : decode cX9_growTold 28 = .ok (.if_icmp .ne 9, 3) := by decide +kernel
theorem dX9_growTold_31 : decode cX9_growTold 31 = .ok (.aload_n 0, 1) := by decide +kernel
theorem dX9_growTold_32 : decode cX9_growTold 32 = .ok (.iconst 2, 1) := by decide +kernel
theorem dX9_growTold_33 : decode cX9_growTold 33 = .ok (.iload_n 1, 1) := by decide +kernel
theorem dX9_growTold_34 : decode cX9_growTold 34 = .ok (.invokevirtual 248, 3) := by decide +kernel
theorem dX9_growTold_37 : decode cX9_growTold 37 = .ok (.aload_n 0, 1) := by decide +kernel
theorem dX9_growTold_38 : decode cX9_growTold 38 = .ok (.invokevirtual 261, 3) := by decide +kernel
theorem dX9_growTold_41 : decode cX9_growTold 41 = .ok (.return_, 1) := by decide +kernel
theorem dX9_statement_0 : decode cX9_statement 0 = .ok (.aload_n 0, 1) := by decide +kernel
theorem dX9_statement_1 : decode cX9_statement 1 = .ok (.invokevirtual 258, 3) := by decide +kernel
theorem dX9_statement_4 : decode cX9_statement 4 = .ok (.ifCond .eq 8, 3) := by decide +kernel
theorem dX9_statement_7 : decode cX9_statement 7 = .ok (.aload_n 0, 1) := by decide +kernel
theorem dX9_statement_8 : decode cX9_statement 8 = .ok (.invokevirtual 264, 3) := by decide +kernel
theorem dX9_statement_11 : decode cX9_statement 11 = .ok (.return_, 1) := by decide +kernel
theorem dX9_statement_12 : decode cX9_statement 12 = .ok (.aload_n 0, 1) := by decide +kernel
theorem dX9_statement_13 : decode cX9_statement 13 = .ok (.getfield 233, 3) := by decide +kernel
theorem dX9_statement_16 : decode cX9_statement 16 = .ok (.istore_n 1, 1) := by decide +kernel
theorem dX9_statement_17 : decode cX9_statement 17 = .ok (.aload_n 0, 1) := by decide +kernel
theorem dX9_statement_18 : decode cX9_statement 18 = .ok (.invokevirtual 267, 3) := by decide +kernel
theorem dX9_statement_21 : decode cX9_statement 21 = .ok (.lstore_n 2, 1) := by decide +kernel
theorem dX9_statement_22 : decode cX9_statement 22 = .ok (.lload_n 2, 1) := by decide +kernel
theorem dX9_statement_23 : decode cX9_statement 23 = .ok (.ldc2_w 271, 3) := by decide +kernel
theorem dX9_statement_26 : decode cX9_statement 26 = .ok (.lcmp, 1) := by decide +kernel
theorem dX9_statement_27 : decode cX9_statement 27 = .ok (.ifCond .ne 10, 3) := by decide +kernel
theorem dX9_statement_30 : decode cX9_statement 30 = .ok (.aload_n 0, 1) := by decide +kernel
theorem dX9_statement_31 : decode cX9_statement 31 = .ok (.invokevirtual 273, 3) := by decide +kernel
theorem dX9_statement_34 : decode cX9_statement 34 = .ok (.goto 39, 3) := by decide +kernel
theorem dX9_statement_37 : decode cX9_statement 37 = .ok (.lload_n 2, 1) := by decide +kernel
theorem dX9_statement_38 : decode cX9_statement 38 = .ok (.ldc2_w 276, 3) := by decide +kernel
theorem dX9_statement_41 : decode cX9_statement 41 = .ok (.lcmp, 1) := by decide +kernel
theorem dX9_statement_42 : decode cX9_statement 42 = .ok (.ifCond .ne 10, 3) := by decide +kernel
theorem dX9_statement_45 : decode cX9_statement 45 = .ok (.aload_n 0, 1) := by decide +kernel
theorem dX9_statement_46 : decode cX9_statement 46 = .ok (.invokevirtual 278, 3) := by decide +kernel
theorem dX9_statement_49 : decode cX9_statement 49 = .ok (.goto 24, 3) := by decide +kernel
theorem dX9_statement_52 : decode cX9_statement 52 = .ok (.lload_n 2, 1) := by decide +kernel
theorem dX9_statement_53 : decode cX9_statement 53 = .ok (.ldc2_w 281, 3) := by decide +kernel
theorem dX9_statement_56 : decode cX9_statement 56 = .ok (.lcmp, 1) := by decide +kernel
theorem dX9_statement_57 : decode cX9_statement 57 = .ok (.ifCond .ne 10, 3) := by decide +kernel
theorem dX9_statement_60 : decode cX9_statement 60 = .ok (.aload_n 0, 1) := by decide +kernel
theorem dX9_statement_61 : decode cX9_statement 61 = .ok (.invokevirtual 283, 3) := by decide +kernel
theorem dX9_statement_64 : decode cX9_statement 64 = .ok (.goto 9, 3) := by decide +kernel
theorem dX9_statement_67 : decode cX9_statement 67 = .ok (.aload_n 0, 1) := by decide +kernel
theorem dX9_statement_68 : decode cX9_statement 68 = .ok (.iconst 1, 1) := by decide +kernel
theorem dX9_statement_69 : decode cX9_statement 69 = .ok (.iload_n 1, 1) := by decide +kernel
theorem dX9_statement_70 : decode cX9_statement 70 = .ok (.invokevirtual 248, 3) := by decide +kernel
theorem dX9_statement_73 : decode cX9_statement 73 = .ok (.return_, 1) := by decide +kernel
theorem dX9_tell_0 : decode cX9_tell 0 = .ok (.aload_n 0, 1) := by decide +kernel
theorem dX9_tell_1 : decode cX9_tell 1 = .ok (.iconst 0, 1) := by decide +kernel
theorem dX9_tell_2 : decode cX9_tell 2 = .ok (.putfield 63, 3) := by decide +kernel
theorem dX9_tell_5 : decode cX9_tell 5 = .ok (.aload_n 0, 1) := by decide +kernel
theorem dX9_tell_6 : decode cX9_tell 6 = .ok (.invokevirtual 214, 3) := by decide +kernel
theorem dX9_tell_9 : decode cX9_tell 9 = .ok (.iconst 0, 1) := by decide +kernel
theorem dX9_tell_10 : decode cX9_tell 10 = .ok (.istore_n 1, 1) := by decide +kernel
theorem dX9_tell_11 : decode cX9_tell 11 = .ok (.iload_n 1, 1) := by decide +kernel
theorem dX9_tell_12 : decode cX9_tell 12 = .ok (.sipush 13326, 3) := by decide +kernel
theorem dX9_tell_15 : decode cX9_tell 15 = .ok (.if_icmp .ge 21, 3) := by decide +kernel
theorem dX9_tell_18 : decode cX9_tell 18 = .ok (.aload_n 0, 1) := by decide +kernel
theorem dX9_tell_19 : decode cX9_tell 19 = .ok (.getfield 13, 3) := by decide +kernel
theorem dX9_tell_22 : decode cX9_tell 22 = .ok (.iload_n 1, 1) := by decide +kernel
theorem dX9_tell_23 : decode cX9_tell 23 = .ok (.aload_n 0, 1) := by decide +kernel
theorem dX9_tell_24 : decode cX9_tell 24 = .ok (.getfield 7, 3) := by decide +kernel
theorem dX9_tell_27 : decode cX9_tell 27 = .ok (.iload_n 1, 1) := by decide +kernel
theorem dX9_tell_28 : decode cX9_tell 28 = .ok (.iaload, 1) := by decide +kernel
theorem dX9_tell_29 : decode cX9_tell 29 = .ok (.iastore, 1) := by decide +kernel
theorem dX9_tell_30 : decode cX9_tell 30 = .ok (.iinc 1 1, 3) := by decide +kernel
theorem dX9_tell_33 : decode cX9_tell 33 = .ok (.goto (-22), 3) := by decide +kernel
theorem dX9_tell_36 : decode cX9_tell 36 = .ok (.iconst 0, 1) := by decide +kernel
theorem dX9_tell_37 : decode cX9_tell 37 = .ok (.istore_n 1, 1) := by decide +kernel
theorem dX9_tell_38 : decode cX9_tell 38 = .ok (.aload_n 0, 1) := by decide +kernel
theorem dX9_tell_39 : decode cX9_tell 39 = .ok (.getfield 220, 3) := by decide +kernel
theorem dX9_tell_42 : decode cX9_tell 42 = .ok (.ifCond .ne 21, 3) := by decide +kernel
theorem dX9_tell_45 : decode cX9_tell 45 = .ok (.aload_n 0, 1) := by decide +kernel
theorem dX9_tell_46 : decode cX9_tell 46 = .ok (.invokevirtual 223, 3) := by decide +kernel
theorem dX9_tell_49 : decode cX9_tell 49 = .ok (.iconst (-1), 1) := by decide +kernel
theorem dX9_tell_50 : decode cX9_tell 50 = .ok (.if_icmp .eq 13, 3) := by decide +kernel
theorem dX9_tell_53 : decode cX9_tell 53 = .ok (.aload_n 0, 1) := by decide +kernel
theorem dX9_tell_54 : decode cX9_tell 54 = .ok (.invokevirtual 286, 3) := by decide +kernel
theorem dX9_tell_57 : decode cX9_tell 57 = .ok (.iinc 1 1, 3) := by decide +kernel
theorem dX9_tell_60 : decode cX9_tell 60 = .ok (.goto (-22), 3) := by decide +kernel
theorem dX9_tell_63 : decode cX9_tell 63 = .ok (.aload_n 0, 1) := by decide +kernel
theorem dX9_tell_64 : decode cX9_tell 64 = .ok (.getfield 220, 3) := by decide +kernel
theorem dX9_tell_67 : decode cX9_tell 67 = .ok (.ifCond .ne 5, 3) := by decide +kernel
theorem dX9_tell_70 : decode cX9_tell 70 = .ok (.iload_n 1, 1) := by decide +kernel
theorem dX9_tell_71 : decode cX9_tell 71 = .ok (.ireturn, 1) := by decide +kernel
theorem dX9_tell_72 : decode cX9_tell 72 = .ok (.iconst 0, 1) := by decide +kernel
theorem dX9_tell_73 : decode cX9_tell 73 = .ok (.istore_n 2, 1) := by decide +kernel
theorem dX9_tell_74 : decode cX9_tell 74 = .ok (.iload_n 2, 1) := by decide +kernel
theorem dX9_tell_75 : decode cX9_tell 75 = .ok (.sipush 13326, 3) := by decide +kernel
theorem dX9_tell_78 : decode cX9_tell 78 = .ok (.if_icmp .ge 21, 3) := by decide +kernel
theorem dX9_tell_81 : decode cX9_tell 81 = .ok (.aload_n 0, 1) := by decide +kernel
theorem dX9_tell_82 : decode cX9_tell 82 = .ok (.getfield 7, 3) := by decide +kernel
theorem dX9_tell_85 : decode cX9_tell 85 = .ok (.iload_n 2, 1) := by decide +kernel
theorem dX9_tell_86 : decode cX9_tell 86 = .ok (.aload_n 0, 1) := by decide +kernel
theorem dX9_tell_87 : decode cX9_tell 87 = .ok (.getfield 13, 3) := by decide +kernel
theorem dX9_tell_90 : decode cX9_tell 90 = .ok (.iload_n 2, 1) := by decide +kernel
theorem dX9_tell_91 : decode cX9_tell 91 = .ok (.iaload, 1) := by decide +kernel
theorem dX9_tell_92 : decode cX9_tell 92 = .ok (.iastore, 1) := by decide +kernel
theorem dX9_tell_93 : decode cX9_tell 93 = .ok (.iinc 2 1, 3) := by decide +kernel
theorem dX9_tell_96 : decode cX9_tell 96 = .ok (.goto (-22), 3) := by decide +kernel
theorem dX9_tell_99 : decode cX9_tell 99 = .ok (.iconst (-1), 1) := by decide +kernel
theorem dX9_tell_100 : decode cX9_tell 100 = .ok (.ireturn, 1) := by decide +kernel
theorem dX9_fault_0 : decode cX9_fault 0 = .ok (.aload_n 0, 1) := by decide +kernel
theorem dX9_fault_1 : decode cX9_fault 1 = .ok (.iconst 0, 1) := by decide +kernel
theorem dX9_fault_2 : decode cX9_fault 2 = .ok (.putfield 63, 3) := by decide +kernel
theorem dX9_fault_5 : decode cX9_fault 5 = .ok (.aload_n 0, 1) := by decide +kernel
theorem dX9_fault_6 : decode cX9_fault 6 = .ok (.getfield 220, 3) := by decide +kernel
theorem dX9_fault_9 : decode cX9_fault 9 = .ok (.ireturn, 1) := by decide +kernel
