theorem dX8_init_0 : decode cX8_init 0 = .ok (.aload_n 0, 1) := by decide +kernel
theorem dX8_init_1 : decode cX8_init 1 = .ok (.invokespecial 1, 3) := by decide +kernel
theorem dX8_init_4 : decode cX8_init 4 = .ok (.aload_n 0, 1) := by decide +kernel
theorem dX8_init_5 : decode cX8_init 5 = .ok (.bipush 8, 2) := by decide +kernel
theorem dX8_init_7 : decode cX8_init 7 = .ok (.putfield 7, 3) := by decide +kernel
theorem dX8_init_10 : decode cX8_init 10 = .ok (.aload_n 0, 1) := by decide +kernel
theorem dX8_init_11 : decode cX8_init 11 = .ok (.bipush 8, 2) := by decide +kernel
theorem dX8_init_13 : decode cX8_init 13 = .ok (.newarray .int, 2) := by decide +kernel
theorem dX8_init_15 : decode cX8_init 15 = .ok (.putfield 13, 3) := by decide +kernel
theorem dX8_init_18 : decode cX8_init 18 = .ok (.aload_n 0, 1) := by decide +kernel
theorem dX8_init_19 : decode cX8_init 19 = .ok (.bipush 8, 2) := by decide +kernel
theorem dX8_init_21 : decode cX8_init 21 = .ok (.newarray .int, 2) := by decide +kernel
theorem dX8_init_23 : decode cX8_init 23 = .ok (.putfield 17, 3) := by decide +kernel
theorem dX8_init_26 : decode cX8_init 26 = .ok (.aload_n 0, 1) := by decide +kernel
theorem dX8_init_27 : decode cX8_init 27 = .ok (.bipush 8, 2) := by decide +kernel
theorem dX8_init_29 : decode cX8_init 29 = .ok (.newarray .int, 2) := by decide +kernel
theorem dX8_init_31 : decode cX8_init 31 = .ok (.putfield 20, 3) := by decide +kernel
theorem dX8_init_34 : decode cX8_init 34 = .ok (.aload_n 0, 1) := by decide +kernel
theorem dX8_init_35 : decode cX8_init 35 = .ok (.bipush 8, 2) := by decide +kernel
theorem dX8_init_37 : decode cX8_init 37 = .ok (.newarray .int, 2) := by decide +kernel
theorem dX8_init_39 : decode cX8_init 39 = .ok (.putfield 23, 3) := by decide +kernel
theorem dX8_init_42 : decode cX8_init 42 = .ok (.aload_n 0, 1) := by decide +kernel
theorem dX8_init_43 : decode cX8_init 43 = .ok (.bipush 7, 2) := by decide +kernel
theorem dX8_init_45 : decode cX8_init 45 = .ok (.newarray .int, 2) := by decide +kernel
theorem dX8_init_47 : decode cX8_init 47 = .ok (.putfield 26, 3) := by decide +kernel
theorem dX8_init_50 : decode cX8_init 50 = .ok (.aload_n 0, 1) := by decide +kernel
theorem dX8_init_51 : decode cX8_init 51 = .ok (.iconst 4, 1) := by decide +kernel
theorem dX8_init_52 : decode cX8_init 52 = .ok (.newarray .int, 2) := by decide +kernel
theorem dX8_init_54 : decode cX8_init 54 = .ok (.putfield 29, 3) := by decide +kernel
theorem dX8_init_57 : decode cX8_init 57 = .ok (.aload_n 0, 1) := by decide +kernel
theorem dX8_init_58 : decode cX8_init 58 = .ok (.iconst 1, 1) := by decide +kernel
theorem dX8_init_59 : decode cX8_init 59 = .ok (.putfield 32, 3) := by decide +kernel
theorem dX8_init_62 : decode cX8_init 62 = .ok (.aload_n 0, 1) := by decide +kernel
theorem dX8_init_63 : decode cX8_init 63 = .ok (.bipush 8, 2) := by decide +kernel
theorem dX8_init_65 : decode cX8_init 65 = .ok (.newarray .int, 2) := by decide +kernel
theorem dX8_init_67 : decode cX8_init 67 = .ok (.putfield 35, 3) := by decide +kernel
theorem dX8_init_70 : decode cX8_init 70 = .ok (.aload_n 0, 1) := by decide +kernel
theorem dX8_init_71 : decode cX8_init 71 = .ok (.sipush 4096, 3) := by decide +kernel
theorem dX8_init_74 : decode cX8_init 74 = .ok (.newarray .int, 2) := by decide +kernel
theorem dX8_init_76 : decode cX8_init 76 = .ok (.putfield 38, 3) := by decide +kernel
theorem dX8_init_79 : decode cX8_init 79 = .ok (.aload_n 0, 1) := by decide +kernel
theorem dX8_init_80 : decode cX8_init 80 = .ok (.sipush 4096, 3) := by decide +kernel
theorem dX8_init_83 : decode cX8_init 83 = .ok (.newarray .int, 2) := by decide +kernel
theorem dX8_init_85 : decode cX8_init 85 = .ok (.putfield 41, 3) := by decide +kernel
theorem dX8_init_88 : decode cX8_init 88 = .ok (.aload_n 0, 1) := by decide +kernel
theorem dX8_init_89 : decode cX8_init 89 = .ok (.sipush 4096, 3) := by decide +kernel
theorem dX8_init_92 : decode cX8_init 92 = .ok (.newarray .long, 2) := by decide +kernel
theorem dX8_init_94 : decode cX8_init 94 = .ok (.putfield 44, 3) := by decide +kernel
theorem dX8_init_97 : decode cX8_init 97 = .ok (.aload_n 0, 1) := by decide +kernel
theorem dX8_init_98 : decode cX8_init 98 = .ok (.bipush 8, 2) := by decide +kernel
theorem dX8_init_100 : decode cX8_init 100 = .ok (.newarray .int, 2) := by decide +kernel
theorem dX8_init_102 : decode cX8_init 102 = .ok (.putfield 48, 3) := by decide +kernel
theorem dX8_init_105 : decode cX8_init 105 = .ok (.aload_n 0, 1) := by decide +kernel
theorem dX8_init_106 : decode cX8_init 106 = .ok (.sipush 4096, 3) := by decide +kernel
theorem dX8_init_109 : decode cX8_init 109 = .ok (.newarray .boolean, 2) := by decide +kernel
theorem dX8_init_111 : decode cX8_init 111 = .ok (.putfield 51, 3) := by decide +kernel
theorem dX8_init_114 : decode cX8_init 114 = .ok (.aload_n 0, 1) := by decide +kernel
theorem dX8_init_115 : decode cX8_init 115 = .ok (.getfield 26, 3) := by decide +kernel
theorem dX8_init_118 : decode cX8_init 118 = .ok (.iconst 1, 1) := by decide +kernel
theorem dX8_init_119 : decode cX8_init 119 = .ok (.iconst 3, 1) := by decide +kernel
theorem dX8_init_120 : decode cX8_init 120 = .ok (.iastore, 1) := by decide +kernel
theorem dX8_init_121 : decode cX8_init 121 = .ok (.aload_n 0, 1) := by decide +kernel
theorem dX8_init_122 : decode cX8_init 122 = .ok (.getfield 26, 3) := by decide +kernel
theorem dX8_init_125 : decode cX8_init 125 = .ok (.iconst 2, 1) := by decide +kernel
theorem dX8_init_126 : decode cX8_init 126 = .ok (.iconst 2, 1) := by decide +kernel
theorem dX8_init_127 : decode cX8_init 127 = .ok (.iastore, 1) := by decide +kernel
theorem dX8_init_128 : decode cX8_init 128 = .ok (.aload_n 0, 1) := by decide +kernel
theorem dX8_init_129 : decode cX8_init 129 = .ok (.getfield 26, 3) := by decide +kernel
theorem dX8_init_132 : decode cX8_init 132 = .ok (.iconst 3, 1) := by decide +kernel
theorem dX8_init_133 : decode cX8_init 133 = .ok (.iconst 2, 1) := by decide +kernel
theorem dX8_init_134 : decode cX8_init 134 = .ok (.iastore, 1) := by decide +kernel
theorem dX8_init_135 : decode cX8_init 135 = .ok (.aload_n 0, 1) := by decide +kernel
theorem dX8_init_136 : decode cX8_init 136 = .ok (.getfield 26, 3) := by decide +kernel
theorem dX8_init_139 : decode cX8_init 139 = .ok (.iconst 4, 1) := by decide +kernel
theorem dX8_init_140 : decode cX8_init 140 = .ok (.iconst 0, 1) := by decide +kernel
theorem dX8_init_141 : decode cX8_init 141 = .ok (.iastore, 1) := by decide +kernel
theorem dX8_init_142 : decode cX8_init 142 = .ok (.aload_n 0, 1) := by decide +kernel
theorem dX8_init_143 : decode cX8_init 143 = .ok (.getfield 26, 3) := by decide +kernel
theorem dX8_init_146 : decode cX8_init 146 = .ok (.iconst 5, 1) := by decide +kernel
theorem dX8_init_147 : decode cX8_init 147 = .ok (.iconst 5, 1) := by decide +kernel
theorem dX8_init_148 : decode cX8_init 148 = .ok (.iastore, 1) := by decide +kernel
theorem dX8_init_149 : decode cX8_init 149 = .ok (.aload_n 0, 1) := by decide +kernel
theorem dX8_init_150 : decode cX8_init 150 = .ok (.getfield 26, 3) := by decide +kernel
theorem dX8_init_153 : decode cX8_init 153 = .ok (.bipush 6, 2) := by decide +kernel
theorem dX8_init_155 : decode cX8_init 155 = .ok (.bipush 6, 2) := by decide +kernel
theorem dX8_init_157 : decode cX8_init 157 = .ok (.iastore, 1) := by decide +kernel
theorem dX8_init_158 : decode cX8_init 158 = .ok (.iconst 0, 1) := by decide +kernel
theorem dX8_init_159 : decode cX8_init 159 = .ok (.istore_n 1, 1) := by decide +kernel
theorem dX8_init_160 : decode cX8_init 160 = .ok (.iload_n 1, 1) := by decide +kernel
theorem dX8_init_161 : decode cX8_init 161 = .ok (.iconst 4, 1) := by decide +kernel
theorem dX8_init_162 : decode cX8_init 162 = .ok (.if_icmp .ge 17, 3) := by decide +kernel
theorem dX8_init_165 : decode cX8_init 165 = .ok (.aload_n 0, 1) := by decide +kernel
theorem dX8_init_166 : decode cX8_init 166 = .ok (.getfield 29, 3) := by decide +kernel
theorem dX8_init_169 : decode cX8_init 169 = .ok (.iload_n 1, 1) := by decide +kernel
theorem dX8_init_170 : decode cX8_init 170 = .ok (.bipush 126, 2) := by decide +kernel
theorem dX8_init_172 : decode cX8_init 172 = .ok (.iastore, 1) := by decide +kernel
theorem dX8_init_173 : decode cX8_init 173 = .ok (.iinc 1 1, 3) := by decide +kernel
theorem dX8_init_176 : decode cX8_init 176 = .ok (.goto (-16), 3) := by decide +kernel
theorem dX8_init_179 : decode cX8_init 179 = .ok (.return_, 1) := by decide +kernel
theorem dX8_within_0 : decode cX8_within 0 = .ok (.iload_n 0, 1) := by decide +kernel
theorem dX8_within_1 : decode cX8_within 1 = .ok (.iload_n 1, 1) := by decide +kernel
theorem dX8_within_2 : decode cX8_within 2 = .ok (.if_icmp .lt 12, 3) := by decide +kernel
theorem dX8_within_5 : decode cX8_within 5 = .ok (.iload_n 0, 1) := by decide +kernel
theorem dX8_within_6 : decode cX8_within 6 = .ok (.iload_n 2, 1) := by decide +kernel
theorem dX8_within_7 : decode cX8_within 7 = .ok (.if_icmp .gt 7, 3) := by decide +kernel
theorem dX8_within_10 : decode cX8_within 10 = .ok (.iconst 1, 1) := by decide +kernel
theorem dX8_within_11 : decode cX8_within 11 = .ok (.goto 4, 3) := by decide +kernel
theorem dX8_within_14 : decode cX8_within 14 = .ok (.iconst 0, 1) := by decide +kernel
theorem dX8_within_15 : decode cX8_within 15 = .ok (.ireturn, 1) := by decide +kernel
theorem dX8_has_0 : decode cX8_has 0 = .ok (.iload_n 0, 1) := by decide +kernel
theorem dX8_has_1 : decode cX8_has 1 = .ok (.iload_n 1, 1) := by decide +kernel
theorem dX8_has_2 : decode cX8_has 2 = .ok (.ishr, 1) := by decide +kernel
theorem dX8_has_3 : decode cX8_has 3 = .ok (.iconst 1, 1) := by decide +kernel
theorem dX8_has_4 : decode cX8_has 4 = .ok (.iand, 1) := by decide +kernel
theorem dX8_has_5 : decode cX8_has 5 = .ok (.iconst 1, 1) := by decide +kernel
theorem dX8_has_6 : decode cX8_has 6 = .ok (.if_icmp .ne 7, 3) := by decide +kernel
theorem dX8_has_9 : decode cX8_has 9 = .ok (.iconst 1, 1) := by decide +kernel
theorem dX8_has_10 : decode cX8_has 10 = .ok (.goto 4, 3) := by decide +kernel
theorem dX8_has_13 : decode cX8_has 13 = .ok (.iconst 0, 1) := by decide +kernel
theorem dX8_has_14 : decode cX8_has 14 = .ok (.ireturn, 1) := by decide +kernel
theorem dX8_sizeOf_0 : decode cX8_sizeOf 0 = .ok (.iconst 0, 1) := by decide +kernel
theorem dX8_sizeOf_1 : decode cX8_sizeOf 1 = .ok (.istore_n 1, 1) := by decide +kernel
theorem dX8_sizeOf_2 : decode cX8_sizeOf 2 = .ok (.iload_n 0, 1) := by decide +kernel
theorem dX8_sizeOf_3 : decode cX8_sizeOf 3 = .ok (.istore_n 2, 1) := by decide +kernel
theorem dX8_sizeOf_4 : decode cX8_sizeOf 4 = .ok (.iload_n 2, 1) := by decide +kernel
theorem dX8_sizeOf_5 : decode cX8_sizeOf 5 = .ok (.ifCond .le 16, 3) := by decide +kernel
theorem dX8_sizeOf_8 : decode cX8_sizeOf 8 = .ok (.iload_n 1, 1) := by decide +kernel
theorem dX8_sizeOf_9 : decode cX8_sizeOf 9 = .ok (.iload_n 2, 1) := by decide +kernel
theorem dX8_sizeOf_10 : decode cX8_sizeOf 10 = .ok (.iconst 1, 1) := by decide +kernel
theorem dX8_sizeOf_11 : decode cX8_sizeOf 11 = .ok (.iand, 1) := by decide +kernel
theorem dX8_sizeOf_12 : decode cX8_sizeOf 12 = .ok (.iadd, 1) := by decide +kernel
theorem dX8_sizeOf_13 : decode cX8_sizeOf 13 = .ok (.istore_n 1, 1) := by decide +kernel
theorem dX8_sizeOf_14 : decode cX8_sizeOf 14 = .ok (.iload_n 2, 1) := by decide +kernel
theorem dX8_sizeOf_15 : decode cX8_sizeOf 15 = .ok (.iconst 1, 1) := by decide +kernel
theorem dX8_sizeOf_16 : decode cX8_sizeOf 16 = .ok (.ishr, 1) := by decide +kernel
theorem dX8_sizeOf_17 : decode cX8_sizeOf 17 = .ok (.istore_n 2, 1) := by decide +kernel
theorem dX8_sizeOf_18 : decode cX8_sizeOf 18 = .ok (.goto (-14), 3) := by decide +kernel
theorem dX8_sizeOf_21 : decode cX8_sizeOf 21 = .ok (.iload_n 1, 1) := by decide +kernel
theorem dX8_sizeOf_22 : decode cX8_sizeOf 22 = .ok (.ireturn, 1) := by decide +kernel
theorem dX8_isCourse_0 : decode cX8_isCourse 0 = .ok (.iload_n 1, 1) := by decide +kernel
theorem dX8_isCourse_1 : decode cX8_isCourse 1 = .ok (.iconst 0, 1) := by decide +kernel
theorem dX8_isCourse_2 : decode cX8_isCourse 2 = .ok (.aload_n 0, 1) := by decide +kernel
theorem dX8_isCourse_3 : decode cX8_isCourse 3 = .ok (.getfield 55, 3) := by decide +kernel
theorem dX8_isCourse_6 : decode cX8_isCourse 6 = .ok (.iconst 1, 1) := by decide +kernel
theorem dX8_isCourse_7 : decode cX8_isCourse 7 = .ok (.isub, 1) := by decide +kernel
theorem dX8_isCourse_8 : decode cX8_isCourse 8 = .ok (.invokestatic 58, 3) := by decide +kernel
theorem dX8_isCourse_11 : decode cX8_isCourse 11 = .ok (.ireturn, 1) := by decide +kernel
theorem dX8_arePlaces_0 : decode cX8_arePlaces 0 = .ok (.iload_n 1, 1) := by decide +kernel
theorem dX8_arePlaces_1 : decode cX8_arePlaces 1 = .ok (.iconst 0, 1) := by decide +kernel
theorem dX8_arePlaces_2 : decode cX8_arePlaces 2 = .ok (.iconst 1, 1) := by decide +kernel
theorem dX8_arePlaces_3 : decode cX8_arePlaces 3 = .ok (.aload_n 0, 1) := by decide +kernel
theorem dX8_arePlaces_4 : decode cX8_arePlaces 4 = .ok (.getfield 7, 3) := by decide +kernel
theorem dX8_arePlaces_7 : decode cX8_arePlaces 7 = .ok (.ishl, 1) := by decide +kernel
theorem dX8_arePlaces_8 : decode cX8_arePlaces 8 = .ok (.iconst 1, 1) := by decide +kernel
theorem dX8_arePlaces_9 : decode cX8_arePlaces 9 = .ok (.isub, 1) := by decide +kernel
theorem dX8_arePlaces_10 : decode cX8_arePlaces 10 = .ok (.invokestatic 58, 3) := by decide +kernel
theorem dX8_arePlaces_13 : decode cX8_arePlaces 13 = .ok (.ifCond .eq 13, 3) := by decide +kernel
theorem dX8_arePlaces_16 : decode cX8_arePlaces 16 = .ok (.iload_n 1, 1) := by decide +kernel
theorem dX8_arePlaces_17 : decode cX8_arePlaces 17 = .ok (.iconst 2, 1) := by decide +kernel
theorem dX8_arePlaces_18 : decode cX8_arePlaces 18 = .ok (.irem, 1) := by decide +kernel
theorem dX8_arePlaces_19 : decode cX8_arePlaces 19 = .ok (.ifCond .ne 7, 3) := by decide +kernel
theorem dX8_arePlaces_22 : decode cX8_arePlaces 22 = .ok (.iconst 1, 1) := by decide +kernel
theorem dX8_arePlaces_23 : decode cX8_arePlaces 23 = .ok (.goto 4, 3) := by decide +kernel
theorem dX8_arePlaces_26 : decode cX8_arePlaces 26 = .ok (.iconst 0, 1) := by decide +kernel
theorem dX8_arePlaces_27 : decode cX8_arePlaces 27 = .ok (.ireturn, 1) := by decide +kernel
theorem dX8_width_0 : decode cX8_width 0 = .ok (.iload_n 1, 1) := by decide +kernel
theorem dX8_width_1 : decode cX8_width 1 = .ok (.iconst 2, 1) := by decide +kernel
theorem dX8_width_2 : decode cX8_width 2 = .ok (.bipush 10, 2) := by decide +kernel
theorem dX8_width_4 : decode cX8_width 4 = .ok (.invokestatic 58, 3) := by decide +kernel
theorem dX8_width_7 : decode cX8_width 7 = .ok (.ifCond .ne 6, 3) := by decide +kernel
theorem dX8_width_10 : decode cX8_width 10 = .ok (.bipush (-2), 2) := by decide +kernel
theorem dX8_width_12 : decode cX8_width 12 = .ok (.ireturn, 1) := by decide +kernel
theorem dX8_width_13 : decode cX8_width 13 = .ok (.aload_n 0, 1) := by decide +kernel
theorem dX8_width_14 : decode cX8_width 14 = .ok (.iload_n 1, 1) := by decide +kernel
theorem dX8_width_15 : decode cX8_width 15 = .ok (.putfield 7, 3) := by decide +kernel
theorem dX8_width_18 : decode cX8_width 18 = .ok (.aload_n 0, 1) := by decide +kernel
theorem dX8_width_19 : decode cX8_width 19 = .ok (.iconst 0, 1) := by decide +kernel
theorem dX8_width_20 : decode cX8_width 20 = .ok (.putfield 55, 3) := by decide +kernel
theorem dX8_width_23 : decode cX8_width 23 = .ok (.iconst 1, 1) := by decide +kernel
theorem dX8_width_24 : decode cX8_width 24 = .ok (.ireturn, 1) := by decide +kernel
theorem dX8_course_0 : decode cX8_course 0 = .ok (.aload_n 0, 1) := by decide +kernel
theorem dX8_course_1 : decode cX8_course 1 = .ok (.getfield 55, 3) := by decide +kernel
theorem dX8_course_4 : decode cX8_course 4 = .ok (.bipush 8, 2) := by decide +kernel
theorem dX8_course_6 : decode cX8_course 6 = .ok (.if_icmp .ne 6, 3) := by decide +kernel
theorem dX8_course_9 : decode cX8_course 9 = .ok (.bipush (-4), 2) := by decide +kernel
theorem dX8_course_11 : decode cX8_course 11 = .ok (.ireturn, 1) := by decide +kernel
theorem dX8_course_12 : decode cX8_course 12 = .ok (.aload_n 0, 1) := by decide +kernel
theorem dX8_course_13 : decode cX8_course 13 = .ok (.getfield 13, 3) := by decide +kernel
theorem dX8_course_16 : decode cX8_course 16 = .ok (.aload_n 0, 1) := by decide +kernel
theorem dX8_course_17 : decode cX8_course 17 = .ok (.getfield 55, 3) := by decide +kernel
theorem dX8_course_20 : decode cX8_course 20 = .ok (.iconst 0, 1) := by decide +kernel
theorem dX8_course_21 : decode cX8_course 21 = .ok (.iastore, 1) := by decide +kernel
theorem dX8_course_22 : decode cX8_course 22 = .ok (.aload_n 0, 1) := by decide +kernel
theorem dX8_course_23 : decode cX8_course 23 = .ok (.getfield 17, 3) := by decide +kernel
theorem dX8_course_26 : decode cX8_course 26 = .ok (.aload_n 0, 1) := by decide +kernel
theorem dX8_course_27 : decode cX8_course 27 = .ok (.getfield 55, 3) := by decide +kernel
theorem dX8_course_30 : decode cX8_course 30 = .ok (.iconst 0, 1) := by decide +kernel
theorem dX8_course_31 : decode cX8_course 31 = .ok (.iastore, 1) := by decide +kernel
theorem dX8_course_32 : decode cX8_course 32 = .ok (.aload_n 0, 1) := by decide +kernel
theorem dX8_course_33 : decode cX8_course 33 = .ok (.getfield 20, 3) := by decide +kernel
theorem dX8_course_36 : decode cX8_course 36 = .ok (.aload_n 0, 1) := by decide +kernel
theorem dX8_course_37 : decode cX8_course 37 = .ok (.getfield 55, 3) := by decide +kernel
theorem dX8_course_40 : decode cX8_course 40 = .ok (.iconst 0, 1) := by decide +kernel
theorem dX8_course_41 : decode cX8_course 41 = .ok (.iastore, 1) := by decide +kernel
theorem dX8_course_42 : decode cX8_course 42 = .ok (.aload_n 0, 1) := by decide +kernel
theorem dX8_course_43 : decode cX8_course 43 = .ok (.getfield 23, 3) := by decide +kernel
theorem dX8_course_46 : decode cX8_course 46 = .ok (.aload_n 0, 1) := by decide +kernel
theorem dX8_course_47 : decode cX8_course 47 = .ok (.getfield 55, 3) := by decide +kernel
theorem dX8_course_50 : decode cX8_course 50 = .ok (.iconst 0, 1) := by decide +kernel
theorem dX8_course_51 : decode cX8_course 51 = .ok (.iastore, 1) := by decide +kernel
theorem dX8_course_52 : decode cX8_course 52 = .ok (.aload_n 0, 1) := by decide +kernel
theorem dX8_course_53 : decode cX8_course 53 = .ok (.dup, 1) := by decide +kernel
theorem dX8_course_54 : decode cX8_course 54 = .ok (.getfield 55, 3) := by decide +kernel
theorem dX8_course_57 : decode cX8_course 57 = .ok (.iconst 1, 1) := by decide +kernel
theorem dX8_course_58 : decode cX8_course 58 = .ok (.iadd, 1) := by decide +kernel
theorem dX8_course_59 : decode cX8_course 59 = .ok (.putfield 55, 3) := by decide +kernel
theorem dX8_course_62 : decode cX8_course 62 = .ok (.aload_n 0, 1) := by decide +kernel
theorem dX8_course_63 : decode cX8_course 63 = .ok (.getfield 55, 3) := by decide +kernel
theorem dX8_course_66 : decode cX8_course 66 = .ok (.iconst 1, 1) := by decide +kernel
theorem dX8_course_67 : decode cX8_course 67 = .ok (.isub, 1) := by decide +kernel
theorem dX8_course_68 : decode cX8_course 68 = .ok (.ireturn, 1) := by decide +kernel
theorem dX8_take_0 : decode cX8_take 0 = .ok (.aload_n 0, 1) := by decide +kernel
theorem dX8_take_1 : decode cX8_take 1 = .ok (.getfield 55, 3) := by decide +kernel
theorem dX8_take_4 : decode cX8_take 4 = .ok (.ifCond .ne 6, 3) := by decide +kernel
theorem dX8_take_7 : decode cX8_take 7 = .ok (.bipush (-3), 2) := by decide +kernel
theorem dX8_take_9 : decode cX8_take 9 = .ok (.ireturn, 1) := by decide +kernel
theorem dX8_take_10 : decode cX8_take 10 = .ok (.aload_n 0, 1) := by decide +kernel
theorem dX8_take_11 : decode cX8_take 11 = .ok (.dup, 1) := by decide +kernel
theorem dX8_take_12 : decode cX8_take 12 = .ok (.getfield 55, 3) := by decide +kernel
theorem dX8_take_15 : decode cX8_take 15 = .ok (.iconst 1, 1) := by decide +kernel
theorem dX8_take_16 : decode cX8_take 16 = .ok (.isub, 1) := by decide +kernel
theorem dX8_take_17 : decode cX8_take 17 = .ok (.putfield 55, 3) := by decide +kernel
theorem dX8_take_20 : decode cX8_take 20 = .ok (.aload_n 0, 1) := by decide +kernel
theorem dX8_take_21 : decode cX8_take 21 = .ok (.getfield 55, 3) := by decide +kernel
theorem dX8_take_24 : decode cX8_take 24 = .ok (.ireturn, 1) := by decide +kernel
theorem dX8_open_0 : decode cX8_open 0 = .ok (.aload_n 0, 1) := by decide +kernel
theorem dX8_open_1 : decode cX8_open 1 = .ok (.iload_n 1, 1) := by decide +kernel
theorem dX8_open_2 : decode cX8_open 2 = .ok (.invokevirtual 62, 3) := by decide +kernel
theorem dX8_open_5 : decode cX8_open 5 = .ok (.ifCond .ne 5, 3) := by decide +kernel
theorem dX8_open_8 : decode cX8_open 8 = .ok (.iconst (-1), 1) := by decide +kernel
theorem dX8_open_9 : decode cX8_open 9 = .ok (.ireturn, 1) := by decide +kernel
theorem dX8_open_10 : decode cX8_open 10 = .ok (.iload_n 2, 1) := by decide +kernel
theorem dX8_open_11 : decode cX8_open 11 = .ok (.iconst 0, 1) := by decide +kernel
theorem dX8_open_12 : decode cX8_open 12 = .ok (.iconst 1, 1) := by decide +kernel
theorem dX8_open_13 : decode cX8_open 13 = .ok (.aload_n 0, 1) := by decide +kernel
theorem dX8_open_14 : decode cX8_open 14 = .ok (.getfield 7, 3) := by decide +kernel
theorem dX8_open_17 : decode cX8_open 17 = .ok (.ishl, 1) := by decide +kernel
theorem dX8_open_18 : decode cX8_open 18 = .ok (.iconst 1, 1) := by decide +kernel
theorem dX8_open_19 : decode cX8_open 19 = .ok (.isub, 1) := by decide +kernel
theorem dX8_open_20 : decode cX8_open 20 = .ok (.invokestatic 58, 3) := by decide +kernel
theorem dX8_open_23 : decode cX8_open 23 = .ok (.ifCond .ne 6, 3) := by decide +kernel
theorem dX8_open_26 : decode cX8_open 26 = .ok (.bipush (-2), 2) := by decide +kernel
theorem dX8_open_28 : decode cX8_open 28 = .ok (.ireturn, 1) := by decide +kernel
theorem dX8_open_29 : decode cX8_open 29 = .ok (.aload_n 0, 1) := by decide +kernel
theorem dX8_open_30 : decode cX8_open 30 = .ok (.getfield 13, 3) := by decide +kernel
theorem dX8_open_33 : decode cX8_open 33 = .ok (.iload_n 1, 1) := by decide +kernel
theorem dX8_open_34 : decode cX8_open 34 = .ok (.iaload, 1) := by decide +kernel
theorem dX8_open_35 : decode cX8_open 35 = .ok (.istore_n 3, 1) := by decide +kernel
theorem dX8_open_36 : decode cX8_open 36 = .ok (.aload_n 0, 1) := by decide +kernel
theorem dX8_open_37 : decode cX8_open 37 = .ok (.getfield 13, 3) := by decide +kernel
theorem dX8_open_40 : decode cX8_open 40 = .ok (.iload_n 1, 1) := by decide +kernel
theorem dX8_open_41 : decode cX8_open 41 = .ok (.iload_n 2, 1) := by decide +kernel
theorem dX8_open_42 : decode cX8_open 42 = .ok (.iastore, 1) := by decide +kernel
theorem dX8_open_43 : decode cX8_open 43 = .ok (.iload_n 3, 1) := by decide +kernel
theorem dX8_open_44 : decode cX8_open 44 = .ok (.ireturn, 1) := by decide +kernel
theorem dX8_must_0 : decode cX8_must 0 = .ok (.aload_n 0, 1) := by decide +kernel
theorem dX8_must_1 : decode cX8_must 1 = .ok (.iload_n 1, 1) := by decide +kernel
theorem dX8_must_2 : decode cX8_must 2 = .ok (.invokevirtual 62, 3) := by decide +kernel
theorem dX8_must_5 : decode cX8_must 5 = .ok (.ifCond .ne 5, 3) := by decide +kernel
theorem dX8_must_8 : decode cX8_must 8 = .ok (.iconst (-1), 1) := by decide +kernel
theorem dX8_must_9 : decode cX8_must 9 = .ok (.ireturn, 1) := by decide +kernel
theorem dX8_must_10 : decode cX8_must 10 = .ok (.iload_n 2, 1) := by decide +kernel
theorem dX8_must_11 : decode cX8_must 11 = .ok (.iconst 0, 1) := by decide +kernel
theorem dX8_must_12 : decode cX8_must 12 = .ok (.iconst 1, 1) := by decide +kernel
theorem dX8_must_13 : decode cX8_must 13 = .ok (.invokestatic 58, 3) := by decide +kernel
theorem dX8_must_16 : decode cX8_must 16 = .ok (.ifCond .eq 11, 3) := by decide +kernel
theorem dX8_must_19 : decode cX8_must 19 = .ok (.aload_n 0, 1) := by decide +kernel
theorem dX8_must_20 : decode cX8_must 20 = .ok (.iload_n 3, 1) := by decide +kernel
theorem dX8_must_21 : decode cX8_must 21 = .ok (.invokevirtual 66, 3) := by decide +kernel
theorem dX8_must_24 : decode cX8_must 24 = .ok (.ifCond .ne 6, 3) := by decide +kernel
theorem dX8_must_27 : decode cX8_must 27 = .ok (.bipush (-2), 2) := by decide +kernel
theorem dX8_must_29 : decode cX8_must 29 = .ok (.ireturn, 1) := by decide +kernel
theorem dX8_must_30 : decode cX8_must 30 = .ok (.iload_n 2, 1) := by decide +kernel
theorem dX8_must_31 : decode cX8_must 31 = .ok (.iconst 1, 1) := by decide +kernel
theorem dX8_must_32 : decode cX8_must 32 = .ok (.if_icmp .ne 12, 3) := by decide +kernel
theorem dX8_must_35 : decode cX8_must 35 = .ok (.aload_n 0, 1) := by decide +kernel
theorem dX8_must_36 : decode cX8_must 36 = .ok (.getfield 17, 3) := by decide +kernel
theorem dX8_must_39 : decode cX8_must 39 = .ok (.iload_n 1, 1) := by decide +kernel
theorem dX8_must_40 : decode cX8_must 40 = .ok (.iaload, 1) := by decide +kernel
theorem dX8_must_41 : decode cX8_must 41 = .ok (.goto 9, 3) := by decide +kernel
theorem dX8_must_44 : decode cX8_must 44 = .ok (.aload_n 0, 1) := by decide +kernel
theorem dX8_must_45 : decode cX8_must 45 = .ok (.getfield 20, 3) := by decide +kernel
theorem dX8_must_48 : decode cX8_must 48 = .ok (.iload_n 1, 1) := by decide +kernel
theorem dX8_must_49 : decode cX8_must 49 = .ok (.iaload, 1) := by decide +kernel
theorem dX8_must_50 : decode cX8_must 50 = .ok (.istore 4, 2) := by decide +kernel
theorem dX8_must_52 : decode cX8_must 52 = .ok (.aload_n 0, 1) := by decide +kernel
theorem dX8_must_53 : decode cX8_must 53 = .ok (.getfield 17, 3) := by decide +kernel
theorem dX8_must_56 : decode cX8_must 56 = .ok (.iload_n 1, 1) := by decide +kernel
theorem dX8_must_57 : decode cX8_must 57 = .ok (.iload_n 2, 1) := by decide +kernel
theorem dX8_must_58 : decode cX8_must 58 = .ok (.iconst 1, 1) := by decide +kernel
theorem dX8_must_59 : decode cX8_must 59 = .ok (.if_icmp .ne 7, 3) := by decide +kernel
theorem dX8_must_62 : decode cX8_must 62 = .ok (.iload_n 3, 1) := by decide +kernel
theorem dX8_must_63 : decode cX8_must 63 = .ok (.goto 9, 3) := by decide +kernel
theorem dX8_must_66 : decode cX8_must 66 = .ok (.aload_n 0, 1) := by decide +kernel
theorem dX8_must_67 : decode cX8_must 67 = .ok (.getfield 17, 3) := by decide +kernel
theorem dX8_must_70 : decode cX8_must 70 = .ok (.iload_n 1, 1) := by decide +kernel
theorem dX8_must_71 : decode cX8_must 71 = .ok (.iaload, 1) := by decide +kernel
theorem dX8_must_72 : decode cX8_must 72 = .ok (.iastore, 1) := by decide +kernel
theorem dX8_must_73 : decode cX8_must 73 = .ok (.aload_n 0, 1) := by decide +kernel
theorem dX8_must_74 : decode cX8_must 74 = .ok (.getfield 20, 3) := by decide +kernel
theorem dX8_must_77 : decode cX8_must 77 = .ok (.iload_n 1, 1) := by decide +kernel
theorem dX8_must_78 : decode cX8_must 78 = .ok (.iload_n 2, 1) := by decide +kernel
theorem dX8_must_79 : decode cX8_must 79 = .ok (.iconst 1, 1) := by decide +kernel
theorem dX8_must_80 : decode cX8_must 80 = .ok (.if_icmp .ne 12, 3) := by decide +kernel
theorem dX8_must_83 : decode cX8_must 83 = .ok (.aload_n 0, 1) := by decide +kernel
theorem dX8_must_84 : decode cX8_must 84 = .ok (.getfield 20, 3) := by decide +kernel
theorem dX8_must_87 : decode cX8_must 87 = .ok (.iload_n 1, 1) := by decide +kernel
theorem dX8_must_88 : decode cX8_must 88 = .ok (.iaload, 1) := by decide +kernel
theorem dX8_must_89 : decode cX8_must 89 = .ok (.goto 4, 3) := by decide +kernel
theorem dX8_must_92 : decode cX8_must 92 = .ok (.iload_n 3, 1) := by decide +kernel
theorem dX8_must_93 : decode cX8_must 93 = .ok (.iastore, 1) := by decide +kernel
theorem dX8_must_94 : decode cX8_must 94 = .ok (.iload 4, 2) := by decide +kernel
theorem dX8_must_96 : decode cX8_must 96 = .ok (.ireturn, 1) := by decide +kernel
theorem dX8_price_0 : decode cX8_price 0 = .ok (.iload_n 1, 1) := by decide +kernel
theorem dX8_price_1 : decode cX8_price 1 = .ok (.iconst 1, 1) := by decide +kernel
theorem dX8_price_2 : decode cX8_price 2 = .ok (.bipush 6, 2) := by decide +kernel
theorem dX8_price_4 : decode cX8_price 4 = .ok (.invokestatic 58, 3) := by decide +kernel
theorem dX8_price_7 : decode cX8_price 7 = .ok (.ifCond .eq 19, 3) := by decide +kernel
theorem dX8_price_10 : decode cX8_price 10 = .ok (.iload_n 2, 1) := by decide +kernel
theorem dX8_price_11 : decode cX8_price 11 = .ok (.bipush (-9), 2) := by decide +kernel
theorem dX8_price_13 : decode cX8_price 13 = .ok (.if_icmp .eq 16, 3) := by decide +kernel
theorem dX8_price_16 : decode cX8_price 16 = .ok (.iload_n 2, 1) := by decide +kernel
theorem dX8_price_17 : decode cX8_price 17 = .ok (.iconst 0, 1) := by decide +kernel
theorem dX8_price_18 : decode cX8_price 18 = .ok (.bipush 99, 2) := by decide +kernel
theorem dX8_price_20 : decode cX8_price 20 = .ok (.invokestatic 58, 3) := by decide +kernel
theorem dX8_price_23 : decode cX8_price 23 = .ok (.ifCond .ne 6, 3) := by decide +kernel
theorem dX8_price_26 : decode cX8_price 26 = .ok (.bipush (-2), 2) := by decide +kernel
theorem dX8_price_28 : decode cX8_price 28 = .ok (.ireturn, 1) := by decide +kernel
theorem dX8_price_29 : decode cX8_price 29 = .ok (.aload_n 0, 1) := by decide +kernel
theorem dX8_price_30 : decode cX8_price 30 = .ok (.getfield 26, 3) := by decide +kernel
theorem dX8_price_33 : decode cX8_price 33 = .ok (.iload_n 1, 1) := by decide +kernel
theorem dX8_price_34 : decode cX8_price 34 = .ok (.iaload, 1) := by decide +kernel
theorem dX8_price_35 : decode cX8_price 35 = .ok (.istore_n 3, 1) := by decide +kernel
theorem dX8_price_36 : decode cX8_price 36 = .ok (.aload_n 0, 1) := by decide +kernel
theorem dX8_price_37 : decode cX8_price 37 = .ok (.getfield 26, 3) := by decide +kernel
theorem dX8_price_40 : decode cX8_price 40 = .ok (.iload_n 1, 1) := by decide +kernel
theorem dX8_price_41 : decode cX8_price 41 = .ok (.iload_n 2, 1) := by decide +kernel
theorem dX8_price_42 : decode cX8_price 42 = .ok (.iastore, 1) := by decide +kernel
theorem dX8_price_43 : decode cX8_price 43 = .ok (.iload_n 3, 1) := by decide +kernel
theorem dX8_price_44 : decode cX8_price 44 = .ok (.ireturn, 1) := by decide +kernel
theorem dX8_lap_0 : decode cX8_lap 0 = .ok (.iload_n 1, 1) := by decide +kernel
theorem dX8_lap_1 : decode cX8_lap 1 = .ok (.iconst 1, 1) := by decide +kernel
theorem dX8_lap_2 : decode cX8_lap 2 = .ok (.iconst 3, 1) := by decide +kernel
theorem dX8_lap_3 : decode cX8_lap 3 = .ok (.invokestatic 58, 3) := by decide +kernel
theorem dX8_lap_6 : decode cX8_lap 6 = .ok (.ifCond .ne 6, 3) := by decide +kernel
theorem dX8_lap_9 : decode cX8_lap 9 = .ok (.bipush (-2), 2) := by decide +kernel
theorem dX8_lap_11 : decode cX8_lap 11 = .ok (.ireturn, 1) := by decide +kernel
theorem dX8_lap_12 : decode cX8_lap 12 = .ok (.aload_n 0, 1) := by decide +kernel
theorem dX8_lap_13 : decode cX8_lap 13 = .ok (.getfield 32, 3) := by decide +kernel
theorem dX8_lap_16 : decode cX8_lap 16 = .ok (.istore_n 2, 1) := by decide +kernel
theorem dX8_lap_17 : decode cX8_lap 17 = .ok (.aload_n 0, 1) := by decide +kernel
theorem dX8_lap_18 : decode cX8_lap 18 = .ok (.iload_n 1, 1) := by decide +kernel
theorem dX8_lap_19 : decode cX8_lap 19 = .ok (.putfield 32, 3) := by decide +kernel
theorem dX8_lap_22 : decode cX8_lap 22 = .ok (.iload_n 2, 1) := by decide +kernel
theorem dX8_lap_23 : decode cX8_lap 23 = .ok (.ireturn, 1) := by decide +kernel
theorem dX8_ends_0 : decode cX8_ends 0 = .ok (.iload_n 1, 1) := by decide +kernel
theorem dX8_ends_1 : decode cX8_ends 1 = .ok (.iconst 0, 1) := by decide +kernel
theorem dX8_ends_2 : decode cX8_ends 2 = .ok (.iconst 1, 1) := by decide +kernel
theorem dX8_ends_3 : decode cX8_ends 3 = .ok (.invokestatic 58, 3) := by decide +kernel
theorem dX8_ends_6 : decode cX8_ends 6 = .ok (.ifCond .eq 29, 3) := by decide +kernel
theorem dX8_ends_9 : decode cX8_ends 9 = .ok (.iload_n 2, 1) := by decide +kernel
theorem dX8_ends_10 : decode cX8_ends 10 = .ok (.iconst 0, 1) := by decide +kernel
theorem dX8_ends_11 : decode cX8_ends 11 = .ok (.iconst 1, 1) := by decide +kernel
theorem dX8_ends_12 : decode cX8_ends 12 = .ok (.invokestatic 58, 3) := by decide +kernel
theorem dX8_ends_15 : decode cX8_ends 15 = .ok (.ifCond .eq 20, 3) := by decide +kernel
theorem dX8_ends_18 : decode cX8_ends 18 = .ok (.iload_n 3, 1) := by decide +kernel
theorem dX8_ends_19 : decode cX8_ends 19 = .ok (.iconst 0, 1) := by decide +kernel
theorem dX8_ends_20 : decode cX8_ends 20 = .ok (.bipush 126, 2) := by decide +kernel
theorem dX8_ends_22 : decode cX8_ends 22 = .ok (.invokestatic 58, 3) := by decide +kernel
theorem dX8_ends_25 : decode cX8_ends 25 = .ok (.ifCond .eq 10, 3) := by decide +kernel
theorem dX8_ends_28 : decode cX8_ends 28 = .ok (.iload_n 3, 1) := by decide +kernel
theorem dX8_ends_29 : decode cX8_ends 29 = .ok (.iconst 2, 1) := by decide +kernel
theorem dX8_ends_30 : decode cX8_ends 30 = .ok (.irem, 1) := by decide +kernel
theorem dX8_ends_31 : decode cX8_ends 31 = .ok (.iconst 1, 1) := by decide +kernel
theorem dX8_ends_32 : decode cX8_ends 32 = .ok (.if_icmp .ne 6, 3) := by decide +kernel
theorem dX8_ends_35 : decode cX8_ends 35 = .ok (.bipush (-2), 2) := by decide +kernel
theorem dX8_ends_37 : decode cX8_ends 37 = .ok (.ireturn, 1) := by decide +kernel
theorem dX8_ends_38 : decode cX8_ends 38 = .ok (.aload_n 0, 1) := by decide +kernel
theorem dX8_ends_39 : decode cX8_ends 39 = .ok (.getfield 29, 3) := by decide +kernel
theorem dX8_ends_42 : decode cX8_ends 42 = .ok (.iconst 2, 1) := by decide +kernel
theorem dX8_ends_43 : decode cX8_ends 43 = .ok (.iload_n 1, 1) := by decide +kernel
theorem dX8_ends_44 : decode cX8_ends 44 = .ok (.imul, 1) := by decide +kernel
theorem dX8_ends_45 : decode cX8_ends 45 = .ok (.iload_n 2, 1) := by decide +kernel
theorem dX8_ends_46 : decode cX8_ends 46 = .ok (.iadd, 1) := by decide +kernel
theorem dX8_ends_47 : decode cX8_ends 47 = .ok (.iaload, 1) := by decide +kernel
theorem dX8_ends_48 : decode cX8_ends 48 = .ok (.istore 4, 2) := by decide +kernel
theorem dX8_ends_50 : decode cX8_ends 50 = .ok (.aload_n 0, 1) := by decide +kernel
theorem dX8_ends_51 : decode cX8_ends 51 = .ok (.getfield 29, 3) := by decide +kernel
theorem dX8_ends_54 : decode cX8_ends 54 = .ok (.iconst 2, 1) := by decide +kernel
theorem dX8_ends_55 : decode cX8_ends 55 = .ok (.iload_n 1, 1) := by decide +kernel
theorem dX8_ends_56 : decode cX8_ends 56 = .ok (.imul, 1) := by decide +kernel
theorem dX8_ends_57 : decode cX8_ends 57 = .ok (.iload_n 2, 1) := by decide +kernel
theorem dX8_ends_58 : decode cX8_ends 58 = .ok (.iadd, 1) := by decide +kernel
theorem dX8_ends_59 : decode cX8_ends 59 = .ok (.iload_n 3, 1) := by decide +kernel
theorem dX8_ends_60 : decode cX8_ends 60 = .ok (.iastore, 1) := by decide +kernel
theorem dX8_ends_61 : decode cX8_ends 61 = .ok (.iload 4, 2) := by decide +kernel
theorem dX8_ends_63 : decode cX8_ends 63 = .ok (.ireturn, 1) := by decide +kernel
theorem dX8_spansOf_0 : decode cX8_spansOf 0 = .ok (.iconst 0, 1) := by decide +kernel
theorem dX8_spansOf_1 : decode cX8_spansOf 1 = .ok (.istore_n 2, 1) := by decide +kernel
theorem dX8_spansOf_2 : decode cX8_spansOf 2 = .ok (.iconst 0, 1) := by decide +kernel
theorem dX8_spansOf_3 : decode cX8_spansOf 3 = .ok (.istore_n 3, 1) := by decide +kernel
theorem dX8_spansOf_4 : decode cX8_spansOf 4 = .ok (.iload_n 3, 1) := by decide +kernel
theorem dX8_spansOf_5 : decode cX8_spansOf 5 = .ok (.aload_n 0, 1) := by decide +kernel
theorem dX8_spansOf_6 : decode cX8_spansOf 6 = .ok (.getfield 7, 3) := by decide +kernel
theorem dX8_spansOf_9 : decode cX8_spansOf 9 = .ok (.if_icmp .ge 49, 3) := by decide +kernel
theorem dX8_spansOf_12 : decode cX8_spansOf 12 = .ok (.iload_n 2, 1) := by decide +kernel
theorem dX8_spansOf_13 : decode cX8_spansOf 13 = .ok (.aload_n 0, 1) := by decide +kernel
theorem dX8_spansOf_14 : decode cX8_spansOf 14 = .ok (.getfield 13, 3) := by decide +kernel
theorem dX8_spansOf_17 : decode cX8_spansOf 17 = .ok (.iload_n 1, 1) := by decide +kernel
theorem dX8_spansOf_18 : decode cX8_spansOf 18 = .ok (.iaload, 1) := by decide +kernel
theorem dX8_spansOf_19 : decode cX8_spansOf 19 = .ok (.iload_n 3, 1) := by decide +kernel
theorem dX8_spansOf_20 : decode cX8_spansOf 20 = .ok (.invokestatic 69, 3) := by decide +kernel
theorem dX8_spansOf_23 : decode cX8_spansOf 23 = .ok (.ifCond .ne 26, 3) := by decide +kernel
theorem dX8_spansOf_26 : decode cX8_spansOf 26 = .ok (.iload_n 3, 1) := by decide +kernel
theorem dX8_spansOf_27 : decode cX8_spansOf 27 = .ok (.ifCond .eq 18, 3) := by decide +kernel
theorem dX8_spansOf_30 : decode cX8_spansOf 30 = .ok (.aload_n 0, 1) := by decide +kernel
theorem dX8_spansOf_31 : decode cX8_spansOf 31 = .ok (.getfield 13, 3) := by decide +kernel
theorem dX8_spansOf_34 : decode cX8_spansOf 34 = .ok (.iload_n 1, 1) := by decide +kernel
theorem dX8_spansOf_35 : decode cX8_spansOf 35 = .ok (.iaload, 1) := by decide +kernel
theorem dX8_spansOf_36 : decode cX8_spansOf 36 = .ok (.iload_n 3, 1) := by decide +kernel
theorem dX8_spansOf_37 : decode cX8_spansOf 37 = .ok (.iconst 1, 1) := by decide +kernel
theorem dX8_spansOf_38 : decode cX8_spansOf 38 = .ok (.isub, 1) := by decide +kernel
theorem dX8_spansOf_39 : decode cX8_spansOf 39 = .ok (.invokestatic 69, 3) := by decide +kernel
theorem dX8_spansOf_42 : decode cX8_spansOf 42 = .ok (.ifCond .eq 7, 3) := by decide +kernel
theorem dX8_spansOf_45 : decode cX8_spansOf 45 = .ok (.iconst 1, 1) := by decide +kernel
theorem dX8_spansOf_46 : decode cX8_spansOf 46 = .ok (.goto 4, 3) := by decide +kernel
theorem dX8_spansOf_49 : decode cX8_spansOf 49 = .ok (.iconst 0, 1) := by decide +kernel
theorem dX8_spansOf_50 : decode cX8_spansOf 50 = .ok (.iadd, 1) := by decide +kernel
theorem dX8_spansOf_51 : decode cX8_spansOf 51 = .ok (.istore_n 2, 1) := by decide +kernel
theorem dX8_spansOf_52 : decode cX8_spansOf 52 = .ok (.iinc 3 1, 3) := by decide +kernel
theorem dX8_spansOf_55 : decode cX8_spansOf 55 = .ok (.goto (-51), 3) := by decide +kernel
theorem dX8_spansOf_58 : decode cX8_spansOf 58 = .ok (.iload_n 2, 1) := by decide +kernel
theorem dX8_spansOf_59 : decode cX8_spansOf 59 = .ok (.ireturn, 1) := by decide +kernel
theorem dX8_ofCourse_0 : decode cX8_ofCourse 0 = .ok (.aload_n 0, 1) := by decide +kernel
theorem dX8_ofCourse_1 : decode cX8_ofCourse 1 = .ok (.iload_n 1, 1) := by decide +kernel
theorem dX8_ofCourse_2 : decode cX8_ofCourse 2 = .ok (.invokevirtual 62, 3) := by decide +kernel
theorem dX8_ofCourse_5 : decode cX8_ofCourse 5 = .ok (.ifCond .ne 5, 3) := by decide +kernel
theorem dX8_ofCourse_8 : decode cX8_ofCourse 8 = .ok (.iconst (-1), 1) := by decide +kernel
theorem dX8_ofCourse_9 : decode cX8_ofCourse 9 = .ok (.ireturn, 1) := by decide +kernel
theorem dX8_ofCourse_10 : decode cX8_ofCourse 10 = .ok (.iload_n 2, 1) := by decide +kernel
theorem dX8_ofCourse_11 : decode cX8_ofCourse 11 = .ok (.tableswitch 67 0 4 #[33, 40, 47, 54, 60], 33) := by decide +kernel
theorem dX8_ofCourse_44 : decode cX8_ofCourse 44 = .ok (.aload_n 0, 1) := by decide +kernel
theorem dX8_ofCourse_45 : decode cX8_ofCourse 45 = .ok (.getfield 13, 3) := by decide +kernel
theorem dX8_ofCourse_48 : decode cX8_ofCourse 48 = .ok (.iload_n 1, 1) := by decide +kernel
theorem dX8_ofCourse_49 : decode cX8_ofCourse 49 = .ok (.iaload, 1) := by decide +kernel
theorem dX8_ofCourse_50 : decode cX8_ofCourse 50 = .ok (.ireturn, 1) := by decide +kernel
theorem dX8_ofCourse_51 : decode cX8_ofCourse 51 = .ok (.aload_n 0, 1) := by decide +kernel
theorem dX8_ofCourse_52 : decode cX8_ofCourse 52 = .ok (.getfield 17, 3) := by decide +kernel
theorem dX8_ofCourse_55 : decode cX8_ofCourse 55 = .ok (.iload_n 1, 1) := by decide +kernel
theorem dX8_ofCourse_56 : decode cX8_ofCourse 56 = .ok (.iaload, 1) := by decide +kernel
theorem dX8_ofCourse_57 : decode cX8_ofCourse 57 = .ok (.ireturn, 1) := by decide +kernel
theorem dX8_ofCourse_58 : decode cX8_ofCourse 58 = .ok (.aload_n 0, 1) := by decide +kernel
theorem dX8_ofCourse_59 : decode cX8_ofCourse 59 = .ok (.getfield 20, 3) := by decide +kernel
theorem dX8_ofCourse_62 : decode cX8_ofCourse 62 = .ok (.iload_n 1, 1) := by decide +kernel
theorem dX8_ofCourse_63 : decode cX8_ofCourse 63 = .ok (.iaload, 1) := by decide +kernel
theorem dX8_ofCourse_64 : decode cX8_ofCourse 64 = .ok (.ireturn, 1) := by decide +kernel
theorem dX8_ofCourse_65 : decode cX8_ofCourse 65 = .ok (.aload_n 0, 1) := by decide +kernel
theorem dX8_ofCourse_66 : decode cX8_ofCourse 66 = .ok (.iload_n 1, 1) := by decide +kernel
theorem dX8_ofCourse_67 : decode cX8_ofCourse 67 = .ok (.invokevirtual 73, 3) := by decide +kernel
theorem dX8_ofCourse_70 : decode cX8_ofCourse 70 = .ok (.ireturn, 1) := by decide +kernel
theorem dX8_ofCourse_71 : decode cX8_ofCourse 71 = .ok (.aload_n 0, 1) := by decide +kernel
theorem dX8_ofCourse_72 : decode cX8_ofCourse 72 = .ok (.getfield 23, 3) := by decide +kernel
theorem dX8_ofCourse_75 : decode cX8_ofCourse 75 = .ok (.iload_n 1, 1) := by decide +kernel
theorem dX8_ofCourse_76 : decode cX8_ofCourse 76 = .ok (.iaload, 1) := by decide +kernel
theorem dX8_ofCourse_77 : decode cX8_ofCourse 77 = .ok (.ireturn, 1) := by decide +kernel
theorem dX8_ofCourse_78 : decode cX8_ofCourse 78 = .ok (.bipush (-2), 2) := by decide +kernel
theorem dX8_ofCourse_80 : decode cX8_ofCourse 80 = .ok (.ireturn, 1) := by decide +kernel
theorem dX8_begins_0 : decode cX8_begins 0 = .ok (.aload_n 0, 1) := by decide +kernel
theorem dX8_begins_1 : decode cX8_begins 1 = .ok (.getfield 13, 3) := by decide +kernel
theorem dX8_begins_4 : decode cX8_begins 4 = .ok (.iload_n 1, 1) := by decide +kernel
theorem dX8_begins_5 : decode cX8_begins 5 = .ok (.iaload, 1) := by decide +kernel
theorem dX8_begins_6 : decode cX8_begins 6 = .ok (.iload_n 3, 1) := by decide +kernel
theorem dX8_begins_7 : decode cX8_begins 7 = .ok (.invokestatic 69, 3) := by decide +kernel
theorem dX8_begins_10 : decode cX8_begins 10 = .ok (.ifCond .ne 34, 3) := by decide +kernel
theorem dX8_begins_13 : decode cX8_begins 13 = .ok (.iload_n 3, 1) := by decide +kernel
theorem dX8_begins_14 : decode cX8_begins 14 = .ok (.ifCond .eq 26, 3) := by decide +kernel
theorem dX8_begins_17 : decode cX8_begins 17 = .ok (.aload_n 0, 1) := by decide +kernel
theorem dX8_begins_18 : decode cX8_begins 18 = .ok (.getfield 13, 3) := by decide +kernel
theorem dX8_begins_21 : decode cX8_begins 21 = .ok (.iload_n 1, 1) := by decide +kernel
theorem dX8_begins_22 : decode cX8_begins 22 = .ok (.iaload, 1) := by decide +kernel
theorem dX8_begins_23 : decode cX8_begins 23 = .ok (.iload_n 3, 1) := by decide +kernel
theorem dX8_begins_24 : decode cX8_begins 24 = .ok (.iconst 1, 1) := by decide +kernel
theorem dX8_begins_25 : decode cX8_begins 25 = .ok (.isub, 1) := by decide +kernel
theorem dX8_begins_26 : decode cX8_begins 26 = .ok (.invokestatic 69, 3) := by decide +kernel
theorem dX8_begins_29 : decode cX8_begins 29 = .ok (.ifCond .ne 11, 3) := by decide +kernel
theorem dX8_begins_32 : decode cX8_begins 32 = .ok (.iload_n 2, 1) := by decide +kernel
theorem dX8_begins_33 : decode cX8_begins 33 = .ok (.iload_n 3, 1) := by decide +kernel
theorem dX8_begins_34 : decode cX8_begins 34 = .ok (.invokestatic 69, 3) := by decide +kernel
theorem dX8_begins_37 : decode cX8_begins 37 = .ok (.ifCond .eq 7, 3) := by decide +kernel
theorem dX8_begins_40 : decode cX8_begins 40 = .ok (.iconst 1, 1) := by decide +kernel
theorem dX8_begins_41 : decode cX8_begins 41 = .ok (.goto 4, 3) := by decide +kernel
theorem dX8_begins_44 : decode cX8_begins 44 = .ok (.iconst 0, 1) := by decide +kernel
theorem dX8_begins_45 : decode cX8_begins 45 = .ok (.ireturn, 1) := by decide +kernel
theorem dX8_lengthFrom_0 : decode cX8_lengthFrom 0 = .ok (.iconst 1, 1) := by decide +kernel
theorem dX8_lengthFrom_1 : decode cX8_lengthFrom 1 = .ok (.istore 4, 2) := by decide +kernel
theorem dX8_lengthFrom_3 : decode cX8_lengthFrom 3 = .ok (.iload_n 3, 1) := by decide +kernel
theorem dX8_lengthFrom_4 : decode cX8_lengthFrom 4 = .ok (.iload 4, 2) := by decide +kernel
theorem dX8_lengthFrom_6 : decode cX8_lengthFrom 6 = .ok (.iadd, 1) := by decide +kernel
theorem dX8_lengthFrom_7 : decode cX8_lengthFrom 7 = .ok (.aload_n 0, 1) := by decide +kernel
theorem dX8_lengthFrom_8 : decode cX8_lengthFrom 8 = .ok (.getfield 7, 3) := by decide +kernel
theorem dX8_lengthFrom_11 : decode cX8_lengthFrom 11 = .ok (.if_icmp .ge 38, 3) := by decide +kernel
theorem dX8_lengthFrom_14 : decode cX8_lengthFrom 14 = .ok (.aload_n 0, 1) := by decide +kernel
theorem dX8_lengthFrom_15 : decode cX8_lengthFrom 15 = .ok (.getfield 13, 3) := by decide +kernel
theorem dX8_lengthFrom_18 : decode cX8_lengthFrom 18 = .ok (.iload_n 1, 1) := by decide +kernel
theorem dX8_lengthFrom_19 : decode cX8_lengthFrom 19 = .ok (.iaload, 1) := by decide +kernel
theorem dX8_lengthFrom_20 : decode cX8_lengthFrom 20 = .ok (.iload_n 3, 1) := by decide +kernel
theorem dX8_lengthFrom_21 : decode cX8_lengthFrom 21 = .ok (.iload 4, 2) := by decide +kernel
theorem dX8_lengthFrom_23 : decode cX8_lengthFrom 23 = .ok (.iadd, 1) := by decide +kernel
theorem dX8_lengthFrom_24 : decode cX8_lengthFrom 24 = .ok (.invokestatic 69, 3) := by decide +kernel
theorem dX8_lengthFrom_27 : decode cX8_lengthFrom 27 = .ok (.ifCond .ne 22, 3) := by decide +kernel
theorem dX8_lengthFrom_30 : decode cX8_lengthFrom 30 = .ok (.aload_n 0, 1) := by decide +kernel
theorem dX8_lengthFrom_31 : decode cX8_lengthFrom 31 = .ok (.iload_n 1, 1) := by decide +kernel
theorem dX8_lengthFrom_32 : decode cX8_lengthFrom 32 = .ok (.iload_n 2, 1) := by decide +kernel
theorem dX8_lengthFrom_33 : decode cX8_lengthFrom 33 = .ok (.iload_n 3, 1) := by decide +kernel
theorem dX8_lengthFrom_34 : decode cX8_lengthFrom 34 = .ok (.iload 4, 2) := by decide +kernel
theorem dX8_lengthFrom_36 : decode cX8_lengthFrom 36 = .ok (.iadd, 1) := by decide +kernel
theorem dX8_lengthFrom_37 : decode cX8_lengthFrom 37 = .ok (.invokevirtual 77, 3) := by decide +kernel
theorem dX8_lengthFrom_40 : decode cX8_lengthFrom 40 = .ok (.ifCond .ne 9, 3) := by decide +kernel
theorem dX8_lengthFrom_43 : decode cX8_lengthFrom 43 = .ok (.iinc 4 1, 3) := by decide +kernel
theorem dX8_lengthFrom_46 : decode cX8_lengthFrom 46 = .ok (.goto (-43), 3) := by decide +kernel
theorem dX8_lengthFrom_49 : decode cX8_lengthFrom 49 = .ok (.iload 4, 2) := by decide +kernel
theorem dX8_lengthFrom_51 : decode cX8_lengthFrom 51 = .ok (.ireturn, 1) := by decide +kernel
theorem dX8_firstOf_0 : decode cX8_firstOf 0 = .ok (.iload_n 3, 1) := by decide +kernel
theorem dX8_firstOf_1 : decode cX8_firstOf 1 = .ok (.istore 4, 2) := by decide +kernel
theorem dX8_firstOf_3 : decode cX8_firstOf 3 = .ok (.aload_n 0, 1) := by decide +kernel
theorem dX8_firstOf_4 : decode cX8_firstOf 4 = .ok (.iload_n 1, 1) := by decide +kernel
theorem dX8_firstOf_5 : decode cX8_firstOf 5 = .ok (.iload_n 2, 1) := by decide +kernel
theorem dX8_firstOf_6 : decode cX8_firstOf 6 = .ok (.iload 4, 2) := by decide +kernel
theorem dX8_firstOf_8 : decode cX8_firstOf 8 = .ok (.invokevirtual 77, 3) := by decide +kernel
theorem dX8_firstOf_11 : decode cX8_firstOf 11 = .ok (.ifCond .ne 9, 3) := by decide +kernel
theorem dX8_firstOf_14 : decode cX8_firstOf 14 = .ok (.iinc 4 (-1), 3) := by decide +kernel
theorem dX8_firstOf_17 : decode cX8_firstOf 17 = .ok (.goto (-14), 3) := by decide +kernel
theorem dX8_firstOf_20 : decode cX8_firstOf 20 = .ok (.iload 4, 2) := by decide +kernel
theorem dX8_firstOf_22 : decode cX8_firstOf 22 = .ok (.ireturn, 1) := by decide +kernel
theorem dX8_isWithin_0 : decode cX8_isWithin 0 = .ok (.iconst 1, 1) := by decide +kernel
theorem dX8_isWithin_1 : decode cX8_isWithin 1 = .ok (.istore_n 3, 1) := by decide +kernel
theorem dX8_isWithin_2 : decode cX8_isWithin 2 = .ok (.iconst 1, 1) := by decide +kernel
theorem dX8_isWithin_3 : decode cX8_isWithin 3 = .ok (.istore 4, 2) := by decide +kernel
theorem dX8_isWithin_5 : decode cX8_isWithin 5 = .ok (.iload 4, 2) := by decide +kernel
theorem dX8_isWithin_7 : decode cX8_isWithin 7 = .ok (.aload_n 0, 1) := by decide +kernel
theorem dX8_isWithin_8 : decode cX8_isWithin 8 = .ok (.getfield 7, 3) := by decide +kernel
theorem dX8_isWithin_11 : decode cX8_isWithin 11 = .ok (.if_icmp .ge 58, 3) := by decide +kernel
theorem dX8_isWithin_14 : decode cX8_isWithin 14 = .ok (.iload_n 3, 1) := by decide +kernel
theorem dX8_isWithin_15 : decode cX8_isWithin 15 = .ok (.ifCond .eq 46, 3) := by decide +kernel
theorem dX8_isWithin_18 : decode cX8_isWithin 18 = .ok (.iload_n 2, 1) := by decide +kernel
theorem dX8_isWithin_19 : decode cX8_isWithin 19 = .ok (.iload 4, 2) := by decide +kernel
theorem dX8_isWithin_21 : decode cX8_isWithin 21 = .ok (.invokestatic 69, 3) := by decide +kernel
theorem dX8_isWithin_24 : decode cX8_isWithin 24 = .ok (.ifCond .eq 33, 3) := by decide +kernel
theorem dX8_isWithin_27 : decode cX8_isWithin 27 = .ok (.aload_n 0, 1) := by decide +kernel
theorem dX8_isWithin_28 : decode cX8_isWithin 28 = .ok (.getfield 13, 3) := by decide +kernel
theorem dX8_isWithin_31 : decode cX8_isWithin 31 = .ok (.iload_n 1, 1) := by decide +kernel
theorem dX8_isWithin_32 : decode cX8_isWithin 32 = .ok (.iaload, 1) := by decide +kernel
theorem dX8_isWithin_33 : decode cX8_isWithin 33 = .ok (.iload 4, 2) := by decide +kernel
theorem dX8_isWithin_35 : decode cX8_isWithin 35 = .ok (.invokestatic 69, 3) := by decide +kernel
theorem dX8_isWithin_38 : decode cX8_isWithin 38 = .ok (.ifCond .ne 23, 3) := by decide +kernel
theorem dX8_isWithin_41 : decode cX8_isWithin 41 = .ok (.aload_n 0, 1) := by decide +kernel
theorem dX8_isWithin_42 : decode cX8_isWithin 42 = .ok (.getfield 13, 3) := by decide +kernel
theorem dX8_isWithin_45 : decode cX8_isWithin 45 = .ok (.iload_n 1, 1) := by decide +kernel
theorem dX8_isWithin_46 : decode cX8_isWithin 46 = .ok (.iaload, 1) := by decide +kernel
theorem dX8_isWithin_47 : decode cX8_isWithin 47 = .ok (.iload 4, 2) := by decide +kernel
theorem dX8_isWithin_49 : decode cX8_isWithin 49 = .ok (.iconst 1, 1) := by decide +kernel
theorem dX8_isWithin_50 : decode cX8_isWithin 50 = .ok (.isub, 1) := by decide +kernel
theorem dX8_isWithin_51 : decode cX8_isWithin 51 = .ok (.invokestatic 69, 3) := by decide +kernel
theorem dX8_isWithin_54 : decode cX8_isWithin 54 = .ok (.ifCond .ne 7, 3) := by decide +kernel
theorem dX8_isWithin_57 : decode cX8_isWithin 57 = .ok (.iconst 1, 1) := by decide +kernel
theorem dX8_isWithin_58 : decode cX8_isWithin 58 = .ok (.goto 4, 3) := by decide +kernel
theorem dX8_isWithin_61 : decode cX8_isWithin 61 = .ok (.iconst 0, 1) := by decide +kernel
theorem dX8_isWithin_62 : decode cX8_isWithin 62 = .ok (.istore_n 3, 1) := by decide +kernel
theorem dX8_isWithin_63 : decode cX8_isWithin 63 = .ok (.iinc 4 1, 3) := by decide +kernel
theorem dX8_isWithin_66 : decode cX8_isWithin 66 = .ok (.goto (-61), 3) := by decide +kernel
theorem dX8_isWithin_69 : decode cX8_isWithin 69 = .ok (.iload_n 3, 1) := by decide +kernel
theorem dX8_isWithin_70 : decode cX8_isWithin 70 = .ok (.ireturn, 1) := by decide +kernel
theorem dX8_isPriced_0 : decode cX8_isPriced 0 = .ok (.iload_n 1, 1) := by decide +kernel
theorem dX8_isPriced_1 : decode cX8_isPriced 1 = .ok (.bipush 6, 2) := by decide +kernel
theorem dX8_isPriced_3 : decode cX8_isPriced 3 = .ok (.if_icmp .gt 18, 3) := by decide +kernel
theorem dX8_isPriced_6 : decode cX8_isPriced 6 = .ok (.aload_n 0, 1) := by decide +kernel
theorem dX8_isPriced_7 : decode cX8_isPriced 7 = .ok (.getfield 26, 3) := by decide +kernel
theorem dX8_isPriced_10 : decode cX8_isPriced 10 = .ok (.iload_n 1, 1) := by decide +kernel
theorem dX8_isPriced_11 : decode cX8_isPriced 11 = .ok (.iaload, 1) := by decide +kernel
theorem dX8_isPriced_12 : decode cX8_isPriced 12 = .ok (.bipush (-9), 2) := by decide +kernel
theorem dX8_isPriced_14 : decode cX8_isPriced 14 = .ok (.if_icmp .eq 7, 3) := by decide +kernel
theorem dX8_isPriced_17 : decode cX8_isPriced 17 = .ok (.iconst 1, 1) := by decide +kernel
theorem dX8_isPriced_18 : decode cX8_isPriced 18 = .ok (.goto 4, 3) := by decide +kernel
theorem dX8_isPriced_21 : decode cX8_isPriced 21 = .ok (.iconst 0, 1) := by decide +kernel
theorem dX8_isPriced_22 : decode cX8_isPriced 22 = .ok (.ireturn, 1) := by decide +kernel
theorem dX8_areEnds_0 : decode cX8_areEnds 0 = .ok (.aload_n 0, 1) := by decide +kernel
theorem dX8_areEnds_1 : decode cX8_areEnds 1 = .ok (.getfield 13, 3) := by decide +kernel
theorem dX8_areEnds_4 : decode cX8_areEnds 4 = .ok (.iload_n 1, 1) := by decide +kernel
theorem dX8_areEnds_5 : decode cX8_areEnds 5 = .ok (.iaload, 1) := by decide +kernel
theorem dX8_areEnds_6 : decode cX8_areEnds 6 = .ok (.iconst 0, 1) := by decide +kernel
theorem dX8_areEnds_7 : decode cX8_areEnds 7 = .ok (.invokestatic 69, 3) := by decide +kernel
theorem dX8_areEnds_10 : decode cX8_areEnds 10 = .ok (.ifCond .ne 26, 3) := by decide +kernel
theorem dX8_areEnds_13 : decode cX8_areEnds 13 = .ok (.aload_n 0, 1) := by decide +kernel
theorem dX8_areEnds_14 : decode cX8_areEnds 14 = .ok (.getfield 29, 3) := by decide +kernel
theorem dX8_areEnds_17 : decode cX8_areEnds 17 = .ok (.iload_n 1, 1) := by decide +kernel
theorem dX8_areEnds_18 : decode cX8_areEnds 18 = .ok (.iconst 2, 1) := by decide +kernel
theorem dX8_areEnds_19 : decode cX8_areEnds 19 = .ok (.irem, 1) := by decide +kernel
theorem dX8_areEnds_20 : decode cX8_areEnds 20 = .ok (.iconst 2, 1) := by decide +kernel
theorem dX8_areEnds_21 : decode cX8_areEnds 21 = .ok (.imul, 1) := by decide +kernel
theorem dX8_areEnds_22 : decode cX8_areEnds 22 = .ok (.iaload, 1) := by decide +kernel
theorem dX8_areEnds_23 : decode cX8_areEnds 23 = .ok (.aload_n 0, 1) := by decide +kernel
theorem dX8_areEnds_24 : decode cX8_areEnds 24 = .ok (.iload_n 1, 1) := by decide +kernel
theorem dX8_areEnds_25 : decode cX8_areEnds 25 = .ok (.iload_n 2, 1) := by decide +kernel
theorem dX8_areEnds_26 : decode cX8_areEnds 26 = .ok (.iconst 0, 1) := by decide +kernel
theorem dX8_areEnds_27 : decode cX8_areEnds 27 = .ok (.invokevirtual 80, 3) := by decide +kernel
theorem dX8_areEnds_30 : decode cX8_areEnds 30 = .ok (.invokestatic 69, 3) := by decide +kernel
theorem dX8_areEnds_33 : decode cX8_areEnds 33 = .ok (.ifCond .eq 7, 3) := by decide +kernel
theorem dX8_areEnds_36 : decode cX8_areEnds 36 = .ok (.iconst 1, 1) := by decide +kernel
theorem dX8_areEnds_37 : decode cX8_areEnds 37 = .ok (.goto 4, 3) := by decide +kernel
theorem dX8_areEnds_40 : decode cX8_areEnds 40 = .ok (.iconst 0, 1) := by decide +kernel
theorem dX8_areEnds_41 : decode cX8_areEnds 41 = .ok (.istore_n 3, 1) := by decide +kernel
theorem dX8_areEnds_42 : decode cX8_areEnds 42 = .ok (.aload_n 0, 1) := by decide +kernel
theorem dX8_areEnds_43 : decode cX8_areEnds 43 = .ok (.getfield 7, 3) := by decide +kernel
theorem dX8_areEnds_46 : decode cX8_areEnds 46 = .ok (.iconst 1, 1) := by decide +kernel
theorem dX8_areEnds_47 : decode cX8_areEnds 47 = .ok (.isub, 1) := by decide +kernel
theorem dX8_areEnds_48 : decode cX8_areEnds 48 = .ok (.istore 4, 2) := by decide +kernel
theorem dX8_areEnds_50 : decode cX8_areEnds 50 = .ok (.aload_n 0, 1) := by decide +kernel
theorem dX8_areEnds_51 : decode cX8_areEnds 51 = .ok (.getfield 13, 3) := by decide +kernel
theorem dX8_areEnds_54 : decode cX8_areEnds 54 = .ok (.iload_n 1, 1) := by decide +kernel
theorem dX8_areEnds_55 : decode cX8_areEnds 55 = .ok (.iaload, 1) := by decide +kernel
theorem dX8_areEnds_56 : decode cX8_areEnds 56 = .ok (.iload 4, 2) := by decide +kernel
theorem dX8_areEnds_58 : decode cX8_areEnds 58 = .ok (.invokestatic 69, 3) := by decide +kernel
theorem dX8_areEnds_61 : decode cX8_areEnds 61 = .ok (.ifCond .ne 35, 3) := by decide +kernel
theorem dX8_areEnds_64 : decode cX8_areEnds 64 = .ok (.aload_n 0, 1) := by decide +kernel
theorem dX8_areEnds_65 : decode cX8_areEnds 65 = .ok (.getfield 29, 3) := by decide +kernel
theorem dX8_areEnds_68 : decode cX8_areEnds 68 = .ok (.iload_n 1, 1) := by decide +kernel
theorem dX8_areEnds_69 : decode cX8_areEnds 69 = .ok (.iconst 2, 1) := by decide +kernel
theorem dX8_areEnds_70 : decode cX8_areEnds 70 = .ok (.irem, 1) := by decide +kernel
theorem dX8_areEnds_71 : decode cX8_areEnds 71 = .ok (.iconst 2, 1) := by decide +kernel
theorem dX8_areEnds_72 : decode cX8_areEnds 72 = .ok (.imul, 1) := by decide +kernel
theorem dX8_areEnds_73 : decode cX8_areEnds 73 = .ok (.iconst 1, 1) := by decide +kernel
theorem dX8_areEnds_74 : decode cX8_areEnds 74 = .ok (.iadd, 1) := by decide +kernel
theorem dX8_areEnds_75 : decode cX8_areEnds 75 = .ok (.iaload, 1) := by decide +kernel
theorem dX8_areEnds_76 : decode cX8_areEnds 76 = .ok (.aload_n 0, 1) := by decide +kernel
theorem dX8_areEnds_77 : decode cX8_areEnds 77 = .ok (.iload_n 1, 1) := by decide +kernel
theorem dX8_areEnds_78 : decode cX8_areEnds 78 = .ok (.iload_n 2, 1) := by decide +kernel
theorem dX8_areEnds_79 : decode cX8_areEnds 79 = .ok (.aload_n 0, 1) := by decide +kernel
theorem dX8_areEnds_80 : decode cX8_areEnds 80 = .ok (.iload_n 1, 1) := by decide +kernel
theorem dX8_areEnds_81 : decode cX8_areEnds 81 = .ok (.iload_n 2, 1) := by decide +kernel
theorem dX8_areEnds_82 : decode cX8_areEnds 82 = .ok (.iload 4, 2) := by decide +kernel
theorem dX8_areEnds_84 : decode cX8_areEnds 84 = .ok (.invokevirtual 84, 3) := by decide +kernel
theorem dX8_areEnds_87 : decode cX8_areEnds 87 = .ok (.invokevirtual 80, 3) := by decide +kernel
theorem dX8_areEnds_90 : decode cX8_areEnds 90 = .ok (.invokestatic 69, 3) := by decide +kernel
theorem dX8_areEnds_93 : decode cX8_areEnds 93 = .ok (.ifCond .eq 7, 3) := by decide +kernel
theorem dX8_areEnds_96 : decode cX8_areEnds 96 = .ok (.iconst 1, 1) := by decide +kernel
theorem dX8_areEnds_97 : decode cX8_areEnds 97 = .ok (.goto 4, 3) := by decide +kernel
theorem dX8_areEnds_100 : decode cX8_areEnds 100 = .ok (.iconst 0, 1) := by decide +kernel
theorem dX8_areEnds_101 : decode cX8_areEnds 101 = .ok (.istore 5, 2) := by decide +kernel
theorem dX8_areEnds_103 : decode cX8_areEnds 103 = .ok (.iload_n 3, 1) := by decide +kernel
theorem dX8_areEnds_104 : decode cX8_areEnds 104 = .ok (.ifCond .eq 12, 3) := by decide +kernel
theorem dX8_areEnds_107 : decode cX8_areEnds 107 = .ok (.iload 5, 2) := by decide +kernel
theorem dX8_areEnds_109 : decode cX8_areEnds 109 = .ok (.ifCond .eq 7, 3) := by decide +kernel
theorem dX8_areEnds_112 : decode cX8_areEnds 112 = .ok (.iconst 1, 1) := by decide +kernel
theorem dX8_areEnds_113 : decode cX8_areEnds 113 = .ok (.goto 4, 3) := by decide +kernel
theorem dX8_areEnds_116 : decode cX8_areEnds 116 = .ok (.iconst 0, 1) := by decide +kernel
theorem dX8_areEnds_117 : decode cX8_areEnds 117 = .ok (.ireturn, 1) := by decide +kernel
theorem dX8_breaks_0 : decode cX8_breaks 0 = .ok (.iload_n 1, 1) := by decide +kernel
theorem dX8_breaks_1 : decode cX8_breaks 1 = .ok (.ifCond .ne 7, 3) := by decide +kernel
theorem dX8_breaks_4 : decode cX8_breaks 4 = .ok (.iconst 0, 1) := by decide +kernel
theorem dX8_breaks_5 : decode cX8_breaks 5 = .ok (.goto 11, 3) := by decide +kernel
theorem dX8_breaks_8 : decode cX8_breaks 8 = .ok (.aload_n 0, 1) := by decide +kernel
theorem dX8_breaks_9 : decode cX8_breaks 9 = .ok (.getfield 13, 3) := by decide +kernel
theorem dX8_breaks_12 : decode cX8_breaks 12 = .ok (.iload_n 1, 1) := by decide +kernel
theorem dX8_breaks_13 : decode cX8_breaks 13 = .ok (.iconst 1, 1) := by decide +kernel
theorem dX8_breaks_14 : decode cX8_breaks 14 = .ok (.isub, 1) := by decide +kernel
theorem dX8_breaks_15 : decode cX8_breaks 15 = .ok (.iaload, 1) := by decide +kernel
theorem dX8_breaks_16 : decode cX8_breaks 16 = .ok (.istore 5, 2) := by decide +kernel
theorem dX8_breaks_18 : decode cX8_breaks 18 = .ok (.iload 4, 2) := by decide +kernel
theorem dX8_breaks_20 : decode cX8_breaks 20 = .ok (.iconst 3, 1) := by decide +kernel
theorem dX8_breaks_21 : decode cX8_breaks 21 = .ok (.if_icmp .ne 17, 3) := by decide +kernel
theorem dX8_breaks_24 : decode cX8_breaks 24 = .ok (.aload_n 0, 1) := by decide +kernel
theorem dX8_breaks_25 : decode cX8_breaks 25 = .ok (.iload_n 3, 1) := by decide +kernel
theorem dX8_breaks_26 : decode cX8_breaks 26 = .ok (.invokevirtual 87, 3) := by decide +kernel
theorem dX8_breaks_29 : decode cX8_breaks 29 = .ok (.ifCond .ne 7, 3) := by decide +kernel
theorem dX8_breaks_32 : decode cX8_breaks 32 = .ok (.iconst 1, 1) := by decide +kernel
theorem dX8_breaks_33 : decode cX8_breaks 33 = .ok (.goto 4, 3) := by decide +kernel
theorem dX8_breaks_36 : decode cX8_breaks 36 = .ok (.iconst 0, 1) := by decide +kernel
theorem dX8_breaks_37 : decode cX8_breaks 37 = .ok (.ireturn, 1) := by decide +kernel
theorem dX8_breaks_38 : decode cX8_breaks 38 = .ok (.iload 4, 2) := by decide +kernel
theorem dX8_breaks_40 : decode cX8_breaks 40 = .ok (.iconst 5, 1) := by decide +kernel
theorem dX8_breaks_41 : decode cX8_breaks 41 = .ok (.if_icmp .ne 31, 3) := by decide +kernel
theorem dX8_breaks_44 : decode cX8_breaks 44 = .ok (.iload 5, 2) := by decide +kernel
theorem dX8_breaks_46 : decode cX8_breaks 46 = .ok (.iload_n 2, 1) := by decide +kernel
theorem dX8_breaks_47 : decode cX8_breaks 47 = .ok (.invokestatic 69, 3) := by decide +kernel
theorem dX8_breaks_50 : decode cX8_breaks 50 = .ok (.ifCond .ne 16, 3) := by decide +kernel
theorem dX8_breaks_53 : decode cX8_breaks 53 = .ok (.iload 5, 2) := by decide +kernel
theorem dX8_breaks_55 : decode cX8_breaks 55 = .ok (.iload_n 2, 1) := by decide +kernel
theorem dX8_breaks_56 : decode cX8_breaks 56 = .ok (.iload_n 3, 1) := by decide +kernel
theorem dX8_breaks_57 : decode cX8_breaks 57 = .ok (.iadd, 1) := by decide +kernel
theorem dX8_breaks_58 : decode cX8_breaks 58 = .ok (.iconst 1, 1) := by decide +kernel
theorem dX8_breaks_59 : decode cX8_breaks 59 = .ok (.isub, 1) := by decide +kernel
theorem dX8_breaks_60 : decode cX8_breaks 60 = .ok (.invokestatic 69, 3) := by decide +kernel
theorem dX8_breaks_63 : decode cX8_breaks 63 = .ok (.ifCond .eq 7, 3) := by decide +kernel
theorem dX8_breaks_66 : decode cX8_breaks 66 = .ok (.iconst 1, 1) := by decide +kernel
theorem dX8_breaks_67 : decode cX8_breaks 67 = .ok (.goto 4, 3) := by decide +kernel
theorem dX8_breaks_70 : decode cX8_breaks 70 = .ok (.iconst 0, 1) := by decide +kernel
theorem dX8_breaks_71 : decode cX8_breaks 71 = .ok (.ireturn, 1) := by decide +kernel
theorem dX8_breaks_72 : decode cX8_breaks 72 = .ok (.iconst 0, 1) := by decide +kernel
theorem dX8_breaks_73 : decode cX8_breaks 73 = .ok (.istore 6, 2) := by decide +kernel
theorem dX8_breaks_75 : decode cX8_breaks 75 = .ok (.iconst 0, 1) := by decide +kernel
theorem dX8_breaks_76 : decode cX8_breaks 76 = .ok (.istore 7, 2) := by decide +kernel
theorem dX8_breaks_78 : decode cX8_breaks 78 = .ok (.iload 7, 2) := by decide +kernel
theorem dX8_breaks_80 : decode cX8_breaks 80 = .ok (.iload_n 3, 1) := by decide +kernel
theorem dX8_breaks_81 : decode cX8_breaks 81 = .ok (.if_icmp .ge 33, 3) := by decide +kernel
theorem dX8_breaks_84 : decode cX8_breaks 84 = .ok (.iload 6, 2) := by decide +kernel
theorem dX8_breaks_86 : decode cX8_breaks 86 = .ok (.ifCond .ne 15, 3) := by decide +kernel
theorem dX8_breaks_89 : decode cX8_breaks 89 = .ok (.iload 5, 2) := by decide +kernel
theorem dX8_breaks_91 : decode cX8_breaks 91 = .ok (.iload_n 2, 1) := by decide +kernel
theorem dX8_breaks_92 : decode cX8_breaks 92 = .ok (.iload 7, 2) := by decide +kernel
theorem dX8_breaks_94 : decode cX8_breaks 94 = .ok (.iadd, 1) := by decide +kernel
theorem dX8_breaks_95 : decode cX8_breaks 95 = .ok (.invokestatic 69, 3) := by decide +kernel
theorem dX8_breaks_98 : decode cX8_breaks 98 = .ok (.ifCond .eq 7, 3) := by decide +kernel
theorem dX8_breaks_101 : decode cX8_breaks 101 = .ok (.iconst 1, 1) := by decide +kernel
theorem dX8_breaks_102 : decode cX8_breaks 102 = .ok (.goto 4, 3) := by decide +kernel
theorem dX8_breaks_105 : decode cX8_breaks 105 = .ok (.iconst 0, 1) := by decide +kernel
theorem dX8_breaks_106 : decode cX8_breaks 106 = .ok (.istore 6, 2) := by decide +kernel
theorem dX8_breaks_108 : decode cX8_breaks 108 = .ok (.iinc 7 1, 3) := by decide +kernel
theorem dX8_breaks_111 : decode cX8_breaks 111 = .ok (.goto (-33), 3) := by decide +kernel
theorem dX8_breaks_114 : decode cX8_breaks 114 = .ok (.iload_n 3, 1) := by decide +kernel
theorem dX8_breaks_115 : decode cX8_breaks 115 = .ok (.iconst 4, 1) := by decide +kernel
theorem dX8_breaks_116 : decode cX8_breaks 116 = .ok (.if_icmp .le 12, 3) := by decide +kernel
theorem dX8_breaks_119 : decode cX8_breaks 119 = .ok (.iload 6, 2) := by decide +kernel
theorem dX8_breaks_121 : decode cX8_breaks 121 = .ok (.ifCond .ne 7, 3) := by decide +kernel
theorem dX8_breaks_124 : decode cX8_breaks 124 = .ok (.iconst 1, 1) := by decide +kernel
theorem dX8_breaks_125 : decode cX8_breaks 125 = .ok (.goto 4, 3) := by decide +kernel
theorem dX8_breaks_128 : decode cX8_breaks 128 = .ok (.iconst 0, 1) := by decide +kernel
theorem dX8_breaks_129 : decode cX8_breaks 129 = .ok (.ireturn, 1) := by decide +kernel
theorem dX8_somePiece_0 : decode cX8_somePiece 0 = .ok (.iconst 0, 1) := by decide +kernel
theorem dX8_somePiece_1 : decode cX8_somePiece 1 = .ok (.istore 4, 2) := by decide +kernel
theorem dX8_somePiece_3 : decode cX8_somePiece 3 = .ok (.iconst 0, 1) := by decide +kernel
theorem dX8_somePiece_4 : decode cX8_somePiece 4 = .ok (.istore 5, 2) := by decide +kernel
theorem dX8_somePiece_6 : decode cX8_somePiece 6 = .ok (.iload 5, 2) := by decide +kernel
theorem dX8_somePiece_8 : decode cX8_somePiece 8 = .ok (.aload_n 0, 1) := by decide +kernel
theorem dX8_somePiece_9 : decode cX8_somePiece 9 = .ok (.getfield 7, 3) := by decide +kernel
theorem dX8_somePiece_12 : decode cX8_somePiece 12 = .ok (.if_icmp .ge 51, 3) := by decide +kernel
theorem dX8_somePiece_15 : decode cX8_somePiece 15 = .ok (.iload 4, 2) := by decide +kernel
theorem dX8_somePiece_17 : decode cX8_somePiece 17 = .ok (.ifCond .ne 33, 3) := by decide +kernel
theorem dX8_somePiece_20 : decode cX8_somePiece 20 = .ok (.aload_n 0, 1) := by decide +kernel
theorem dX8_somePiece_21 : decode cX8_somePiece 21 = .ok (.iload_n 1, 1) := by decide +kernel
theorem dX8_somePiece_22 : decode cX8_somePiece 22 = .ok (.iload_n 2, 1) := by decide +kernel
theorem dX8_somePiece_23 : decode cX8_somePiece 23 = .ok (.iload 5, 2) := by decide +kernel
theorem dX8_somePiece_25 : decode cX8_somePiece 25 = .ok (.invokevirtual 77, 3) := by decide +kernel
theorem dX8_somePiece_28 : decode cX8_somePiece 28 = .ok (.ifCond .eq 26, 3) := by decide +kernel
theorem dX8_somePiece_31 : decode cX8_somePiece 31 = .ok (.aload_n 0, 1) := by decide +kernel
theorem dX8_somePiece_32 : decode cX8_somePiece 32 = .ok (.iload_n 1, 1) := by decide +kernel
theorem dX8_somePiece_33 : decode cX8_somePiece 33 = .ok (.iload 5, 2) := by decide +kernel
theorem dX8_somePiece_35 : decode cX8_somePiece 35 = .ok (.aload_n 0, 1) := by decide +kernel
theorem dX8_somePiece_36 : decode cX8_somePiece 36 = .ok (.iload_n 1, 1) := by decide +kernel
theorem dX8_somePiece_37 : decode cX8_somePiece 37 = .ok (.iload_n 2, 1) := by decide +kernel
theorem dX8_somePiece_38 : decode cX8_somePiece 38 = .ok (.iload 5, 2) := by decide +kernel
theorem dX8_somePiece_40 : decode cX8_somePiece 40 = .ok (.invokevirtual 80, 3) := by decide +kernel
theorem dX8_somePiece_43 : decode cX8_somePiece 43 = .ok (.iload_n 3, 1) := by decide +kernel
theorem dX8_somePiece_44 : decode cX8_somePiece 44 = .ok (.invokevirtual 90, 3) := by decide +kernel
theorem dX8_somePiece_47 : decode cX8_somePiece 47 = .ok (.ifCond .eq 7, 3) := by decide +kernel
theorem dX8_somePiece_50 : decode cX8_somePiece 50 = .ok (.iconst 1, 1) := by decide +kernel
theorem dX8_somePiece_51 : decode cX8_somePiece 51 = .ok (.goto 4, 3) := by decide +kernel
theorem dX8_somePiece_54 : decode cX8_somePiece 54 = .ok (.iconst 0, 1) := by decide +kernel
theorem dX8_somePiece_55 : decode cX8_somePiece 55 = .ok (.istore 4, 2) := by decide +kernel
theorem dX8_somePiece_57 : decode cX8_somePiece 57 = .ok (.iinc 5 1, 3) := by decide +kernel
theorem dX8_somePiece_60 : decode cX8_somePiece 60 = .ok (.goto (-54), 3) := by decide +kernel
theorem dX8_somePiece_63 : decode cX8_somePiece 63 = .ok (.iload 4, 2) := by decide +kernel
theorem dX8_somePiece_65 : decode cX8_somePiece 65 = .ok (.ireturn, 1) := by decide +kernel
theorem dX8_ruleOf_0 : decode cX8_ruleOf 0 = .ok (.aload_n 0, 1) := by decide +kernel
theorem dX8_ruleOf_1 : decode cX8_ruleOf 1 = .ok (.iload_n 1, 1) := by decide +kernel
theorem dX8_ruleOf_2 : decode cX8_ruleOf 2 = .ok (.iload_n 2, 1) := by decide +kernel
theorem dX8_ruleOf_3 : decode cX8_ruleOf 3 = .ok (.invokevirtual 94, 3) := by decide +kernel
theorem dX8_ruleOf_6 : decode cX8_ruleOf 6 = .ok (.ifCond .ne 5, 3) := by decide +kernel
theorem dX8_ruleOf_9 : decode cX8_ruleOf 9 = .ok (.iconst 1, 1) := by decide +kernel
theorem dX8_ruleOf_10 : decode cX8_ruleOf 10 = .ok (.ireturn, 1) := by decide +kernel
theorem dX8_ruleOf_11 : decode cX8_ruleOf 11 = .ok (.aload_n 0, 1) := by decide +kernel
theorem dX8_ruleOf_12 : decode cX8_ruleOf 12 = .ok (.getfield 17, 3) := by decide +kernel
theorem dX8_ruleOf_15 : decode cX8_ruleOf 15 = .ok (.iload_n 1, 1) := by decide +kernel
theorem dX8_ruleOf_16 : decode cX8_ruleOf 16 = .ok (.iaload, 1) := by decide +kernel
theorem dX8_ruleOf_17 : decode cX8_ruleOf 17 = .ok (.iload_n 2, 1) := by decide +kernel
theorem dX8_ruleOf_18 : decode cX8_ruleOf 18 = .ok (.iconst (-1), 1) := by decide +kernel
theorem dX8_ruleOf_19 : decode cX8_ruleOf 19 = .ok (.ixor, 1) := by decide +kernel
theorem dX8_ruleOf_20 : decode cX8_ruleOf 20 = .ok (.iand, 1) := by decide +kernel
theorem dX8_ruleOf_21 : decode cX8_ruleOf 21 = .ok (.ifCond .ne 14, 3) := by decide +kernel
theorem dX8_ruleOf_24 : decode cX8_ruleOf 24 = .ok (.aload_n 0, 1) := by decide +kernel
theorem dX8_ruleOf_25 : decode cX8_ruleOf 25 = .ok (.getfield 20, 3) := by decide +kernel
theorem dX8_ruleOf_28 : decode cX8_ruleOf 28 = .ok (.iload_n 1, 1) := by decide +kernel
theorem dX8_ruleOf_29 : decode cX8_ruleOf 29 = .ok (.iaload, 1) := by decide +kernel
theorem dX8_ruleOf_30 : decode cX8_ruleOf 30 = .ok (.iload_n 2, 1) := by decide +kernel
theorem dX8_ruleOf_31 : decode cX8_ruleOf 31 = .ok (.iand, 1) := by decide +kernel
theorem dX8_ruleOf_32 : decode cX8_ruleOf 32 = .ok (.ifCond .eq 5, 3) := by decide +kernel
theorem dX8_ruleOf_35 : decode cX8_ruleOf 35 = .ok (.iconst 2, 1) := by decide +kernel
theorem dX8_ruleOf_36 : decode cX8_ruleOf 36 = .ok (.ireturn, 1) := by decide +kernel
theorem dX8_ruleOf_37 : decode cX8_ruleOf 37 = .ok (.aload_n 0, 1) := by decide +kernel
theorem dX8_ruleOf_38 : decode cX8_ruleOf 38 = .ok (.iload_n 1, 1) := by decide +kernel
theorem dX8_ruleOf_39 : decode cX8_ruleOf 39 = .ok (.iload_n 2, 1) := by decide +kernel
theorem dX8_ruleOf_40 : decode cX8_ruleOf 40 = .ok (.iconst 3, 1) := by decide +kernel
theorem dX8_ruleOf_41 : decode cX8_ruleOf 41 = .ok (.invokevirtual 97, 3) := by decide +kernel
theorem dX8_ruleOf_44 : decode cX8_ruleOf 44 = .ok (.ifCond .eq 5, 3) := by decide +kernel
theorem dX8_ruleOf_47 : decode cX8_ruleOf 47 = .ok (.iconst 3, 1) := by decide +kernel
theorem dX8_ruleOf_48 : decode cX8_ruleOf 48 = .ok (.ireturn, 1) := by decide +kernel
theorem dX8_ruleOf_49 : decode cX8_ruleOf 49 = .ok (.aload_n 0, 1) := by decide +kernel
theorem dX8_ruleOf_50 : decode cX8_ruleOf 50 = .ok (.iload_n 1, 1) := by decide +kernel
theorem dX8_ruleOf_51 : decode cX8_ruleOf 51 = .ok (.iload_n 2, 1) := by decide +kernel
theorem dX8_ruleOf_52 : decode cX8_ruleOf 52 = .ok (.invokevirtual 100, 3) := by decide +kernel
theorem dX8_ruleOf_55 : decode cX8_ruleOf 55 = .ok (.ifCond .ne 5, 3) := by decide +kernel
theorem dX8_ruleOf_58 : decode cX8_ruleOf 58 = .ok (.iconst 4, 1) := by decide +kernel
theorem dX8_ruleOf_59 : decode cX8_ruleOf 59 = .ok (.ireturn, 1) := by decide +kernel
theorem dX8_ruleOf_60 : decode cX8_ruleOf 60 = .ok (.aload_n 0, 1) := by decide +kernel
theorem dX8_ruleOf_61 : decode cX8_ruleOf 61 = .ok (.iload_n 1, 1) := by decide +kernel
theorem dX8_ruleOf_62 : decode cX8_ruleOf 62 = .ok (.iload_n 2, 1) := by decide +kernel
theorem dX8_ruleOf_63 : decode cX8_ruleOf 63 = .ok (.iconst 5, 1) := by decide +kernel
theorem dX8_ruleOf_64 : decode cX8_ruleOf 64 = .ok (.invokevirtual 97, 3) := by decide +kernel
theorem dX8_ruleOf_67 : decode cX8_ruleOf 67 = .ok (.ifCond .eq 7, 3) := by decide +kernel
theorem dX8_ruleOf_70 : decode cX8_ruleOf 70 = .ok (.iconst 5, 1) := by decide +kernel
theorem dX8_ruleOf_71 : decode cX8_ruleOf 71 = .ok (.goto 20, 3) := by decide +kernel
theorem dX8_ruleOf_74 : decode cX8_ruleOf 74 = .ok (.aload_n 0, 1) := by decide +kernel
theorem dX8_ruleOf_75 : decode cX8_ruleOf 75 = .ok (.iload_n 1, 1) := by decide +kernel
theorem dX8_ruleOf_76 : decode cX8_ruleOf 76 = .ok (.iload_n 2, 1) := by decide +kernel
theorem dX8_ruleOf_77 : decode cX8_ruleOf 77 = .ok (.bipush 6, 2) := by decide +kernel
theorem dX8_ruleOf_79 : decode cX8_ruleOf 79 = .ok (.invokevirtual 97, 3) := by decide +kernel
theorem dX8_ruleOf_82 : decode cX8_ruleOf 82 = .ok (.ifCond .eq 8, 3) := by decide +kernel
theorem dX8_ruleOf_85 : decode cX8_ruleOf 85 = .ok (.bipush 6, 2) := by decide +kernel
theorem dX8_ruleOf_87 : decode cX8_ruleOf 87 = .ok (.goto 4, 3) := by decide +kernel
theorem dX8_ruleOf_90 : decode cX8_ruleOf 90 = .ok (.iconst 0, 1) := by decide +kernel
theorem dX8_ruleOf_91 : decode cX8_ruleOf 91 = .ok (.ireturn, 1) := by decide +kernel
theorem dX8_around_0 : decode cX8_around 0 = .ok (.iload_n 0, 1) := by decide +kernel
theorem dX8_around_1 : decode cX8_around 1 = .ok (.istore_n 2, 1) := by decide +kernel
theorem dX8_around_2 : decode cX8_around 2 = .ok (.iconst 1, 1) := by decide +kernel
theorem dX8_around_3 : decode cX8_around 3 = .ok (.istore_n 3, 1) := by decide +kernel
theorem dX8_around_4 : decode cX8_around 4 = .ok (.iload_n 3, 1) := by decide +kernel
theorem dX8_around_5 : decode cX8_around 5 = .ok (.iload_n 1, 1) := by decide +kernel
theorem dX8_around_6 : decode cX8_around 6 = .ok (.if_icmp .ge 19, 3) := by decide +kernel
theorem dX8_around_9 : decode cX8_around 9 = .ok (.iload_n 2, 1) := by decide +kernel
theorem dX8_around_10 : decode cX8_around 10 = .ok (.iload_n 0, 1) := by decide +kernel
theorem dX8_around_11 : decode cX8_around 11 = .ok (.iload_n 3, 1) := by decide +kernel
theorem dX8_around_12 : decode cX8_around 12 = .ok (.ishl, 1) := by decide +kernel
theorem dX8_around_13 : decode cX8_around 13 = .ok (.iload_n 0, 1) := by decide +kernel
theorem dX8_around_14 : decode cX8_around 14 = .ok (.iload_n 3, 1) := by decide +kernel
theorem dX8_around_15 : decode cX8_around 15 = .ok (.ishr, 1) := by decide +kernel
theorem dX8_around_16 : decode cX8_around 16 = .ok (.ior, 1) := by decide +kernel
theorem dX8_around_17 : decode cX8_around 17 = .ok (.ior, 1) := by decide +kernel
theorem dX8_around_18 : decode cX8_around 18 = .ok (.istore_n 2, 1) := by decide +kernel
theorem dX8_around_19 : decode cX8_around 19 = .ok (.iinc 3 1, 3) := by decide +kernel
theorem dX8_around_22 : decode cX8_around 22 = .ok (.goto (-18), 3) := by decide +kernel
theorem dX8_around_25 : decode cX8_around 25 = .ok (.iload_n 2, 1) := by decide +kernel
theorem dX8_around_26 : decode cX8_around 26 = .ok (.ireturn, 1) := by decide +kernel
theorem dX8_costOf_0 : decode cX8_costOf 0 = .ok (.iconst 0, 1) := by decide +kernel
theorem dX8_costOf_1 : decode cX8_costOf 1 = .ok (.istore_n 3, 1) := by decide +kernel
theorem dX8_costOf_2 : decode cX8_costOf 2 = .ok (.iconst 0, 1) := by decide +kernel
theorem dX8_costOf_3 : decode cX8_costOf 3 = .ok (.istore 4, 2) := by decide +kernel
theorem dX8_costOf_5 : decode cX8_costOf 5 = .ok (.iload 4, 2) := by decide +kernel
theorem dX8_costOf_7 : decode cX8_costOf 7 = .ok (.aload_n 0, 1) := by decide +kernel
theorem dX8_costOf_8 : decode cX8_costOf 8 = .ok (.getfield 7, 3) := by decide +kernel
theorem dX8_costOf_11 : decode cX8_costOf 11 = .ok (.if_icmp .ge 54, 3) := by decide +kernel
theorem dX8_costOf_14 : decode cX8_costOf 14 = .ok (.aload_n 0, 1) := by decide +kernel
theorem dX8_costOf_15 : decode cX8_costOf 15 = .ok (.iload_n 1, 1) := by decide +kernel
theorem dX8_costOf_16 : decode cX8_costOf 16 = .ok (.iload_n 2, 1) := by decide +kernel
theorem dX8_costOf_17 : decode cX8_costOf 17 = .ok (.iload 4, 2) := by decide +kernel
theorem dX8_costOf_19 : decode cX8_costOf 19 = .ok (.invokevirtual 77, 3) := by decide +kernel
theorem dX8_costOf_22 : decode cX8_costOf 22 = .ok (.ifCond .eq 37, 3) := by decide +kernel
theorem dX8_costOf_25 : decode cX8_costOf 25 = .ok (.aload_n 0, 1) := by decide +kernel
theorem dX8_costOf_26 : decode cX8_costOf 26 = .ok (.iload_n 1, 1) := by decide +kernel
theorem dX8_costOf_27 : decode cX8_costOf 27 = .ok (.iload_n 2, 1) := by decide +kernel
theorem dX8_costOf_28 : decode cX8_costOf 28 = .ok (.iload 4, 2) := by decide +kernel
theorem dX8_costOf_30 : decode cX8_costOf 30 = .ok (.invokevirtual 80, 3) := by decide +kernel
theorem dX8_costOf_33 : decode cX8_costOf 33 = .ok (.istore 5, 2) := by decide +kernel
theorem dX8_costOf_35 : decode cX8_costOf 35 = .ok (.iload_n 3, 1) := by decide +kernel
theorem dX8_costOf_36 : decode cX8_costOf 36 = .ok (.aload_n 0, 1) := by decide +kernel
theorem dX8_costOf_37 : decode cX8_costOf 37 = .ok (.iload 5, 2) := by decide +kernel
theorem dX8_costOf_39 : decode cX8_costOf 39 = .ok (.invokevirtual 87, 3) := by decide +kernel
theorem dX8_costOf_42 : decode cX8_costOf 42 = .ok (.ifCond .eq 13, 3) := by decide +kernel
theorem dX8_costOf_45 : decode cX8_costOf 45 = .ok (.aload_n 0, 1) := by decide +kernel
theorem dX8_costOf_46 : decode cX8_costOf 46 = .ok (.getfield 26, 3) := by decide +kernel
theorem dX8_costOf_49 : decode cX8_costOf 49 = .ok (.iload 5, 2) := by decide +kernel
theorem dX8_costOf_51 : decode cX8_costOf 51 = .ok (.iaload, 1) := by decide +kernel
theorem dX8_costOf_52 : decode cX8_costOf 52 = .ok (.goto 5, 3) := by decide +kernel
theorem dX8_costOf_55 : decode cX8_costOf 55 = .ok (.bipush 100, 2) := by decide +kernel
theorem dX8_costOf_57 : decode cX8_costOf 57 = .ok (.iadd, 1) := by decide +kernel
theorem dX8_costOf_58 : decode cX8_costOf 58 = .ok (.istore_n 3, 1) := by decide +kernel
theorem dX8_costOf_59 : decode cX8_costOf 59 = .ok (.iinc 4 1, 3) := by decide +kernel
theorem dX8_costOf_62 : decode cX8_costOf 62 = .ok (.goto (-57), 3) := by decide +kernel
theorem dX8_costOf_65 : decode cX8_costOf 65 = .ok (.iload_n 3, 1) := by decide +kernel
theorem dX8_costOf_66 : decode cX8_costOf 66 = .ok (.ireturn, 1) := by decide +kernel
theorem dX8_findRows_0 : decode cX8_findRows 0 = .ok (.aload_n 0, 1) := by decide +kernel
theorem dX8_findRows_1 : decode cX8_findRows 1 = .ok (.getfield 35, 3) := by decide +kernel
theorem dX8_findRows_4 : decode cX8_findRows 4 = .ok (.iload_n 1, 1) := by decide +kernel
theorem dX8_findRows_5 : decode cX8_findRows 5 = .ok (.iconst 0, 1) := by decide +kernel
theorem dX8_findRows_6 : decode cX8_findRows 6 = .ok (.iastore, 1) := by decide +kernel
theorem dX8_findRows_7 : decode cX8_findRows 7 = .ok (.iconst 0, 1) := by decide +kernel
theorem dX8_findRows_8 : decode cX8_findRows 8 = .ok (.istore_n 2, 1) := by decide +kernel
theorem dX8_findRows_9 : decode cX8_findRows 9 = .ok (.iload_n 2, 1) := by decide +kernel
theorem dX8_findRows_10 : decode cX8_findRows 10 = .ok (.iconst 1, 1) := by decide +kernel
theorem dX8_findRows_11 : decode cX8_findRows 11 = .ok (.aload_n 0, 1) := by decide +kernel
theorem dX8_findRows_12 : decode cX8_findRows 12 = .ok (.getfield 7, 3) := by decide +kernel
theorem dX8_findRows_15 : decode cX8_findRows 15 = .ok (.ishl, 1) := by decide +kernel
theorem dX8_findRows_16 : decode cX8_findRows 16 = .ok (.if_icmp .ge 46, 3) := by decide +kernel
theorem dX8_findRows_19 : decode cX8_findRows 19 = .ok (.aload_n 0, 1) := by decide +kernel
theorem dX8_findRows_20 : decode cX8_findRows 20 = .ok (.iload_n 1, 1) := by decide +kernel
theorem dX8_findRows_21 : decode cX8_findRows 21 = .ok (.iload_n 2, 1) := by decide +kernel
theorem dX8_findRows_22 : decode cX8_findRows 22 = .ok (.invokevirtual 103, 3) := by decide +kernel
theorem dX8_findRows_25 : decode cX8_findRows 25 = .ok (.ifCond .ne 31, 3) := by decide +kernel
theorem dX8_findRows_28 : decode cX8_findRows 28 = .ok (.aload_n 0, 1) := by decide +kernel
theorem dX8_findRows_29 : decode cX8_findRows 29 = .ok (.getfield 38, 3) := by decide +kernel
theorem dX8_findRows_32 : decode cX8_findRows 32 = .ok (.sipush 512, 3) := by decide +kernel
theorem dX8_findRows_35 : decode cX8_findRows 35 = .ok (.iload_n 1, 1) := by decide +kernel
theorem dX8_findRows_36 : decode cX8_findRows 36 = .ok (.imul, 1) := by decide +kernel
theorem dX8_findRows_37 : decode cX8_findRows 37 = .ok (.aload_n 0, 1) := by decide +kernel
theorem dX8_findRows_38 : decode cX8_findRows 38 = .ok (.getfield 35, 3) := by decide +kernel
theorem dX8_findRows_41 : decode cX8_findRows 41 = .ok (.iload_n 1, 1) := by decide +kernel
theorem dX8_findRows_42 : decode cX8_findRows 42 = .ok (.iaload, 1) := by decide +kernel
theorem dX8_findRows_43 : decode cX8_findRows 43 = .ok (.iadd, 1) := by decide +kernel
theorem dX8_findRows_44 : decode cX8_findRows 44 = .ok (.iload_n 2, 1) := by decide +kernel
theorem dX8_findRows_45 : decode cX8_findRows 45 = .ok (.iastore, 1) := by decide +kernel
theorem dX8_findRows_46 : decode cX8_findRows 46 = .ok (.aload_n 0, 1) := by decide +kernel
theorem dX8_findRows_47 : decode cX8_findRows 47 = .ok (.getfield 35, 3) := by decide +kernel
theorem dX8_findRows_50 : decode cX8_findRows 50 = .ok (.iload_n 1, 1) := by decide +kernel
theorem dX8_findRows_51 : decode cX8_findRows 51 = .ok (.dup2, 1) := by decide +kernel
theorem dX8_findRows_52 : decode cX8_findRows 52 = .ok (.iaload, 1) := by decide +kernel
theorem dX8_findRows_53 : decode cX8_findRows 53 = .ok (.iconst 1, 1) := by decide +kernel
theorem dX8_findRows_54 : decode cX8_findRows 54 = .ok (.iadd, 1) := by decide +kernel
theorem dX8_findRows_55 : decode cX8_findRows 55 = .ok (.iastore, 1) := by decide +kernel
theorem dX8_findRows_56 : decode cX8_findRows 56 = .ok (.iinc 2 2, 3) := by decide +kernel
theorem dX8_findRows_59 : decode cX8_findRows 59 = .ok (.goto (-50), 3) := by decide +kernel
theorem dX8_findRows_62 : decode cX8_findRows 62 = .ok (.return_, 1) := by decide +kernel
theorem dX8_findAll_0 : decode cX8_findAll 0 = .ok (.aload_n 0, 1) := by decide +kernel
theorem dX8_findAll_1 : decode cX8_findAll 1 = .ok (.getfield 55, 3) := by decide +kernel
theorem dX8_findAll_4 : decode cX8_findAll 4 = .ok (.iconst 1, 1) := by decide +kernel
theorem dX8_findAll_5 : decode cX8_findAll 5 = .ok (.isub, 1) := by decide +kernel
theorem dX8_findAll_6 : decode cX8_findAll 6 = .ok (.istore_n 2, 1) := by decide +kernel
theorem dX8_findAll_7 : decode cX8_findAll 7 = .ok (.iload_n 2, 1) := by decide +kernel
theorem dX8_findAll_8 : decode cX8_findAll 8 = .ok (.ifCond .lt 39, 3) := by decide +kernel
theorem dX8_findAll_11 : decode cX8_findAll 11 = .ok (.aload_n 0, 1) := by decide +kernel
theorem dX8_findAll_12 : decode cX8_findAll 12 = .ok (.iload_n 2, 1) := by decide +kernel
theorem dX8_findAll_13 : decode cX8_findAll 13 = .ok (.invokevirtual 107, 3) := by decide +kernel
theorem dX8_findAll_16 : decode cX8_findAll 16 = .ok (.iconst 0, 1) := by decide +kernel
theorem dX8_findAll_17 : decode cX8_findAll 17 = .ok (.istore_n 3, 1) := by decide +kernel
theorem dX8_findAll_18 : decode cX8_findAll 18 = .ok (.iload_n 3, 1) := by decide +kernel
theorem dX8_findAll_19 : decode cX8_findAll 19 = .ok (.aload_n 0, 1) := by decide +kernel
theorem dX8_findAll_20 : decode cX8_findAll 20 = .ok (.getfield 35, 3) := by decide +kernel
theorem dX8_findAll_23 : decode cX8_findAll 23 = .ok (.iload_n 2, 1) := by decide +kernel
theorem dX8_findAll_24 : decode cX8_findAll 24 = .ok (.iaload, 1) := by decide +kernel
theorem dX8_findAll_25 : decode cX8_findAll 25 = .ok (.if_icmp .ge 16, 3) := by decide +kernel
theorem dX8_findAll_28 : decode cX8_findAll 28 = .ok (.aload_n 0, 1) := by decide +kernel
theorem dX8_findAll_29 : decode cX8_findAll 29 = .ok (.iload_n 2, 1) := by decide +kernel
theorem dX8_findAll_30 : decode cX8_findAll 30 = .ok (.iload_n 3, 1) := by decide +kernel
theorem dX8_findAll_31 : decode cX8_findAll 31 = .ok (.iload_n 1, 1) := by decide +kernel
theorem dX8_findAll_32 : decode cX8_findAll 32 = .ok (.invokevirtual 111, 3) := by decide +kernel
theorem dX8_findAll_35 : decode cX8_findAll 35 = .ok (.iinc 3 1, 3) := by decide +kernel
theorem dX8_findAll_38 : decode cX8_findAll 38 = .ok (.goto (-20), 3) := by decide +kernel
theorem dX8_findAll_41 : decode cX8_findAll 41 = .ok (.iinc 2 (-1), 3) := by decide +kernel
theorem dX8_findAll_44 : decode cX8_findAll 44 = .ok (.goto (-37), 3) := by decide +kernel
theorem dX8_findAll_47 : decode cX8_findAll 47 = .ok (.return_, 1) := by decide +kernel
theorem dX8_findFrom_0 : decode cX8_findFrom 0 = .ok (.sipush 512, 3) := by decide +kernel
theorem dX8_findFrom_3 : decode cX8_findFrom 3 = .ok (.iload_n 1, 1) := by decide +kernel
theorem dX8_findFrom_4 : decode cX8_findFrom 4 = .ok (.imul, 1) := by decide +kernel
theorem dX8_findFrom_5 : decode cX8_findFrom 5 = .ok (.iload_n 2, 1) := by decide +kernel
theorem dX8_findFrom_6 : decode cX8_findFrom 6 = .ok (.iadd, 1) := by decide +kernel
theorem dX8_findFrom_7 : decode cX8_findFrom 7 = .ok (.istore 4, 2) := by decide +kernel
theorem dX8_findFrom_9 : decode cX8_findFrom 9 = .ok (.iload_n 1, 1) := by decide +kernel
theorem dX8_findFrom_10 : decode cX8_findFrom 10 = .ok (.aload_n 0, 1) := by decide +kernel
theorem dX8_findFrom_11 : decode cX8_findFrom 11 = .ok (.getfield 55, 3) := by decide +kernel
theorem dX8_findFrom_14 : decode cX8_findFrom 14 = .ok (.iconst 1, 1) := by decide +kernel
theorem dX8_findFrom_15 : decode cX8_findFrom 15 = .ok (.isub, 1) := by decide +kernel
theorem dX8_findFrom_16 : decode cX8_findFrom 16 = .ok (.if_icmp .ne 7, 3) := by decide +kernel
theorem dX8_findFrom_19 : decode cX8_findFrom 19 = .ok (.iconst 0, 1) := by decide +kernel
theorem dX8_findFrom_20 : decode cX8_findFrom 20 = .ok (.goto 5, 3) := by decide +kernel
theorem dX8_findFrom_23 : decode cX8_findFrom 23 = .ok (.ldc 115, 2) := by decide +kernel
theorem dX8_findFrom_25 : decode cX8_findFrom 25 = .ok (.istore 5, 2) := by decide +kernel
theorem dX8_findFrom_27 : decode cX8_findFrom 27 = .ok (.iload_n 1, 1) := by decide +kernel
theorem dX8_findFrom_28 : decode cX8_findFrom 28 = .ok (.aload_n 0, 1) := by decide +kernel
theorem dX8_findFrom_29 : decode cX8_findFrom 29 = .ok (.getfield 55, 3) := by decide +kernel
theorem dX8_findFrom_32 : decode cX8_findFrom 32 = .ok (.iconst 1, 1) := by decide +kernel
theorem dX8_findFrom_33 : decode cX8_findFrom 33 = .ok (.isub, 1) := by decide +kernel
theorem dX8_findFrom_34 : decode cX8_findFrom 34 = .ok (.if_icmp .ne 7, 3) := by decide +kernel
theorem dX8_findFrom_37 : decode cX8_findFrom 37 = .ok (.lconst 1, 1) := by decide +kernel
theorem dX8_findFrom_38 : decode cX8_findFrom 38 = .ok (.goto 4, 3) := by decide +kernel
theorem dX8_findFrom_41 : decode cX8_findFrom 41 = .ok (.lconst 0, 1) := by decide +kernel
theorem dX8_findFrom_42 : decode cX8_findFrom 42 = .ok (.lstore 6, 2) := by decide +kernel
theorem dX8_findFrom_44 : decode cX8_findFrom 44 = .ok (.aload_n 0, 1) := by decide +kernel
theorem dX8_findFrom_45 : decode cX8_findFrom 45 = .ok (.getfield 38, 3) := by decide +kernel
theorem dX8_findFrom_48 : decode cX8_findFrom 48 = .ok (.iload 4, 2) := by decide +kernel
theorem dX8_findFrom_50 : decode cX8_findFrom 50 = .ok (.iaload, 1) := by decide +kernel
theorem dX8_findFrom_51 : decode cX8_findFrom 51 = .ok (.iload_n 3, 1) := by decide +kernel
theorem dX8_findFrom_52 : decode cX8_findFrom 52 = .ok (.invokestatic 116, 3) := by decide +kernel
theorem dX8_findFrom_55 : decode cX8_findFrom 55 = .ok (.istore 8, 2) := by decide +kernel
theorem dX8_findFrom_57 : decode cX8_findFrom 57 = .ok (.iconst 0, 1) := by decide +kernel
theorem dX8_findFrom_58 : decode cX8_findFrom 58 = .ok (.istore 9, 2) := by decide +kernel
theorem dX8_findFrom_60 : decode cX8_findFrom 60 = .ok (.iload_n 1, 1) := by decide +kernel
theorem dX8_findFrom_61 : decode cX8_findFrom 61 = .ok (.aload_n 0, 1) := by decide +kernel
theorem dX8_findFrom_62 : decode cX8_findFrom 62 = .ok (.getfield 55, 3) := by decide +kernel
theorem dX8_findFrom_65 : decode cX8_findFrom 65 = .ok (.iconst 1, 1) := by decide +kernel
theorem dX8_findFrom_66 : decode cX8_findFrom 66 = .ok (.isub, 1) := by decide +kernel
theorem dX8_findFrom_67 : decode cX8_findFrom 67 = .ok (.if_icmp .ge 85, 3) := by decide +kernel
theorem dX8_findFrom_70 : decode cX8_findFrom 70 = .ok (.iload 9, 2) := by decide +kernel
theorem dX8_findFrom_72 : decode cX8_findFrom 72 = .ok (.aload_n 0, 1) := by decide +kernel
theorem dX8_findFrom_73 : decode cX8_findFrom 73 = .ok (.getfield 35, 3) := by decide +kernel
theorem dX8_findFrom_76 : decode cX8_findFrom 76 = .ok (.iload_n 1, 1) := by decide +kernel
theorem dX8_findFrom_77 : decode cX8_findFrom 77 = .ok (.iconst 1, 1) := by decide +kernel
theorem dX8_findFrom_78 : decode cX8_findFrom 78 = .ok (.iadd, 1) := by decide +kernel
theorem dX8_findFrom_79 : decode cX8_findFrom 79 = .ok (.iaload, 1) := by decide +kernel
theorem dX8_findFrom_80 : decode cX8_findFrom 80 = .ok (.if_icmp .ge 72, 3) := by decide +kernel
theorem dX8_findFrom_83 : decode cX8_findFrom 83 = .ok (.sipush 512, 3) := by decide +kernel
theorem dX8_findFrom_86 : decode cX8_findFrom 86 = .ok (.iload_n 1, 1) := by decide +kernel
theorem dX8_findFrom_87 : decode cX8_findFrom 87 = .ok (.iconst 1, 1) := by decide +kernel
theorem dX8_findFrom_88 : decode cX8_findFrom 88 = .ok (.iadd, 1) := by decide +kernel
theorem dX8_findFrom_89 : decode cX8_findFrom 89 = .ok (.imul, 1) := by decide +kernel
theorem dX8_findFrom_90 : decode cX8_findFrom 90 = .ok (.iload 9, 2) := by decide +kernel
theorem dX8_findFrom_92 : decode cX8_findFrom 92 = .ok (.iadd, 1) := by decide +kernel
theorem dX8_findFrom_93 : decode cX8_findFrom 93 = .ok (.istore 10, 2) := by decide +kernel
theorem dX8_findFrom_95 : decode cX8_findFrom 95 = .ok (.aload_n 0, 1) := by decide +kernel
theorem dX8_findFrom_96 : decode cX8_findFrom 96 = .ok (.getfield 38, 3) := by decide +kernel
theorem dX8_findFrom_99 : decode cX8_findFrom 99 = .ok (.iload 10, 2) := by decide +kernel
theorem dX8_findFrom_101 : decode cX8_findFrom 101 = .ok (.iaload, 1) := by decide +kernel
theorem dX8_findFrom_102 : decode cX8_findFrom 102 = .ok (.iload 8, 2) := by decide +kernel
theorem dX8_findFrom_104 : decode cX8_findFrom 104 = .ok (.iand, 1) := by decide +kernel
theorem dX8_findFrom_105 : decode cX8_findFrom 105 = .ok (.ifCond .ne 41, 3) := by decide +kernel
theorem dX8_findFrom_108 : decode cX8_findFrom 108 = .ok (.aload_n 0, 1) := by decide +kernel
theorem dX8_findFrom_109 : decode cX8_findFrom 109 = .ok (.getfield 41, 3) := by decide +kernel
theorem dX8_findFrom_112 : decode cX8_findFrom 112 = .ok (.iload 10, 2) := by decide +kernel
theorem dX8_findFrom_114 : decode cX8_findFrom 114 = .ok (.iaload, 1) := by decide +kernel
theorem dX8_findFrom_115 : decode cX8_findFrom 115 = .ok (.iload 5, 2) := by decide +kernel
theorem dX8_findFrom_117 : decode cX8_findFrom 117 = .ok (.if_icmp .ge 13, 3) := by decide +kernel
theorem dX8_findFrom_120 : decode cX8_findFrom 120 = .ok (.aload_n 0, 1) := by decide +kernel
theorem dX8_findFrom_121 : decode cX8_findFrom 121 = .ok (.getfield 41, 3) := by decide +kernel
theorem dX8_findFrom_124 : decode cX8_findFrom 124 = .ok (.iload 10, 2) := by decide +kernel
theorem dX8_findFrom_126 : decode cX8_findFrom 126 = .ok (.iaload, 1) := by decide +kernel
theorem dX8_findFrom_127 : decode cX8_findFrom 127 = .ok (.goto 5, 3) := by decide +kernel
theorem dX8_findFrom_130 : decode cX8_findFrom 130 = .ok (.iload 5, 2) := by decide +kernel
theorem dX8_findFrom_132 : decode cX8_findFrom 132 = .ok (.istore 5, 2) := by decide +kernel
theorem dX8_findFrom_134 : decode cX8_findFrom 134 = .ok (.lload 6, 2) := by decide +kernel
theorem dX8_findFrom_136 : decode cX8_findFrom 136 = .ok (.aload_n 0, 1) := by decide +kernel
theorem dX8_findFrom_137 : decode cX8_findFrom 137 = .ok (.getfield 44, 3) := by decide +kernel
theorem dX8_findFrom_140 : decode cX8_findFrom 140 = .ok (.iload 10, 2) := by decide +kernel
theorem dX8_findFrom_142 : decode cX8_findFrom 142 = .ok (.laload, 1) := by decide +kernel
theorem dX8_findFrom_143 : decode cX8_findFrom 143 = .ok (.ladd, 1) := by decide +kernel
theorem dX8_findFrom_144 : decode cX8_findFrom 144 = .ok (.lstore 6, 2) := by decide +kernel
theorem dX8_findFrom_146 : decode cX8_findFrom 146 = .ok (.iinc 9 1, 3) := by decide +kernel
theorem dX8_findFrom_149 : decode cX8_findFrom 149 = .ok (.goto (-89), 3) := by decide +kernel
theorem dX8_findFrom_152 : decode cX8_findFrom 152 = .ok (.aload_n 0, 1) := by decide +kernel
theorem dX8_findFrom_153 : decode cX8_findFrom 153 = .ok (.getfield 41, 3) := by decide +kernel
theorem dX8_findFrom_156 : decode cX8_findFrom 156 = .ok (.iload 4, 2) := by decide +kernel
theorem dX8_findFrom_158 : decode cX8_findFrom 158 = .ok (.iload 5, 2) := by decide +kernel
theorem dX8_findFrom_160 : decode cX8_findFrom 160 = .ok (.ldc 115, 2) := by decide +kernel
theorem dX8_findFrom_162 : decode cX8_findFrom 162 = .ok (.if_icmp .ne 8, 3) := by decide +kernel
theorem dX8_findFrom_165 : decode cX8_findFrom 165 = .ok (.ldc 115, 2) := by decide +kernel
theorem dX8_findFrom_167 : decode cX8_findFrom 167 = .ok (.goto 18, 3) := by decide +kernel
theorem dX8_findFrom_170 : decode cX8_findFrom 170 = .ok (.iload 5, 2) := by decide +kernel
theorem dX8_findFrom_172 : decode cX8_findFrom 172 = .ok (.aload_n 0, 1) := by decide +kernel
theorem dX8_findFrom_173 : decode cX8_findFrom 173 = .ok (.iload_n 1, 1) := by decide +kernel
theorem dX8_findFrom_174 : decode cX8_findFrom 174 = .ok (.aload_n 0, 1) := by decide +kernel
theorem dX8_findFrom_175 : decode cX8_findFrom 175 = .ok (.getfield 38, 3) := by decide +kernel
theorem dX8_findFrom_178 : decode cX8_findFrom 178 = .ok (.iload 4, 2) := by decide +kernel
theorem dX8_findFrom_180 : decode cX8_findFrom 180 = .ok (.iaload, 1) := by decide +kernel
theorem dX8_findFrom_181 : decode cX8_findFrom 181 = .ok (.invokevirtual 119, 3) := by decide +kernel
theorem dX8_findFrom_184 : decode cX8_findFrom 184 = .ok (.iadd, 1) := by decide +kernel
theorem dX8_findFrom_185 : decode cX8_findFrom 185 = .ok (.iastore, 1) := by decide +kernel
theorem dX8_findFrom_186 : decode cX8_findFrom 186 = .ok (.aload_n 0, 1) := by decide +kernel
theorem dX8_findFrom_187 : decode cX8_findFrom 187 = .ok (.getfield 44, 3) := by decide +kernel
theorem dX8_findFrom_190 : decode cX8_findFrom 190 = .ok (.iload 4, 2) := by decide +kernel
theorem dX8_findFrom_192 : decode cX8_findFrom 192 = .ok (.lload 6, 2) := by decide +kernel
theorem dX8_findFrom_194 : decode cX8_findFrom 194 = .ok (.lastore, 1) := by decide +kernel
theorem dX8_findFrom_195 : decode cX8_findFrom 195 = .ok (.return_, 1) := by decide +kernel
theorem dX8_row_0 : decode cX8_row 0 = .ok (.aload_n 0, 1) := by decide +kernel
theorem dX8_row_1 : decode cX8_row 1 = .ok (.iload_n 1, 1) := by decide +kernel
theorem dX8_row_2 : decode cX8_row 2 = .ok (.invokevirtual 62, 3) := by decide +kernel
theorem dX8_row_5 : decode cX8_row 5 = .ok (.ifCond .ne 5, 3) := by decide +kernel
theorem dX8_row_8 : decode cX8_row 8 = .ok (.iconst (-1), 1) := by decide +kernel
theorem dX8_row_9 : decode cX8_row 9 = .ok (.ireturn, 1) := by decide +kernel
theorem dX8_row_10 : decode cX8_row 10 = .ok (.iload_n 2, 1) := by decide +kernel
theorem dX8_row_11 : decode cX8_row 11 = .ok (.iconst (-1), 1) := by decide +kernel
theorem dX8_row_12 : decode cX8_row 12 = .ok (.sipush 511, 3) := by decide +kernel
theorem dX8_row_15 : decode cX8_row 15 = .ok (.invokestatic 58, 3) := by decide +kernel
theorem dX8_row_18 : decode cX8_row 18 = .ok (.ifCond .ne 6, 3) := by decide +kernel
theorem dX8_row_21 : decode cX8_row 21 = .ok (.bipush (-2), 2) := by decide +kernel
theorem dX8_row_23 : decode cX8_row 23 = .ok (.ireturn, 1) := by decide +kernel
theorem dX8_row_24 : decode cX8_row 24 = .ok (.aload_n 0, 1) := by decide +kernel
theorem dX8_row_25 : decode cX8_row 25 = .ok (.iload_n 1, 1) := by decide +kernel
theorem dX8_row_26 : decode cX8_row 26 = .ok (.invokevirtual 107, 3) := by decide +kernel
theorem dX8_row_29 : decode cX8_row 29 = .ok (.iload_n 2, 1) := by decide +kernel
theorem dX8_row_30 : decode cX8_row 30 = .ok (.ifCond .ge 12, 3) := by decide +kernel
theorem dX8_row_33 : decode cX8_row 33 = .ok (.aload_n 0, 1) := by decide +kernel
theorem dX8_row_34 : decode cX8_row 34 = .ok (.getfield 35, 3) := by decide +kernel
theorem dX8_row_37 : decode cX8_row 37 = .ok (.iload_n 1, 1) := by decide +kernel
theorem dX8_row_38 : decode cX8_row 38 = .ok (.iaload, 1) := by decide +kernel
theorem dX8_row_39 : decode cX8_row 39 = .ok (.goto 30, 3) := by decide +kernel
theorem dX8_row_42 : decode cX8_row 42 = .ok (.iload_n 2, 1) := by decide +kernel
theorem dX8_row_43 : decode cX8_row 43 = .ok (.aload_n 0, 1) := by decide +kernel
theorem dX8_row_44 : decode cX8_row 44 = .ok (.getfield 35, 3) := by decide +kernel
theorem dX8_row_47 : decode cX8_row 47 = .ok (.iload_n 1, 1) := by decide +kernel
theorem dX8_row_48 : decode cX8_row 48 = .ok (.iaload, 1) := by decide +kernel
theorem dX8_row_49 : decode cX8_row 49 = .ok (.if_icmp .ge 18, 3) := by decide +kernel
theorem dX8_row_52 : decode cX8_row 52 = .ok (.aload_n 0, 1) := by decide +kernel
theorem dX8_row_53 : decode cX8_row 53 = .ok (.getfield 38, 3) := by decide +kernel
theorem dX8_row_56 : decode cX8_row 56 = .ok (.sipush 512, 3) := by decide +kernel
theorem dX8_row_59 : decode cX8_row 59 = .ok (.iload_n 1, 1) := by decide +kernel
theorem dX8_row_60 : decode cX8_row 60 = .ok (.imul, 1) := by decide +kernel
theorem dX8_row_61 : decode cX8_row 61 = .ok (.iload_n 2, 1) := by decide +kernel
theorem dX8_row_62 : decode cX8_row 62 = .ok (.iadd, 1) := by decide +kernel
theorem dX8_row_63 : decode cX8_row 63 = .ok (.iaload, 1) := by decide +kernel
theorem dX8_row_64 : decode cX8_row 64 = .ok (.goto 5, 3) := by decide +kernel
theorem dX8_row_67 : decode cX8_row 67 = .ok (.bipush (-9), 2) := by decide +kernel
theorem dX8_row_69 : decode cX8_row 69 = .ok (.ireturn, 1) := by decide +kernel
theorem dX8_walls_0 : decode cX8_walls 0 = .ok (.aload_n 0, 1) := by decide +kernel
theorem dX8_walls_1 : decode cX8_walls 1 = .ok (.aload_n 0, 1) := by decide +kernel
theorem dX8_walls_2 : decode cX8_walls 2 = .ok (.getfield 32, 3) := by decide +kernel
theorem dX8_walls_5 : decode cX8_walls 5 = .ok (.invokevirtual 122, 3) := by decide +kernel
theorem dX8_walls_8 : decode cX8_walls 8 = .ok (.aload_n 0, 1) := by decide +kernel
theorem dX8_walls_9 : decode cX8_walls 9 = .ok (.getfield 55, 3) := by decide +kernel
theorem dX8_walls_12 : decode cX8_walls 12 = .ok (.ifCond .ne 7, 3) := by decide +kernel
theorem dX8_walls_15 : decode cX8_walls 15 = .ok (.lconst 1, 1) := by decide +kernel
theorem dX8_walls_16 : decode cX8_walls 16 = .ok (.goto 4, 3) := by decide +kernel
theorem dX8_walls_19 : decode cX8_walls 19 = .ok (.lconst 0, 1) := by decide +kernel
theorem dX8_walls_20 : decode cX8_walls 20 = .ok (.lstore_n 1, 1) := by decide +kernel
theorem dX8_walls_21 : decode cX8_walls 21 = .ok (.iconst 0, 1) := by decide +kernel
theorem dX8_walls_22 : decode cX8_walls 22 = .ok (.istore_n 3, 1) := by decide +kernel
theorem dX8_walls_23 : decode cX8_walls 23 = .ok (.aload_n 0, 1) := by decide +kernel
theorem dX8_walls_24 : decode cX8_walls 24 = .ok (.getfield 55, 3) := by decide +kernel
theorem dX8_walls_27 : decode cX8_walls 27 = .ok (.ifCond .le 28, 3) := by decide +kernel
theorem dX8_walls_30 : decode cX8_walls 30 = .ok (.iload_n 3, 1) := by decide +kernel
theorem dX8_walls_31 : decode cX8_walls 31 = .ok (.aload_n 0, 1) := by decide +kernel
theorem dX8_walls_32 : decode cX8_walls 32 = .ok (.getfield 35, 3) := by decide +kernel
theorem dX8_walls_35 : decode cX8_walls 35 = .ok (.iconst 0, 1) := by decide +kernel
theorem dX8_walls_36 : decode cX8_walls 36 = .ok (.iaload, 1) := by decide +kernel
theorem dX8_walls_37 : decode cX8_walls 37 = .ok (.if_icmp .ge 18, 3) := by decide +kernel
theorem dX8_walls_40 : decode cX8_walls 40 = .ok (.lload_n 1, 1) := by decide +kernel
theorem dX8_walls_41 : decode cX8_walls 41 = .ok (.aload_n 0, 1) := by decide +kernel
theorem dX8_walls_42 : decode cX8_walls 42 = .ok (.getfield 44, 3) := by decide +kernel
theorem dX8_walls_45 : decode cX8_walls 45 = .ok (.iload_n 3, 1) := by decide +kernel
theorem dX8_walls_46 : decode cX8_walls 46 = .ok (.laload, 1) := by decide +kernel
theorem dX8_walls_47 : decode cX8_walls 47 = .ok (.ladd, 1) := by decide +kernel
theorem dX8_walls_48 : decode cX8_walls 48 = .ok (.lstore_n 1, 1) := by decide +kernel
theorem dX8_walls_49 : decode cX8_walls 49 = .ok (.iinc 3 1, 3) := by decide +kernel
theorem dX8_walls_52 : decode cX8_walls 52 = .ok (.goto (-29), 3) := by decide +kernel
theorem dX8_walls_55 : decode cX8_walls 55 = .ok (.lload_n 1, 1) := by decide +kernel
theorem dX8_walls_56 : decode cX8_walls 56 = .ok (.lreturn, 1) := by decide +kernel
theorem dX8_leastCost_0 : decode cX8_leastCost 0 = .ok (.aload_n 0, 1) := by decide +kernel
theorem dX8_leastCost_1 : decode cX8_leastCost 1 = .ok (.iload_n 1, 1) := by decide +kernel
theorem dX8_leastCost_2 : decode cX8_leastCost 2 = .ok (.invokevirtual 122, 3) := by decide +kernel
theorem dX8_leastCost_5 : decode cX8_leastCost 5 = .ok (.aload_n 0, 1) := by decide +kernel
theorem dX8_leastCost_6 : decode cX8_leastCost 6 = .ok (.getfield 55, 3) := by decide +kernel
theorem dX8_leastCost_9 : decode cX8_leastCost 9 = .ok (.ifCond .ne 7, 3) := by decide +kernel
theorem dX8_leastCost_12 : decode cX8_leastCost 12 = .ok (.iconst 0, 1) := by decide +kernel
theorem dX8_leastCost_13 : decode cX8_leastCost 13 = .ok (.goto 5, 3) := by decide +kernel
theorem dX8_leastCost_16 : decode cX8_leastCost 16 = .ok (.ldc 115, 2) := by decide +kernel
theorem dX8_leastCost_18 : decode cX8_leastCost 18 = .ok (.istore_n 2, 1) := by decide +kernel
theorem dX8_leastCost_19 : decode cX8_leastCost 19 = .ok (.iconst 0, 1) := by decide +kernel
theorem dX8_leastCost_20 : decode cX8_leastCost 20 = .ok (.istore_n 3, 1) := by decide +kernel
theorem dX8_leastCost_21 : decode cX8_leastCost 21 = .ok (.aload_n 0, 1) := by decide +kernel
theorem dX8_leastCost_22 : decode cX8_leastCost 22 = .ok (.getfield 55, 3) := by decide +kernel
theorem dX8_leastCost_25 : decode cX8_leastCost 25 = .ok (.ifCond .le 40, 3) := by decide +kernel
theorem dX8_leastCost_28 : decode cX8_leastCost 28 = .ok (.iload_n 3, 1) := by decide +kernel
theorem dX8_leastCost_29 : decode cX8_leastCost 29 = .ok (.aload_n 0, 1) := by decide +kernel
theorem dX8_leastCost_30 : decode cX8_leastCost 30 = .ok (.getfield 35, 3) := by decide +kernel
theorem dX8_leastCost_33 : decode cX8_leastCost 33 = .ok (.iconst 0, 1) := by decide +kernel
theorem dX8_leastCost_34 : decode cX8_leastCost 34 = .ok (.iaload, 1) := by decide +kernel
theorem dX8_leastCost_35 : decode cX8_leastCost 35 = .ok (.if_icmp .ge 30, 3) := by decide +kernel
theorem dX8_leastCost_38 : decode cX8_leastCost 38 = .ok (.aload_n 0, 1) := by decide +kernel
theorem dX8_leastCost_39 : decode cX8_leastCost 39 = .ok (.getfield 41, 3) := by decide +kernel
theorem dX8_leastCost_42 : decode cX8_leastCost 42 = .ok (.iload_n 3, 1) := by decide +kernel
theorem dX8_leastCost_43 : decode cX8_leastCost 43 = .ok (.iaload, 1) := by decide +kernel
theorem dX8_leastCost_44 : decode cX8_leastCost 44 = .ok (.iload_n 2, 1) := by decide +kernel
theorem dX8_leastCost_45 : decode cX8_leastCost 45 = .ok (.if_icmp .ge 12, 3) := by decide +kernel
theorem dX8_leastCost_48 : decode cX8_leastCost 48 = .ok (.aload_n 0, 1) := by decide +kernel
theorem dX8_leastCost_49 : decode cX8_leastCost 49 = .ok (.getfield 41, 3) := by decide +kernel
theorem dX8_leastCost_52 : decode cX8_leastCost 52 = .ok (.iload_n 3, 1) := by decide +kernel
theorem dX8_leastCost_53 : decode cX8_leastCost 53 = .ok (.iaload, 1) := by decide +kernel
theorem dX8_leastCost_54 : decode cX8_leastCost 54 = .ok (.goto 4, 3) := by decide +kernel
theorem dX8_leastCost_57 : decode cX8_leastCost 57 = .ok (.iload_n 2, 1) := by decide +kernel
theorem dX8_leastCost_58 : decode cX8_leastCost 58 = .ok (.istore_n 2, 1) := by decide +kernel
theorem dX8_leastCost_59 : decode cX8_leastCost 59 = .ok (.iinc 3 1, 3) := by decide +kernel
theorem dX8_leastCost_62 : decode cX8_leastCost 62 = .ok (.goto (-41), 3) := by decide +kernel
theorem dX8_leastCost_65 : decode cX8_leastCost 65 = .ok (.iload_n 2, 1) := by decide +kernel
theorem dX8_leastCost_66 : decode cX8_leastCost 66 = .ok (.ldc 115, 2) := by decide +kernel
theorem dX8_leastCost_68 : decode cX8_leastCost 68 = .ok (.if_icmp .ne 8, 3) := by decide +kernel
theorem dX8_leastCost_71 : decode cX8_leastCost 71 = .ok (.bipush (-9), 2) := by decide +kernel
theorem dX8_leastCost_73 : decode cX8_leastCost 73 = .ok (.goto 4, 3) := by decide +kernel
theorem dX8_leastCost_76 : decode cX8_leastCost 76 = .ok (.iload_n 2, 1) := by decide +kernel
theorem dX8_leastCost_77 : decode cX8_leastCost 77 = .ok (.ireturn, 1) := by decide +kernel
theorem dX8_hasBest_0 : decode cX8_hasBest 0 = .ok (.aload_n 0, 1) := by decide +kernel
theorem dX8_hasBest_1 : decode cX8_hasBest 1 = .ok (.aload_n 0, 1) := by decide +kernel
theorem dX8_hasBest_2 : decode cX8_hasBest 2 = .ok (.getfield 32, 3) := by decide +kernel
theorem dX8_hasBest_5 : decode cX8_hasBest 5 = .ok (.invokevirtual 125, 3) := by decide +kernel
theorem dX8_hasBest_8 : decode cX8_hasBest 8 = .ok (.istore_n 1, 1) := by decide +kernel
theorem dX8_hasBest_9 : decode cX8_hasBest 9 = .ok (.iload_n 1, 1) := by decide +kernel
theorem dX8_hasBest_10 : decode cX8_hasBest 10 = .ok (.bipush (-9), 2) := by decide +kernel
theorem dX8_hasBest_12 : decode cX8_hasBest 12 = .ok (.if_icmp .ne 5, 3) := by decide +kernel
theorem dX8_hasBest_15 : decode cX8_hasBest 15 = .ok (.iconst 0, 1) := by decide +kernel
theorem dX8_hasBest_16 : decode cX8_hasBest 16 = .ok (.ireturn, 1) := by decide +kernel
theorem dX8_hasBest_17 : decode cX8_hasBest 17 = .ok (.iconst 0, 1) := by decide +kernel
theorem dX8_hasBest_18 : decode cX8_hasBest 18 = .ok (.istore_n 2, 1) := by decide +kernel
theorem dX8_hasBest_19 : decode cX8_hasBest 19 = .ok (.iconst 0, 1) := by decide +kernel
theorem dX8_hasBest_20 : decode cX8_hasBest 20 = .ok (.istore_n 3, 1) := by decide +kernel
theorem dX8_hasBest_21 : decode cX8_hasBest 21 = .ok (.iload_n 3, 1) := by decide +kernel
theorem dX8_hasBest_22 : decode cX8_hasBest 22 = .ok (.aload_n 0, 1) := by decide +kernel
theorem dX8_hasBest_23 : decode cX8_hasBest 23 = .ok (.getfield 55, 3) := by decide +kernel
theorem dX8_hasBest_26 : decode cX8_hasBest 26 = .ok (.if_icmp .ge 100, 3) := by decide +kernel
theorem dX8_hasBest_29 : decode cX8_hasBest 29 = .ok (.iconst 0, 1) := by decide +kernel
theorem dX8_hasBest_30 : decode cX8_hasBest 30 = .ok (.istore 4, 2) := by decide +kernel
theorem dX8_hasBest_32 : decode cX8_hasBest 32 = .ok (.aload_n 0, 1) := by decide +kernel
theorem dX8_hasBest_33 : decode cX8_hasBest 33 = .ok (.getfield 41, 3) := by decide +kernel
theorem dX8_hasBest_36 : decode cX8_hasBest 36 = .ok (.sipush 512, 3) := by decide +kernel
theorem dX8_hasBest_39 : decode cX8_hasBest 39 = .ok (.iload_n 3, 1) := by decide +kernel
theorem dX8_hasBest_40 : decode cX8_hasBest 40 = .ok (.imul, 1) := by decide +kernel
theorem dX8_hasBest_41 : decode cX8_hasBest 41 = .ok (.iload 4, 2) := by decide +kernel
theorem dX8_hasBest_43 : decode cX8_hasBest 43 = .ok (.iadd, 1) := by decide +kernel
theorem dX8_hasBest_44 : decode cX8_hasBest 44 = .ok (.iaload, 1) := by decide +kernel
theorem dX8_hasBest_45 : decode cX8_hasBest 45 = .ok (.iload_n 1, 1) := by decide +kernel
theorem dX8_hasBest_46 : decode cX8_hasBest 46 = .ok (.if_icmp .ne 21, 3) := by decide +kernel
theorem dX8_hasBest_49 : decode cX8_hasBest 49 = .ok (.aload_n 0, 1) := by decide +kernel
theorem dX8_hasBest_50 : decode cX8_hasBest 50 = .ok (.getfield 38, 3) := by decide +kernel
theorem dX8_hasBest_53 : decode cX8_hasBest 53 = .ok (.sipush 512, 3) := by decide +kernel
theorem dX8_hasBest_56 : decode cX8_hasBest 56 = .ok (.iload_n 3, 1) := by decide +kernel
theorem dX8_hasBest_57 : decode cX8_hasBest 57 = .ok (.imul, 1) := by decide +kernel
theorem dX8_hasBest_58 : decode cX8_hasBest 58 = .ok (.iload 4, 2) := by decide +kernel
theorem dX8_hasBest_60 : decode cX8_hasBest 60 = .ok (.iadd, 1) := by decide +kernel
theorem dX8_hasBest_61 : decode cX8_hasBest 61 = .ok (.iaload, 1) := by decide +kernel
theorem dX8_hasBest_62 : decode cX8_hasBest 62 = .ok (.iload_n 2, 1) := by decide +kernel
theorem dX8_hasBest_63 : decode cX8_hasBest 63 = .ok (.iand, 1) := by decide +kernel
theorem dX8_hasBest_64 : decode cX8_hasBest 64 = .ok (.ifCond .eq 9, 3) := by decide +kernel
theorem dX8_hasBest_67 : decode cX8_hasBest 67 = .ok (.iinc 4 1, 3) := by decide +kernel
theorem dX8_hasBest_70 : decode cX8_hasBest 70 = .ok (.goto (-38), 3) := by decide +kernel
theorem dX8_hasBest_73 : decode cX8_hasBest 73 = .ok (.aload_n 0, 1) := by decide +kernel
theorem dX8_hasBest_74 : decode cX8_hasBest 74 = .ok (.getfield 48, 3) := by decide +kernel
theorem dX8_hasBest_77 : decode cX8_hasBest 77 = .ok (.iload_n 3, 1) := by decide +kernel
theorem dX8_hasBest_78 : decode cX8_hasBest 78 = .ok (.aload_n 0, 1) := by decide +kernel
theorem dX8_hasBest_79 : decode cX8_hasBest 79 = .ok (.getfield 38, 3) := by decide +kernel
theorem dX8_hasBest_82 : decode cX8_hasBest 82 = .ok (.sipush 512, 3) := by decide +kernel
theorem dX8_hasBest_85 : decode cX8_hasBest 85 = .ok (.iload_n 3, 1) := by decide +kernel
theorem dX8_hasBest_86 : decode cX8_hasBest 86 = .ok (.imul, 1) := by decide +kernel
theorem dX8_hasBest_87 : decode cX8_hasBest 87 = .ok (.iload 4, 2) := by decide +kernel
theorem dX8_hasBest_89 : decode cX8_hasBest 89 = .ok (.iadd, 1) := by decide +kernel
theorem dX8_hasBest_90 : decode cX8_hasBest 90 = .ok (.iaload, 1) := by decide +kernel
theorem dX8_hasBest_91 : decode cX8_hasBest 91 = .ok (.iastore, 1) := by decide +kernel
theorem dX8_hasBest_92 : decode cX8_hasBest 92 = .ok (.iload_n 1, 1) := by decide +kernel
theorem dX8_hasBest_93 : decode cX8_hasBest 93 = .ok (.aload_n 0, 1) := by decide +kernel
theorem dX8_hasBest_94 : decode cX8_hasBest 94 = .ok (.iload_n 3, 1) := by decide +kernel
theorem dX8_hasBest_95 : decode cX8_hasBest 95 = .ok (.aload_n 0, 1) := by decide +kernel
theorem dX8_hasBest_96 : decode cX8_hasBest 96 = .ok (.getfield 48, 3) := by decide +kernel
theorem dX8_hasBest_99 : decode cX8_hasBest 99 = .ok (.iload_n 3, 1) := by decide +kernel
theorem dX8_hasBest_100 : decode cX8_hasBest 100 = .ok (.iaload, 1) := by decide +kernel
theorem dX8_hasBest_101 : decode cX8_hasBest 101 = .ok (.invokevirtual 119, 3) := by decide +kernel
theorem dX8_hasBest_104 : decode cX8_hasBest 104 = .ok (.isub, 1) := by decide +kernel
theorem dX8_hasBest_105 : decode cX8_hasBest 105 = .ok (.istore_n 1, 1) := by decide +kernel
theorem dX8_hasBest_106 : decode cX8_hasBest 106 = .ok (.aload_n 0, 1) := by decide +kernel
theorem dX8_hasBest_107 : decode cX8_hasBest 107 = .ok (.getfield 48, 3) := by decide +kernel
theorem dX8_hasBest_110 : decode cX8_hasBest 110 = .ok (.iload_n 3, 1) := by decide +kernel
theorem dX8_hasBest_111 : decode cX8_hasBest 111 = .ok (.iaload, 1) := by decide +kernel
theorem dX8_hasBest_112 : decode cX8_hasBest 112 = .ok (.aload_n 0, 1) := by decide +kernel
theorem dX8_hasBest_113 : decode cX8_hasBest 113 = .ok (.getfield 32, 3) := by decide +kernel
theorem dX8_hasBest_116 : decode cX8_hasBest 116 = .ok (.invokestatic 116, 3) := by decide +kernel
theorem dX8_hasBest_119 : decode cX8_hasBest 119 = .ok (.istore_n 2, 1) := by decide +kernel
theorem dX8_hasBest_120 : decode cX8_hasBest 120 = .ok (.iinc 3 1, 3) := by decide +kernel
theorem dX8_hasBest_123 : decode cX8_hasBest 123 = .ok (.goto (-102), 3) := by decide +kernel
theorem dX8_hasBest_126 : decode cX8_hasBest 126 = .ok (.iconst 1, 1) := by decide +kernel
theorem dX8_hasBest_127 : decode cX8_hasBest 127 = .ok (.ireturn, 1) := by decide +kernel
theorem dX8_best_0 : decode cX8_best 0 = .ok (.aload_n 0, 1) := by decide +kernel
theorem dX8_best_1 : decode cX8_best 1 = .ok (.aload_n 0, 1) := by decide +kernel
theorem dX8_best_2 : decode cX8_best 2 = .ok (.getfield 32, 3) := by decide +kernel
theorem dX8_best_5 : decode cX8_best 5 = .ok (.invokevirtual 125, 3) := by decide +kernel
theorem dX8_best_8 : decode cX8_best 8 = .ok (.ireturn, 1) := by decide +kernel
theorem dX8_bestRow_0 : decode cX8_bestRow 0 = .ok (.aload_n 0, 1) := by decide +kernel
theorem dX8_bestRow_1 : decode cX8_bestRow 1 = .ok (.iload_n 1, 1) := by decide +kernel
theorem dX8_bestRow_2 : decode cX8_bestRow 2 = .ok (.invokevirtual 62, 3) := by decide +kernel
theorem dX8_bestRow_5 : decode cX8_bestRow 5 = .ok (.ifCond .ne 5, 3) := by decide +kernel
theorem dX8_bestRow_8 : decode cX8_bestRow 8 = .ok (.iconst (-1), 1) := by decide +kernel
theorem dX8_bestRow_9 : decode cX8_bestRow 9 = .ok (.ireturn, 1) := by decide +kernel
theorem dX8_bestRow_10 : decode cX8_bestRow 10 = .ok (.aload_n 0, 1) := by decide +kernel
theorem dX8_bestRow_11 : decode cX8_bestRow 11 = .ok (.invokevirtual 128, 3) := by decide +kernel
theorem dX8_bestRow_14 : decode cX8_bestRow 14 = .ok (.ifCond .eq 12, 3) := by decide +kernel
theorem dX8_bestRow_17 : decode cX8_bestRow 17 = .ok (.aload_n 0, 1) := by decide +kernel
theorem dX8_bestRow_18 : decode cX8_bestRow 18 = .ok (.getfield 48, 3) := by decide +kernel
theorem dX8_bestRow_21 : decode cX8_bestRow 21 = .ok (.iload_n 1, 1) := by decide +kernel
theorem dX8_bestRow_22 : decode cX8_bestRow 22 = .ok (.iaload, 1) := by decide +kernel
theorem dX8_bestRow_23 : decode cX8_bestRow 23 = .ok (.goto 5, 3) := by decide +kernel
theorem dX8_bestRow_26 : decode cX8_bestRow 26 = .ok (.bipush (-3), 2) := by decide +kernel
theorem dX8_bestRow_28 : decode cX8_bestRow 28 = .ok (.ireturn, 1) := by decide +kernel
theorem dX8_piecesIn_0 : decode cX8_piecesIn 0 = .ok (.iconst 0, 1) := by decide +kernel
theorem dX8_piecesIn_1 : decode cX8_piecesIn 1 = .ok (.istore 4, 2) := by decide +kernel
theorem dX8_piecesIn_3 : decode cX8_piecesIn 3 = .ok (.iconst 0, 1) := by decide +kernel
theorem dX8_piecesIn_4 : decode cX8_piecesIn 4 = .ok (.istore 5, 2) := by decide +kernel
theorem dX8_piecesIn_6 : decode cX8_piecesIn 6 = .ok (.iload 5, 2) := by decide +kernel
theorem dX8_piecesIn_8 : decode cX8_piecesIn 8 = .ok (.aload_n 0, 1) := by decide +kernel
theorem dX8_piecesIn_9 : decode cX8_piecesIn 9 = .ok (.getfield 7, 3) := by decide +kernel
theorem dX8_piecesIn_12 : decode cX8_piecesIn 12 = .ok (.if_icmp .ge 42, 3) := by decide +kernel
theorem dX8_piecesIn_15 : decode cX8_piecesIn 15 = .ok (.iload 4, 2) := by decide +kernel
theorem dX8_piecesIn_17 : decode cX8_piecesIn 17 = .ok (.aload_n 0, 1) := by decide +kernel
theorem dX8_piecesIn_18 : decode cX8_piecesIn 18 = .ok (.iload_n 1, 1) := by decide +kernel
theorem dX8_piecesIn_19 : decode cX8_piecesIn 19 = .ok (.iload_n 2, 1) := by decide +kernel
theorem dX8_piecesIn_20 : decode cX8_piecesIn 20 = .ok (.iload 5, 2) := by decide +kernel
theorem dX8_piecesIn_22 : decode cX8_piecesIn 22 = .ok (.invokevirtual 77, 3) := by decide +kernel
theorem dX8_piecesIn_25 : decode cX8_piecesIn 25 = .ok (.ifCond .eq 19, 3) := by decide +kernel
theorem dX8_piecesIn_28 : decode cX8_piecesIn 28 = .ok (.aload_n 0, 1) := by decide +kernel
theorem dX8_piecesIn_29 : decode cX8_piecesIn 29 = .ok (.iload_n 1, 1) := by decide +kernel
theorem dX8_piecesIn_30 : decode cX8_piecesIn 30 = .ok (.iload_n 2, 1) := by decide +kernel
theorem dX8_piecesIn_31 : decode cX8_piecesIn 31 = .ok (.iload 5, 2) := by decide +kernel
theorem dX8_piecesIn_33 : decode cX8_piecesIn 33 = .ok (.invokevirtual 80, 3) := by decide +kernel
theorem dX8_piecesIn_36 : decode cX8_piecesIn 36 = .ok (.iload_n 3, 1) := by decide +kernel
theorem dX8_piecesIn_37 : decode cX8_piecesIn 37 = .ok (.if_icmp .ne 7, 3) := by decide +kernel
theorem dX8_piecesIn_40 : decode cX8_piecesIn 40 = .ok (.iconst 1, 1) := by decide +kernel
theorem dX8_piecesIn_41 : decode cX8_piecesIn 41 = .ok (.goto 4, 3) := by decide +kernel
theorem dX8_piecesIn_44 : decode cX8_piecesIn 44 = .ok (.iconst 0, 1) := by decide +kernel
theorem dX8_piecesIn_45 : decode cX8_piecesIn 45 = .ok (.iadd, 1) := by decide +kernel
theorem dX8_piecesIn_46 : decode cX8_piecesIn 46 = .ok (.istore 4, 2) := by decide +kernel
theorem dX8_piecesIn_48 : decode cX8_piecesIn 48 = .ok (.iinc 5 1, 3) := by decide +kernel
theorem dX8_piecesIn_51 : decode cX8_piecesIn 51 = .ok (.goto (-45), 3) := by decide +kernel
theorem dX8_piecesIn_54 : decode cX8_piecesIn 54 = .ok (.iload 4, 2) := by decide +kernel
theorem dX8_piecesIn_56 : decode cX8_piecesIn 56 = .ok (.ireturn, 1) := by decide +kernel
theorem dX8_bestOf_0 : decode cX8_bestOf 0 = .ok (.iload_n 1, 1) := by decide +kernel
theorem dX8_bestOf_1 : decode cX8_bestOf 1 = .ok (.iconst 1, 1) := by decide +kernel
theorem dX8_bestOf_2 : decode cX8_bestOf 2 = .ok (.bipush 6, 2) := by decide +kernel
theorem dX8_bestOf_4 : decode cX8_bestOf 4 = .ok (.invokestatic 58, 3) := by decide +kernel
theorem dX8_bestOf_7 : decode cX8_bestOf 7 = .ok (.ifCond .ne 6, 3) := by decide +kernel
theorem dX8_bestOf_10 : decode cX8_bestOf 10 = .ok (.bipush (-2), 2) := by decide +kernel
theorem dX8_bestOf_12 : decode cX8_bestOf 12 = .ok (.ireturn, 1) := by decide +kernel
theorem dX8_bestOf_13 : decode cX8_bestOf 13 = .ok (.aload_n 0, 1) := by decide +kernel
theorem dX8_bestOf_14 : decode cX8_bestOf 14 = .ok (.invokevirtual 128, 3) := by decide +kernel
theorem dX8_bestOf_17 : decode cX8_bestOf 17 = .ok (.ifCond .ne 6, 3) := by decide +kernel
theorem dX8_bestOf_20 : decode cX8_bestOf 20 = .ok (.bipush (-3), 2) := by decide +kernel
theorem dX8_bestOf_22 : decode cX8_bestOf 22 = .ok (.ireturn, 1) := by decide +kernel
theorem dX8_bestOf_23 : decode cX8_bestOf 23 = .ok (.iconst 0, 1) := by decide +kernel
theorem dX8_bestOf_24 : decode cX8_bestOf 24 = .ok (.istore_n 2, 1) := by decide +kernel
theorem dX8_bestOf_25 : decode cX8_bestOf 25 = .ok (.iconst 0, 1) := by decide +kernel
theorem dX8_bestOf_26 : decode cX8_bestOf 26 = .ok (.istore_n 3, 1) := by decide +kernel
theorem dX8_bestOf_27 : decode cX8_bestOf 27 = .ok (.iload_n 3, 1) := by decide +kernel
theorem dX8_bestOf_28 : decode cX8_bestOf 28 = .ok (.aload_n 0, 1) := by decide +kernel
theorem dX8_bestOf_29 : decode cX8_bestOf 29 = .ok (.getfield 55, 3) := by decide +kernel
theorem dX8_bestOf_32 : decode cX8_bestOf 32 = .ok (.if_icmp .ge 24, 3) := by decide +kernel
theorem dX8_bestOf_35 : decode cX8_bestOf 35 = .ok (.iload_n 2, 1) := by decide +kernel
theorem dX8_bestOf_36 : decode cX8_bestOf 36 = .ok (.aload_n 0, 1) := by decide +kernel
theorem dX8_bestOf_37 : decode cX8_bestOf 37 = .ok (.iload_n 3, 1) := by decide +kernel
theorem dX8_bestOf_38 : decode cX8_bestOf 38 = .ok (.aload_n 0, 1) := by decide +kernel
theorem dX8_bestOf_39 : decode cX8_bestOf 39 = .ok (.getfield 48, 3) := by decide +kernel
theorem dX8_bestOf_42 : decode cX8_bestOf 42 = .ok (.iload_n 3, 1) := by decide +kernel
theorem dX8_bestOf_43 : decode cX8_bestOf 43 = .ok (.iaload, 1) := by decide +kernel
theorem dX8_bestOf_44 : decode cX8_bestOf 44 = .ok (.iload_n 1, 1) := by decide +kernel
theorem dX8_bestOf_45 : decode cX8_bestOf 45 = .ok (.invokevirtual 132, 3) := by decide +kernel
theorem dX8_bestOf_48 : decode cX8_bestOf 48 = .ok (.iadd, 1) := by decide +kernel
theorem dX8_bestOf_49 : decode cX8_bestOf 49 = .ok (.istore_n 2, 1) := by decide +kernel
theorem dX8_bestOf_50 : decode cX8_bestOf 50 = .ok (.iinc 3 1, 3) := by decide +kernel
theorem dX8_bestOf_53 : decode cX8_bestOf 53 = .ok (.goto (-26), 3) := by decide +kernel
theorem dX8_bestOf_56 : decode cX8_bestOf 56 = .ok (.iload_n 2, 1) := by decide +kernel
theorem dX8_bestOf_57 : decode cX8_bestOf 57 = .ok (.ireturn, 1) := by decide +kernel
theorem dX8_reaches_0 : decode cX8_reaches 0 = .ok (.iconst 0, 1) := by decide +kernel
theorem dX8_reaches_1 : decode cX8_reaches 1 = .ok (.istore_n 2, 1) := by decide +kernel
theorem dX8_reaches_2 : decode cX8_reaches 2 = .ok (.iconst 0, 1) := by decide +kernel
theorem dX8_reaches_3 : decode cX8_reaches 3 = .ok (.istore_n 3, 1) := by decide +kernel
theorem dX8_reaches_4 : decode cX8_reaches 4 = .ok (.iload_n 3, 1) := by decide +kernel
theorem dX8_reaches_5 : decode cX8_reaches 5 = .ok (.aload_n 0, 1) := by decide +kernel
theorem dX8_reaches_6 : decode cX8_reaches 6 = .ok (.getfield 35, 3) := by decide +kernel
theorem dX8_reaches_9 : decode cX8_reaches 9 = .ok (.iload_n 1, 1) := by decide +kernel
theorem dX8_reaches_10 : decode cX8_reaches 10 = .ok (.iaload, 1) := by decide +kernel
theorem dX8_reaches_11 : decode cX8_reaches 11 = .ok (.if_icmp .ge 143, 3) := by decide +kernel
theorem dX8_reaches_14 : decode cX8_reaches 14 = .ok (.iload_n 1, 1) := by decide +kernel
theorem dX8_reaches_15 : decode cX8_reaches 15 = .ok (.ifCond .ne 7, 3) := by decide +kernel
theorem dX8_reaches_18 : decode cX8_reaches 18 = .ok (.iconst 1, 1) := by decide +kernel
theorem dX8_reaches_19 : decode cX8_reaches 19 = .ok (.goto 4, 3) := by decide +kernel
theorem dX8_reaches_22 : decode cX8_reaches 22 = .ok (.iconst 0, 1) := by decide +kernel
theorem dX8_reaches_23 : decode cX8_reaches 23 = .ok (.istore 4, 2) := by decide +kernel
theorem dX8_reaches_25 : decode cX8_reaches 25 = .ok (.iconst 0, 1) := by decide +kernel
theorem dX8_reaches_26 : decode cX8_reaches 26 = .ok (.istore 5, 2) := by decide +kernel
theorem dX8_reaches_28 : decode cX8_reaches 28 = .ok (.iload_n 1, 1) := by decide +kernel
theorem dX8_reaches_29 : decode cX8_reaches 29 = .ok (.ifCond .le 90, 3) := by decide +kernel
theorem dX8_reaches_32 : decode cX8_reaches 32 = .ok (.iload 5, 2) := by decide +kernel
theorem dX8_reaches_34 : decode cX8_reaches 34 = .ok (.aload_n 0, 1) := by decide +kernel
theorem dX8_reaches_35 : decode cX8_reaches 35 = .ok (.getfield 35, 3) := by decide +kernel
theorem dX8_reaches_38 : decode cX8_reaches 38 = .ok (.iload_n 1, 1) := by decide +kernel
theorem dX8_reaches_39 : decode cX8_reaches 39 = .ok (.iconst 1, 1) := by decide +kernel
theorem dX8_reaches_40 : decode cX8_reaches 40 = .ok (.isub, 1) := by decide +kernel
theorem dX8_reaches_41 : decode cX8_reaches 41 = .ok (.iaload, 1) := by decide +kernel
theorem dX8_reaches_42 : decode cX8_reaches 42 = .ok (.if_icmp .ge 77, 3) := by decide +kernel
theorem dX8_reaches_45 : decode cX8_reaches 45 = .ok (.iload 4, 2) := by decide +kernel
theorem dX8_reaches_47 : decode cX8_reaches 47 = .ok (.ifCond .ne 72, 3) := by decide +kernel
theorem dX8_reaches_50 : decode cX8_reaches 50 = .ok (.aload_n 0, 1) := by decide +kernel
theorem dX8_reaches_51 : decode cX8_reaches 51 = .ok (.getfield 51, 3) := by decide +kernel
theorem dX8_reaches_54 : decode cX8_reaches 54 = .ok (.sipush 512, 3) := by decide +kernel
theorem dX8_reaches_57 : decode cX8_reaches 57 = .ok (.iload_n 1, 1) := by decide +kernel
theorem dX8_reaches_58 : decode cX8_reaches 58 = .ok (.iconst 1, 1) := by decide +kernel
theorem dX8_reaches_59 : decode cX8_reaches 59 = .ok (.isub, 1) := by decide +kernel
theorem dX8_reaches_60 : decode cX8_reaches 60 = .ok (.imul, 1) := by decide +kernel
theorem dX8_reaches_61 : decode cX8_reaches 61 = .ok (.iload 5, 2) := by decide +kernel
theorem dX8_reaches_63 : decode cX8_reaches 63 = .ok (.iadd, 1) := by decide +kernel
theorem dX8_reaches_64 : decode cX8_reaches 64 = .ok (.baload, 1) := by decide +kernel
theorem dX8_reaches_65 : decode cX8_reaches 65 = .ok (.ifCond .eq 45, 3) := by decide +kernel
theorem dX8_reaches_68 : decode cX8_reaches 68 = .ok (.aload_n 0, 1) := by decide +kernel
theorem dX8_reaches_69 : decode cX8_reaches 69 = .ok (.getfield 38, 3) := by decide +kernel
theorem dX8_reaches_72 : decode cX8_reaches 72 = .ok (.sipush 512, 3) := by decide +kernel
theorem dX8_reaches_75 : decode cX8_reaches 75 = .ok (.iload_n 1, 1) := by decide +kernel
theorem dX8_reaches_76 : decode cX8_reaches 76 = .ok (.iconst 1, 1) := by decide +kernel
theorem dX8_reaches_77 : decode cX8_reaches 77 = .ok (.isub, 1) := by decide +kernel
theorem dX8_reaches_78 : decode cX8_reaches 78 = .ok (.imul, 1) := by decide +kernel
theorem dX8_reaches_79 : decode cX8_reaches 79 = .ok (.iload 5, 2) := by decide +kernel
theorem dX8_reaches_81 : decode cX8_reaches 81 = .ok (.iadd, 1) := by decide +kernel
theorem dX8_reaches_82 : decode cX8_reaches 82 = .ok (.iaload, 1) := by decide +kernel
theorem dX8_reaches_83 : decode cX8_reaches 83 = .ok (.aload_n 0, 1) := by decide +kernel
theorem dX8_reaches_84 : decode cX8_reaches 84 = .ok (.getfield 32, 3) := by decide +kernel
theorem dX8_reaches_87 : decode cX8_reaches 87 = .ok (.invokestatic 116, 3) := by decide +kernel
theorem dX8_reaches_90 : decode cX8_reaches 90 = .ok (.aload_n 0, 1) := by decide +kernel
theorem dX8_reaches_91 : decode cX8_reaches 91 = .ok (.getfield 38, 3) := by decide +kernel
theorem dX8_reaches_94 : decode cX8_reaches 94 = .ok (.sipush 512, 3) := by decide +kernel
theorem dX8_reaches_97 : decode cX8_reaches 97 = .ok (.iload_n 1, 1) := by decide +kernel
theorem dX8_reaches_98 : decode cX8_reaches 98 = .ok (.imul, 1) := by decide +kernel
theorem dX8_reaches_99 : decode cX8_reaches 99 = .ok (.iload_n 3, 1) := by decide +kernel
theorem dX8_reaches_100 : decode cX8_reaches 100 = .ok (.iadd, 1) := by decide +kernel
theorem dX8_reaches_101 : decode cX8_reaches 101 = .ok (.iaload, 1) := by decide +kernel
theorem dX8_reaches_102 : decode cX8_reaches 102 = .ok (.iand, 1) := by decide +kernel
theorem dX8_reaches_103 : decode cX8_reaches 103 = .ok (.ifCond .ne 7, 3) := by decide +kernel
theorem dX8_reaches_106 : decode cX8_reaches 106 = .ok (.iconst 1, 1) := by decide +kernel
theorem dX8_reaches_107 : decode cX8_reaches 107 = .ok (.goto 4, 3) := by decide +kernel
theorem dX8_reaches_110 : decode cX8_reaches 110 = .ok (.iconst 0, 1) := by decide +kernel
theorem dX8_reaches_111 : decode cX8_reaches 111 = .ok (.istore 4, 2) := by decide +kernel
theorem dX8_reaches_113 : decode cX8_reaches 113 = .ok (.iinc 5 1, 3) := by decide +kernel
theorem dX8_reaches_116 : decode cX8_reaches 116 = .ok (.goto (-88), 3) := by decide +kernel
theorem dX8_reaches_119 : decode cX8_reaches 119 = .ok (.aload_n 0, 1) := by decide +kernel
theorem dX8_reaches_120 : decode cX8_reaches 120 = .ok (.getfield 51, 3) := by decide +kernel
theorem dX8_reaches_123 : decode cX8_reaches 123 = .ok (.sipush 512, 3) := by decide +kernel
theorem dX8_reaches_126 : decode cX8_reaches 126 = .ok (.iload_n 1, 1) := by decide +kernel
theorem dX8_reaches_127 : decode cX8_reaches 127 = .ok (.imul, 1) := by decide +kernel
theorem dX8_reaches_128 : decode cX8_reaches 128 = .ok (.iload_n 3, 1) := by decide +kernel
theorem dX8_reaches_129 : decode cX8_reaches 129 = .ok (.iadd, 1) := by decide +kernel
theorem dX8_reaches_130 : decode cX8_reaches 130 = .ok (.iload 4, 2) := by decide +kernel
theorem dX8_reaches_132 : decode cX8_reaches 132 = .ok (.bastore, 1) := by decide +kernel
theorem dX8_reaches_133 : decode cX8_reaches 133 = .ok (.iload_n 2, 1) := by decide +kernel
theorem dX8_reaches_134 : decode cX8_reaches 134 = .ok (.ifCond .ne 8, 3) := by decide +kernel
theorem dX8_reaches_137 : decode cX8_reaches 137 = .ok (.iload 4, 2) := by decide +kernel
theorem dX8_reaches_139 : decode cX8_reaches 139 = .ok (.ifCond .eq 7, 3) := by decide +kernel
theorem dX8_reaches_142 : decode cX8_reaches 142 = .ok (.iconst 1, 1) := by decide +kernel
theorem dX8_reaches_143 : decode cX8_reaches 143 = .ok (.goto 4, 3) := by decide +kernel
theorem dX8_reaches_146 : decode cX8_reaches 146 = .ok (.iconst 0, 1) := by decide +kernel
theorem dX8_reaches_147 : decode cX8_reaches 147 = .ok (.istore_n 2, 1) := by decide +kernel
theorem dX8_reaches_148 : decode cX8_reaches 148 = .ok (.iinc 3 1, 3) := by decide +kernel
theorem dX8_reaches_151 : decode cX8_reaches 151 = .ok (.goto (-147), 3) := by decide +kernel
theorem dX8_reaches_154 : decode cX8_reaches 154 = .ok (.iload_n 2, 1) := by decide +kernel
theorem dX8_reaches_155 : decode cX8_reaches 155 = .ok (.ireturn, 1) := by decide +kernel
theorem dX8_highest_0 : decode cX8_highest 0 = .ok (.iconst 0, 1) := by decide +kernel
theorem dX8_highest_1 : decode cX8_highest 1 = .ok (.istore_n 1, 1) := by decide +kernel
theorem dX8_highest_2 : decode cX8_highest 2 = .ok (.iconst 1, 1) := by decide +kernel
theorem dX8_highest_3 : decode cX8_highest 3 = .ok (.istore_n 2, 1) := by decide +kernel
theorem dX8_highest_4 : decode cX8_highest 4 = .ok (.iload_n 2, 1) := by decide +kernel
theorem dX8_highest_5 : decode cX8_highest 5 = .ok (.ifCond .eq 37, 3) := by decide +kernel
theorem dX8_highest_8 : decode cX8_highest 8 = .ok (.iload_n 1, 1) := by decide +kernel
theorem dX8_highest_9 : decode cX8_highest 9 = .ok (.aload_n 0, 1) := by decide +kernel
theorem dX8_highest_10 : decode cX8_highest 10 = .ok (.getfield 55, 3) := by decide +kernel
theorem dX8_highest_13 : decode cX8_highest 13 = .ok (.if_icmp .ge 29, 3) := by decide +kernel
theorem dX8_highest_16 : decode cX8_highest 16 = .ok (.aload_n 0, 1) := by decide +kernel
theorem dX8_highest_17 : decode cX8_highest 17 = .ok (.iload_n 1, 1) := by decide +kernel
theorem dX8_highest_18 : decode cX8_highest 18 = .ok (.invokevirtual 107, 3) := by decide +kernel
theorem dX8_highest_21 : decode cX8_highest 21 = .ok (.aload_n 0, 1) := by decide +kernel
theorem dX8_highest_22 : decode cX8_highest 22 = .ok (.iload_n 1, 1) := by decide +kernel
theorem dX8_highest_23 : decode cX8_highest 23 = .ok (.invokevirtual 135, 3) := by decide +kernel
theorem dX8_highest_26 : decode cX8_highest 26 = .ok (.istore_n 2, 1) := by decide +kernel
theorem dX8_highest_27 : decode cX8_highest 27 = .ok (.iload_n 1, 1) := by decide +kernel
theorem dX8_highest_28 : decode cX8_highest 28 = .ok (.iload_n 2, 1) := by decide +kernel
theorem dX8_highest_29 : decode cX8_highest 29 = .ok (.ifCond .eq 7, 3) := by decide +kernel
theorem dX8_highest_32 : decode cX8_highest 32 = .ok (.iconst 1, 1) := by decide +kernel
theorem dX8_highest_33 : decode cX8_highest 33 = .ok (.goto 4, 3) := by decide +kernel
theorem dX8_highest_36 : decode cX8_highest 36 = .ok (.iconst 0, 1) := by decide +kernel
theorem dX8_highest_37 : decode cX8_highest 37 = .ok (.iadd, 1) := by decide +kernel
theorem dX8_highest_38 : decode cX8_highest 38 = .ok (.istore_n 1, 1) := by decide +kernel
theorem dX8_highest_39 : decode cX8_highest 39 = .ok (.goto (-35), 3) := by decide +kernel
theorem dX8_highest_42 : decode cX8_highest 42 = .ok (.iload_n 1, 1) := by decide +kernel
theorem dX8_highest_43 : decode cX8_highest 43 = .ok (.ireturn, 1) := by decide +kernel
theorem dX8_byLap_0 : decode cX8_byLap 0 = .ok (.iload_n 1, 1) := by decide +kernel
theorem dX8_byLap_1 : decode cX8_byLap 1 = .ok (.iconst 1, 1) := by decide +kernel
theorem dX8_byLap_2 : decode cX8_byLap 2 = .ok (.iconst 3, 1) := by decide +kernel
theorem dX8_byLap_3 : decode cX8_byLap 3 = .ok (.invokestatic 58, 3) := by decide +kernel
theorem dX8_byLap_6 : decode cX8_byLap 6 = .ok (.ifCond .eq 11, 3) := by decide +kernel
theorem dX8_byLap_9 : decode cX8_byLap 9 = .ok (.aload_n 0, 1) := by decide +kernel
theorem dX8_byLap_10 : decode cX8_byLap 10 = .ok (.iload_n 1, 1) := by decide +kernel
theorem dX8_byLap_11 : decode cX8_byLap 11 = .ok (.invokevirtual 125, 3) := by decide +kernel
theorem dX8_byLap_14 : decode cX8_byLap 14 = .ok (.goto 5, 3) := by decide +kernel
theorem dX8_byLap_17 : decode cX8_byLap 17 = .ok (.bipush (-2), 2) := by decide +kernel
theorem dX8_byLap_19 : decode cX8_byLap 19 = .ok (.ireturn, 1) := by decide +kernel
theorem dX8_lay_0 : decode cX8_lay 0 = .ok (.aload_n 0, 1) := by decide +kernel
theorem dX8_lay_1 : decode cX8_lay 1 = .ok (.iload_n 1, 1) := by decide +kernel
theorem dX8_lay_2 : decode cX8_lay 2 = .ok (.invokevirtual 62, 3) := by decide +kernel
theorem dX8_lay_5 : decode cX8_lay 5 = .ok (.ifCond .ne 5, 3) := by decide +kernel
theorem dX8_lay_8 : decode cX8_lay 8 = .ok (.iconst (-1), 1) := by decide +kernel
theorem dX8_lay_9 : decode cX8_lay 9 = .ok (.ireturn, 1) := by decide +kernel
theorem dX8_lay_10 : decode cX8_lay 10 = .ok (.aload_n 0, 1) := by decide +kernel
theorem dX8_lay_11 : decode cX8_lay 11 = .ok (.iload_n 2, 1) := by decide +kernel
theorem dX8_lay_12 : decode cX8_lay 12 = .ok (.invokevirtual 66, 3) := by decide +kernel
theorem dX8_lay_15 : decode cX8_lay 15 = .ok (.ifCond .ne 6, 3) := by decide +kernel
theorem dX8_lay_18 : decode cX8_lay 18 = .ok (.bipush (-2), 2) := by decide +kernel
theorem dX8_lay_20 : decode cX8_lay 20 = .ok (.ireturn, 1) := by decide +kernel
theorem dX8_lay_21 : decode cX8_lay 21 = .ok (.aload_n 0, 1) := by decide +kernel
theorem dX8_lay_22 : decode cX8_lay 22 = .ok (.getfield 23, 3) := by decide +kernel
theorem dX8_lay_25 : decode cX8_lay 25 = .ok (.iload_n 1, 1) := by decide +kernel
theorem dX8_lay_26 : decode cX8_lay 26 = .ok (.iaload, 1) := by decide +kernel
theorem dX8_lay_27 : decode cX8_lay 27 = .ok (.istore_n 3, 1) := by decide +kernel
theorem dX8_lay_28 : decode cX8_lay 28 = .ok (.aload_n 0, 1) := by decide +kernel
theorem dX8_lay_29 : decode cX8_lay 29 = .ok (.getfield 23, 3) := by decide +kernel
theorem dX8_lay_32 : decode cX8_lay 32 = .ok (.iload_n 1, 1) := by decide +kernel
theorem dX8_lay_33 : decode cX8_lay 33 = .ok (.iload_n 2, 1) := by decide +kernel
theorem dX8_lay_34 : decode cX8_lay 34 = .ok (.iastore, 1) := by decide +kernel
theorem dX8_lay_35 : decode cX8_lay 35 = .ok (.iload_n 3, 1) := by decide +kernel
theorem dX8_lay_36 : decode cX8_lay 36 = .ok (.ireturn, 1) := by decide +kernel
theorem dX8_laidCost_0 : decode cX8_laidCost 0 = .ok (.iconst 0, 1) := by decide +kernel
theorem dX8_laidCost_1 : decode cX8_laidCost 1 = .ok (.istore_n 1, 1) := by decide +kernel
theorem dX8_laidCost_2 : decode cX8_laidCost 2 = .ok (.iconst 0, 1) := by decide +kernel
theorem dX8_laidCost_3 : decode cX8_laidCost 3 = .ok (.istore_n 2, 1) := by decide +kernel
theorem dX8_laidCost_4 : decode cX8_laidCost 4 = .ok (.iload_n 2, 1) := by decide +kernel
theorem dX8_laidCost_5 : decode cX8_laidCost 5 = .ok (.aload_n 0, 1) := by decide +kernel
theorem dX8_laidCost_6 : decode cX8_laidCost 6 = .ok (.getfield 55, 3) := by decide +kernel
theorem dX8_laidCost_9 : decode cX8_laidCost 9 = .ok (.if_icmp .ge 23, 3) := by decide +kernel
theorem dX8_laidCost_12 : decode cX8_laidCost 12 = .ok (.iload_n 1, 1) := by decide +kernel
theorem dX8_laidCost_13 : decode cX8_laidCost 13 = .ok (.aload_n 0, 1) := by decide +kernel
theorem dX8_laidCost_14 : decode cX8_laidCost 14 = .ok (.iload_n 2, 1) := by decide +kernel
theorem dX8_laidCost_15 : decode cX8_laidCost 15 = .ok (.aload_n 0, 1) := by decide +kernel
theorem dX8_laidCost_16 : decode cX8_laidCost 16 = .ok (.getfield 23, 3) := by decide +kernel
theorem dX8_laidCost_19 : decode cX8_laidCost 19 = .ok (.iload_n 2, 1) := by decide +kernel
theorem dX8_laidCost_20 : decode cX8_laidCost 20 = .ok (.iaload, 1) := by decide +kernel
theorem dX8_laidCost_21 : decode cX8_laidCost 21 = .ok (.invokevirtual 119, 3) := by decide +kernel
theorem dX8_laidCost_24 : decode cX8_laidCost 24 = .ok (.iadd, 1) := by decide +kernel
theorem dX8_laidCost_25 : decode cX8_laidCost 25 = .ok (.istore_n 1, 1) := by decide +kernel
theorem dX8_laidCost_26 : decode cX8_laidCost 26 = .ok (.iinc 2 1, 3) := by decide +kernel
theorem dX8_laidCost_29 : decode cX8_laidCost 29 = .ok (.goto (-25), 3) := by decide +kernel
theorem dX8_laidCost_32 : decode cX8_laidCost 32 = .ok (.iload_n 1, 1) := by decide +kernel
theorem dX8_laidCost_33 : decode cX8_laidCost 33 = .ok (.ireturn, 1) := by decide +kernel
theorem dX8_layBest_0 : decode cX8_layBest 0 = .ok (.aload_n 0, 1) := by decide +kernel
theorem dX8_layBest_1 : decode cX8_layBest 1 = .ok (.invokevirtual 128, 3) := by decide +kernel
theorem dX8_layBest_4 : decode cX8_layBest 4 = .ok (.ifCond .ne 6, 3) := by decide +kernel
theorem dX8_layBest_7 : decode cX8_layBest 7 = .ok (.bipush (-3), 2) := by decide +kernel
theorem dX8_layBest_9 : decode cX8_layBest 9 = .ok (.ireturn, 1) := by decide +kernel
theorem dX8_layBest_10 : decode cX8_layBest 10 = .ok (.iconst 0, 1) := by decide +kernel
theorem dX8_layBest_11 : decode cX8_layBest 11 = .ok (.istore_n 1, 1) := by decide +kernel
theorem dX8_layBest_12 : decode cX8_layBest 12 = .ok (.iload_n 1, 1) := by decide +kernel
theorem dX8_layBest_13 : decode cX8_layBest 13 = .ok (.aload_n 0, 1) := by decide +kernel
theorem dX8_layBest_14 : decode cX8_layBest 14 = .ok (.getfield 55, 3) := by decide +kernel
theorem dX8_layBest_17 : decode cX8_layBest 17 = .ok (.if_icmp .ge 21, 3) := by decide +kernel
theorem dX8_layBest_20 : decode cX8_layBest 20 = .ok (.aload_n 0, 1) := by decide +kernel
theorem dX8_layBest_21 : decode cX8_layBest 21 = .ok (.getfield 23, 3) := by decide +kernel
theorem dX8_layBest_24 : decode cX8_layBest 24 = .ok (.iload_n 1, 1) := by decide +kernel
theorem dX8_layBest_25 : decode cX8_layBest 25 = .ok (.aload_n 0, 1) := by decide +kernel
theorem dX8_layBest_26 : decode cX8_layBest 26 = .ok (.getfield 48, 3) := by decide +kernel
theorem dX8_layBest_29 : decode cX8_layBest 29 = .ok (.iload_n 1, 1) := by decide +kernel
theorem dX8_layBest_30 : decode cX8_layBest 30 = .ok (.iaload, 1) := by decide +kernel
theorem dX8_layBest_31 : decode cX8_layBest 31 = .ok (.iastore, 1) := by decide +kernel
theorem dX8_layBest_32 : decode cX8_layBest 32 = .ok (.iinc 1 1, 3) := by decide +kernel
theorem dX8_layBest_35 : decode cX8_layBest 35 = .ok (.goto (-23), 3) := by decide +kernel
theorem dX8_layBest_38 : decode cX8_layBest 38 = .ok (.aload_n 0, 1) := by decide +kernel
theorem dX8_layBest_39 : decode cX8_layBest 39 = .ok (.invokevirtual 138, 3) := by decide +kernel
theorem dX8_layBest_42 : decode cX8_layBest 42 = .ok (.ireturn, 1) := by decide +kernel
theorem dX8_laidRule_0 : decode cX8_laidRule 0 = .ok (.aload_n 0, 1) := by decide +kernel
theorem dX8_laidRule_1 : decode cX8_laidRule 1 = .ok (.iload_n 1, 1) := by decide +kernel
theorem dX8_laidRule_2 : decode cX8_laidRule 2 = .ok (.aload_n 0, 1) := by decide +kernel
theorem dX8_laidRule_3 : decode cX8_laidRule 3 = .ok (.getfield 23, 3) := by decide +kernel
theorem dX8_laidRule_6 : decode cX8_laidRule 6 = .ok (.iload_n 1, 1) := by decide +kernel
theorem dX8_laidRule_7 : decode cX8_laidRule 7 = .ok (.iaload, 1) := by decide +kernel
theorem dX8_laidRule_8 : decode cX8_laidRule 8 = .ok (.invokevirtual 103, 3) := by decide +kernel
theorem dX8_laidRule_11 : decode cX8_laidRule 11 = .ok (.istore_n 2, 1) := by decide +kernel
theorem dX8_laidRule_12 : decode cX8_laidRule 12 = .ok (.iload_n 1, 1) := by decide +kernel
theorem dX8_laidRule_13 : decode cX8_laidRule 13 = .ok (.ifCond .le 32, 3) := by decide +kernel
theorem dX8_laidRule_16 : decode cX8_laidRule 16 = .ok (.aload_n 0, 1) := by decide +kernel
theorem dX8_laidRule_17 : decode cX8_laidRule 17 = .ok (.getfield 23, 3) := by decide +kernel
theorem dX8_laidRule_20 : decode cX8_laidRule 20 = .ok (.iload_n 1, 1) := by decide +kernel
theorem dX8_laidRule_21 : decode cX8_laidRule 21 = .ok (.iconst 1, 1) := by decide +kernel
theorem dX8_laidRule_22 : decode cX8_laidRule 22 = .ok (.isub, 1) := by decide +kernel
theorem dX8_laidRule_23 : decode cX8_laidRule 23 = .ok (.iaload, 1) := by decide +kernel
theorem dX8_laidRule_24 : decode cX8_laidRule 24 = .ok (.aload_n 0, 1) := by decide +kernel
theorem dX8_laidRule_25 : decode cX8_laidRule 25 = .ok (.getfield 32, 3) := by decide +kernel
theorem dX8_laidRule_28 : decode cX8_laidRule 28 = .ok (.invokestatic 116, 3) := by decide +kernel
theorem dX8_laidRule_31 : decode cX8_laidRule 31 = .ok (.aload_n 0, 1) := by decide +kernel
theorem dX8_laidRule_32 : decode cX8_laidRule 32 = .ok (.getfield 23, 3) := by decide +kernel
theorem dX8_laidRule_35 : decode cX8_laidRule 35 = .ok (.iload_n 1, 1) := by decide +kernel
theorem dX8_laidRule_36 : decode cX8_laidRule 36 = .ok (.iaload, 1) := by decide +kernel
theorem dX8_laidRule_37 : decode cX8_laidRule 37 = .ok (.iand, 1) := by decide +kernel
theorem dX8_laidRule_38 : decode cX8_laidRule 38 = .ok (.ifCond .eq 7, 3) := by decide +kernel
theorem dX8_laidRule_41 : decode cX8_laidRule 41 = .ok (.iconst 1, 1) := by decide +kernel
theorem dX8_laidRule_42 : decode cX8_laidRule 42 = .ok (.goto 4, 3) := by decide +kernel
theorem dX8_laidRule_45 : decode cX8_laidRule 45 = .ok (.iconst 0, 1) := by decide +kernel
theorem dX8_laidRule_46 : decode cX8_laidRule 46 = .ok (.istore_n 3, 1) := by decide +kernel
theorem dX8_laidRule_47 : decode cX8_laidRule 47 = .ok (.iload_n 2, 1) := by decide +kernel
theorem dX8_laidRule_48 : decode cX8_laidRule 48 = .ok (.ifCond .eq 7, 3) := by decide +kernel
theorem dX8_laidRule_51 : decode cX8_laidRule 51 = .ok (.iload_n 2, 1) := by decide +kernel
theorem dX8_laidRule_52 : decode cX8_laidRule 52 = .ok (.goto 13, 3) := by decide +kernel
theorem dX8_laidRule_55 : decode cX8_laidRule 55 = .ok (.iload_n 3, 1) := by decide +kernel
theorem dX8_laidRule_56 : decode cX8_laidRule 56 = .ok (.ifCond .eq 8, 3) := by decide +kernel
theorem dX8_laidRule_59 : decode cX8_laidRule 59 = .ok (.bipush 7, 2) := by decide +kernel
theorem dX8_laidRule_61 : decode cX8_laidRule 61 = .ok (.goto 4, 3) := by decide +kernel
theorem dX8_laidRule_64 : decode cX8_laidRule 64 = .ok (.iconst 0, 1) := by decide +kernel
theorem dX8_laidRule_65 : decode cX8_laidRule 65 = .ok (.ireturn, 1) := by decide +kernel
theorem dX8_wrong_0 : decode cX8_wrong 0 = .ok (.iload_n 1, 1) := by decide +kernel
theorem dX8_wrong_1 : decode cX8_wrong 1 = .ok (.iconst 0, 1) := by decide +kernel
theorem dX8_wrong_2 : decode cX8_wrong 2 = .ok (.iconst 1, 1) := by decide +kernel
theorem dX8_wrong_3 : decode cX8_wrong 3 = .ok (.invokestatic 58, 3) := by decide +kernel
theorem dX8_wrong_6 : decode cX8_wrong 6 = .ok (.ifCond .ne 6, 3) := by decide +kernel
theorem dX8_wrong_9 : decode cX8_wrong 9 = .ok (.bipush (-2), 2) := by decide +kernel
theorem dX8_wrong_11 : decode cX8_wrong 11 = .ok (.ireturn, 1) := by decide +kernel
theorem dX8_wrong_12 : decode cX8_wrong 12 = .ok (.iconst 0, 1) := by decide +kernel
theorem dX8_wrong_13 : decode cX8_wrong 13 = .ok (.istore_n 2, 1) := by decide +kernel
theorem dX8_wrong_14 : decode cX8_wrong 14 = .ok (.iload_n 2, 1) := by decide +kernel
theorem dX8_wrong_15 : decode cX8_wrong 15 = .ok (.aload_n 0, 1) := by decide +kernel
theorem dX8_wrong_16 : decode cX8_wrong 16 = .ok (.getfield 55, 3) := by decide +kernel
theorem dX8_wrong_19 : decode cX8_wrong 19 = .ok (.if_icmp .ge 29, 3) := by decide +kernel
theorem dX8_wrong_22 : decode cX8_wrong 22 = .ok (.aload_n 0, 1) := by decide +kernel
theorem dX8_wrong_23 : decode cX8_wrong 23 = .ok (.iload_n 2, 1) := by decide +kernel
theorem dX8_wrong_24 : decode cX8_wrong 24 = .ok (.invokevirtual 142, 3) := by decide +kernel
theorem dX8_wrong_27 : decode cX8_wrong 27 = .ok (.istore_n 3, 1) := by decide +kernel
theorem dX8_wrong_28 : decode cX8_wrong 28 = .ok (.iload_n 3, 1) := by decide +kernel
theorem dX8_wrong_29 : decode cX8_wrong 29 = .ok (.ifCond .eq 13, 3) := by decide +kernel
theorem dX8_wrong_32 : decode cX8_wrong 32 = .ok (.iload_n 1, 1) := by decide +kernel
theorem dX8_wrong_33 : decode cX8_wrong 33 = .ok (.ifCond .ne 7, 3) := by decide +kernel
theorem dX8_wrong_36 : decode cX8_wrong 36 = .ok (.iload_n 2, 1) := by decide +kernel
theorem dX8_wrong_37 : decode cX8_wrong 37 = .ok (.goto 4, 3) := by decide +kernel
theorem dX8_wrong_40 : decode cX8_wrong 40 = .ok (.iload_n 3, 1) := by decide +kernel
theorem dX8_wrong_41 : decode cX8_wrong 41 = .ok (.ireturn, 1) := by decide +kernel
theorem dX8_wrong_42 : decode cX8_wrong 42 = .ok (.iinc 2 1, 3) := by decide +kernel
theorem dX8_wrong_45 : decode cX8_wrong 45 = .ok (.goto (-31), 3) := by decide +kernel
theorem dX8_wrong_48 : decode cX8_wrong 48 = .ok (.bipush (-9), 2) := by decide +kernel
theorem dX8_wrong_50 : decode cX8_wrong 50 = .ok (.ireturn, 1) := by decide +kernel
theorem dX8_cost_0 : decode cX8_cost 0 = .ok (.aload_n 0, 1) := by decide +kernel
theorem dX8_cost_1 : decode cX8_cost 1 = .ok (.invokevirtual 138, 3) := by decide +kernel
theorem dX8_cost_4 : decode cX8_cost 4 = .ok (.ireturn, 1) := by decide +kernel
theorem dX8_laidPieces_0 : decode cX8_laidPieces 0 = .ok (.iconst 0, 1) := by decide +kernel
theorem dX8_laidPieces_1 : decode cX8_laidPieces 1 = .ok (.istore_n 2, 1) := by decide +kernel
theorem dX8_laidPieces_2 : decode cX8_laidPieces 2 = .ok (.iconst 0, 1) := by decide +kernel
theorem dX8_laidPieces_3 : decode cX8_laidPieces 3 = .ok (.istore_n 3, 1) := by decide +kernel
theorem dX8_laidPieces_4 : decode cX8_laidPieces 4 = .ok (.iload_n 3, 1) := by decide +kernel
theorem dX8_laidPieces_5 : decode cX8_laidPieces 5 = .ok (.aload_n 0, 1) := by decide +kernel
theorem dX8_laidPieces_6 : decode cX8_laidPieces 6 = .ok (.getfield 55, 3) := by decide +kernel
theorem dX8_laidPieces_9 : decode cX8_laidPieces 9 = .ok (.if_icmp .ge 24, 3) := by decide +kernel
theorem dX8_laidPieces_12 : decode cX8_laidPieces 12 = .ok (.iload_n 2, 1) := by decide +kernel
theorem dX8_laidPieces_13 : decode cX8_laidPieces 13 = .ok (.aload_n 0, 1) := by decide +kernel
theorem dX8_laidPieces_14 : decode cX8_laidPieces 14 = .ok (.iload_n 3, 1) := by decide +kernel
theorem dX8_laidPieces_15 : decode cX8_laidPieces 15 = .ok (.aload_n 0, 1) := by decide +kernel
theorem dX8_laidPieces_16 : decode cX8_laidPieces 16 = .ok (.getfield 23, 3) := by decide +kernel
theorem dX8_laidPieces_19 : decode cX8_laidPieces 19 = .ok (.iload_n 3, 1) := by decide +kernel
theorem dX8_laidPieces_20 : decode cX8_laidPieces 20 = .ok (.iaload, 1) := by decide +kernel
theorem dX8_laidPieces_21 : decode cX8_laidPieces 21 = .ok (.iload_n 1, 1) := by decide +kernel
theorem dX8_laidPieces_22 : decode cX8_laidPieces 22 = .ok (.invokevirtual 132, 3) := by decide +kernel
theorem dX8_laidPieces_25 : decode cX8_laidPieces 25 = .ok (.iadd, 1) := by decide +kernel
theorem dX8_laidPieces_26 : decode cX8_laidPieces 26 = .ok (.istore_n 2, 1) := by decide +kernel
theorem dX8_laidPieces_27 : decode cX8_laidPieces 27 = .ok (.iinc 3 1, 3) := by decide +kernel
theorem dX8_laidPieces_30 : decode cX8_laidPieces 30 = .ok (.goto (-26), 3) := by decide +kernel
theorem dX8_laidPieces_33 : decode cX8_laidPieces 33 = .ok (.iload_n 2, 1) := by decide +kernel
theorem dX8_laidPieces_34 : decode cX8_laidPieces 34 = .ok (.ireturn, 1) := by decide +kernel
theorem dX8_pieces_0 : decode cX8_pieces 0 = .ok (.iload_n 1, 1) := by decide +kernel
theorem dX8_pieces_1 : decode cX8_pieces 1 = .ok (.iconst 1, 1) := by decide +kernel
theorem dX8_pieces_2 : decode cX8_pieces 2 = .ok (.bipush 10, 2) := by decide +kernel
theorem dX8_pieces_4 : decode cX8_pieces 4 = .ok (.invokestatic 58, 3) := by decide +kernel
theorem dX8_pieces_7 : decode cX8_pieces 7 = .ok (.ifCond .eq 11, 3) := by decide +kernel
theorem dX8_pieces_10 : decode cX8_pieces 10 = .ok (.aload_n 0, 1) := by decide +kernel
theorem dX8_pieces_11 : decode cX8_pieces 11 = .ok (.iload_n 1, 1) := by decide +kernel
theorem dX8_pieces_12 : decode cX8_pieces 12 = .ok (.invokevirtual 145, 3) := by decide +kernel
theorem dX8_pieces_15 : decode cX8_pieces 15 = .ok (.goto 5, 3) := by decide +kernel
theorem dX8_pieces_18 : decode cX8_pieces 18 = .ok (.bipush (-2), 2) := by decide +kernel
theorem dX8_pieces_20 : decode cX8_pieces 20 = .ok (.ireturn, 1) := by decide +kernel
theorem dX8_piece_0 : decode cX8_piece 0 = .ok (.aload_n 0, 1) := by decide +kernel
theorem dX8_piece_1 : decode cX8_piece 1 = .ok (.iload_n 1, 1) := by decide +kernel
theorem dX8_piece_2 : decode cX8_piece 2 = .ok (.invokevirtual 62, 3) := by decide +kernel
theorem dX8_piece_5 : decode cX8_piece 5 = .ok (.ifCond .ne 5, 3) := by decide +kernel
theorem dX8_piece_8 : decode cX8_piece 8 = .ok (.iconst (-1), 1) := by decide +kernel
theorem dX8_piece_9 : decode cX8_piece 9 = .ok (.ireturn, 1) := by decide +kernel
theorem dX8_piece_10 : decode cX8_piece 10 = .ok (.iload_n 2, 1) := by decide +kernel
theorem dX8_piece_11 : decode cX8_piece 11 = .ok (.iconst 0, 1) := by decide +kernel
theorem dX8_piece_12 : decode cX8_piece 12 = .ok (.aload_n 0, 1) := by decide +kernel
theorem dX8_piece_13 : decode cX8_piece 13 = .ok (.getfield 7, 3) := by decide +kernel
theorem dX8_piece_16 : decode cX8_piece 16 = .ok (.iconst 1, 1) := by decide +kernel
theorem dX8_piece_17 : decode cX8_piece 17 = .ok (.isub, 1) := by decide +kernel
theorem dX8_piece_18 : decode cX8_piece 18 = .ok (.invokestatic 58, 3) := by decide +kernel
theorem dX8_piece_21 : decode cX8_piece 21 = .ok (.ifCond .ne 6, 3) := by decide +kernel
theorem dX8_piece_24 : decode cX8_piece 24 = .ok (.bipush (-2), 2) := by decide +kernel
theorem dX8_piece_26 : decode cX8_piece 26 = .ok (.ireturn, 1) := by decide +kernel
theorem dX8_piece_27 : decode cX8_piece 27 = .ok (.aload_n 0, 1) := by decide +kernel
theorem dX8_piece_28 : decode cX8_piece 28 = .ok (.getfield 13, 3) := by decide +kernel
theorem dX8_piece_31 : decode cX8_piece 31 = .ok (.iload_n 1, 1) := by decide +kernel
theorem dX8_piece_32 : decode cX8_piece 32 = .ok (.iaload, 1) := by decide +kernel
theorem dX8_piece_33 : decode cX8_piece 33 = .ok (.iload_n 2, 1) := by decide +kernel
theorem dX8_piece_34 : decode cX8_piece 34 = .ok (.invokestatic 69, 3) := by decide +kernel
theorem dX8_piece_37 : decode cX8_piece 37 = .ok (.ifCond .eq 8, 3) := by decide +kernel
theorem dX8_piece_40 : decode cX8_piece 40 = .ok (.bipush (-9), 2) := by decide +kernel
theorem dX8_piece_42 : decode cX8_piece 42 = .ok (.goto 26, 3) := by decide +kernel
theorem dX8_piece_45 : decode cX8_piece 45 = .ok (.aload_n 0, 1) := by decide +kernel
theorem dX8_piece_46 : decode cX8_piece 46 = .ok (.iload_n 1, 1) := by decide +kernel
theorem dX8_piece_47 : decode cX8_piece 47 = .ok (.aload_n 0, 1) := by decide +kernel
theorem dX8_piece_48 : decode cX8_piece 48 = .ok (.getfield 23, 3) := by decide +kernel
theorem dX8_piece_51 : decode cX8_piece 51 = .ok (.iload_n 1, 1) := by decide +kernel
theorem dX8_piece_52 : decode cX8_piece 52 = .ok (.iaload, 1) := by decide +kernel
theorem dX8_piece_53 : decode cX8_piece 53 = .ok (.aload_n 0, 1) := by decide +kernel
theorem dX8_piece_54 : decode cX8_piece 54 = .ok (.iload_n 1, 1) := by decide +kernel
theorem dX8_piece_55 : decode cX8_piece 55 = .ok (.aload_n 0, 1) := by decide +kernel
theorem dX8_piece_56 : decode cX8_piece 56 = .ok (.getfield 23, 3) := by decide +kernel
theorem dX8_piece_59 : decode cX8_piece 59 = .ok (.iload_n 1, 1) := by decide +kernel
theorem dX8_piece_60 : decode cX8_piece 60 = .ok (.iaload, 1) := by decide +kernel
theorem dX8_piece_61 : decode cX8_piece 61 = .ok (.iload_n 2, 1) := by decide +kernel
theorem dX8_piece_62 : decode cX8_piece 62 = .ok (.invokevirtual 84, 3) := by decide +kernel
theorem dX8_piece_65 : decode cX8_piece 65 = .ok (.invokevirtual 80, 3) := by decide +kernel
theorem dX8_piece_68 : decode cX8_piece 68 = .ok (.ireturn, 1) := by decide +kernel
theorem dX8_cut_0 : decode cX8_cut 0 = .ok (.aload_n 0, 1) := by decide +kernel
theorem dX8_cut_1 : decode cX8_cut 1 = .ok (.iconst 1, 1) := by decide +kernel
theorem dX8_cut_2 : decode cX8_cut 2 = .ok (.invokevirtual 145, 3) := by decide +kernel
theorem dX8_cut_5 : decode cX8_cut 5 = .ok (.aload_n 0, 1) := by decide +kernel
theorem dX8_cut_6 : decode cX8_cut 6 = .ok (.iconst 3, 1) := by decide +kernel
theorem dX8_cut_7 : decode cX8_cut 7 = .ok (.invokevirtual 145, 3) := by decide +kernel
theorem dX8_cut_10 : decode cX8_cut 10 = .ok (.isub, 1) := by decide +kernel
theorem dX8_cut_11 : decode cX8_cut 11 = .ok (.istore_n 1, 1) := by decide +kernel
theorem dX8_cut_12 : decode cX8_cut 12 = .ok (.iload_n 1, 1) := by decide +kernel
theorem dX8_cut_13 : decode cX8_cut 13 = .ok (.ifCond .ge 7, 3) := by decide +kernel
theorem dX8_cut_16 : decode cX8_cut 16 = .ok (.iconst 0, 1) := by decide +kernel
theorem dX8_cut_17 : decode cX8_cut 17 = .ok (.goto 4, 3) := by decide +kernel
theorem dX8_cut_20 : decode cX8_cut 20 = .ok (.iload_n 1, 1) := by decide +kernel
theorem dX8_cut_21 : decode cX8_cut 21 = .ok (.istore_n 1, 1) := by decide +kernel
theorem dX8_cut_22 : decode cX8_cut 22 = .ok (.aload_n 0, 1) := by decide +kernel
theorem dX8_cut_23 : decode cX8_cut 23 = .ok (.iconst 2, 1) := by decide +kernel
theorem dX8_cut_24 : decode cX8_cut 24 = .ok (.invokevirtual 145, 3) := by decide +kernel
theorem dX8_cut_27 : decode cX8_cut 27 = .ok (.istore_n 2, 1) := by decide +kernel
theorem dX8_cut_28 : decode cX8_cut 28 = .ok (.iload_n 1, 1) := by decide +kernel
theorem dX8_cut_29 : decode cX8_cut 29 = .ok (.iload_n 2, 1) := by decide +kernel
theorem dX8_cut_30 : decode cX8_cut 30 = .ok (.iconst 2, 1) := by decide +kernel
theorem dX8_cut_31 : decode cX8_cut 31 = .ok (.irem, 1) := by decide +kernel
theorem dX8_cut_32 : decode cX8_cut 32 = .ok (.iconst 1, 1) := by decide +kernel
theorem dX8_cut_33 : decode cX8_cut 33 = .ok (.if_icmp .ne 7, 3) := by decide +kernel
theorem dX8_cut_36 : decode cX8_cut 36 = .ok (.iconst 2, 1) := by decide +kernel
theorem dX8_cut_37 : decode cX8_cut 37 = .ok (.goto 4, 3) := by decide +kernel
theorem dX8_cut_40 : decode cX8_cut 40 = .ok (.iconst 0, 1) := by decide +kernel
theorem dX8_cut_41 : decode cX8_cut 41 = .ok (.isub, 1) := by decide +kernel
theorem dX8_cut_42 : decode cX8_cut 42 = .ok (.istore_n 1, 1) := by decide +kernel
theorem dX8_cut_43 : decode cX8_cut 43 = .ok (.aload_n 0, 1) := by decide +kernel
theorem dX8_cut_44 : decode cX8_cut 44 = .ok (.iconst 4, 1) := by decide +kernel
theorem dX8_cut_45 : decode cX8_cut 45 = .ok (.invokevirtual 145, 3) := by decide +kernel
theorem dX8_cut_48 : decode cX8_cut 48 = .ok (.aload_n 0, 1) := by decide +kernel
theorem dX8_cut_49 : decode cX8_cut 49 = .ok (.iconst 3, 1) := by decide +kernel
theorem dX8_cut_50 : decode cX8_cut 50 = .ok (.invokevirtual 145, 3) := by decide +kernel
theorem dX8_cut_53 : decode cX8_cut 53 = .ok (.iadd, 1) := by decide +kernel
theorem dX8_cut_54 : decode cX8_cut 54 = .ok (.iload_n 2, 1) := by decide +kernel
theorem dX8_cut_55 : decode cX8_cut 55 = .ok (.iconst 1, 1) := by decide +kernel
theorem dX8_cut_56 : decode cX8_cut 56 = .ok (.iadd, 1) := by decide +kernel
theorem dX8_cut_57 : decode cX8_cut 57 = .ok (.iconst 2, 1) := by decide +kernel
theorem dX8_cut_58 : decode cX8_cut 58 = .ok (.idiv, 1) := by decide +kernel
theorem dX8_cut_59 : decode cX8_cut 59 = .ok (.iadd, 1) := by decide +kernel
theorem dX8_cut_60 : decode cX8_cut 60 = .ok (.iload_n 1, 1) := by decide +kernel
theorem dX8_cut_61 : decode cX8_cut 61 = .ok (.ifCond .le 11, 3) := by decide +kernel
theorem dX8_cut_64 : decode cX8_cut 64 = .ok (.iload_n 1, 1) := by decide +kernel
theorem dX8_cut_65 : decode cX8_cut 65 = .ok (.iconst 3, 1) := by decide +kernel
theorem dX8_cut_66 : decode cX8_cut 66 = .ok (.iadd, 1) := by decide +kernel
theorem dX8_cut_67 : decode cX8_cut 67 = .ok (.iconst 4, 1) := by decide +kernel
theorem dX8_cut_68 : decode cX8_cut 68 = .ok (.idiv, 1) := by decide +kernel
theorem dX8_cut_69 : decode cX8_cut 69 = .ok (.goto 4, 3) := by decide +kernel
theorem dX8_cut_72 : decode cX8_cut 72 = .ok (.iconst 0, 1) := by decide +kernel
theorem dX8_cut_73 : decode cX8_cut 73 = .ok (.iadd, 1) := by decide +kernel
theorem dX8_cut_74 : decode cX8_cut 74 = .ok (.ireturn, 1) := by decide +kernel
theorem dX8_many_0 : decode cX8_many 0 = .ok (.iload_n 1, 1) := by decide +kernel
theorem dX8_many_1 : decode cX8_many 1 = .ok (.tableswitch 77 0 5 #[39, 44, 49, 54, 63, 68], 39) := by decide +kernel
theorem dX8_many_40 : decode cX8_many 40 = .ok (.aload_n 0, 1) := by decide +kernel
theorem dX8_many_41 : decode cX8_many 41 = .ok (.getfield 55, 3) := by decide +kernel
theorem dX8_many_44 : decode cX8_many 44 = .ok (.ireturn, 1) := by decide +kernel
theorem dX8_many_45 : decode cX8_many 45 = .ok (.aload_n 0, 1) := by decide +kernel
theorem dX8_many_46 : decode cX8_many 46 = .ok (.getfield 7, 3) := by decide +kernel
theorem dX8_many_49 : decode cX8_many 49 = .ok (.ireturn, 1) := by decide +kernel
theorem dX8_many_50 : decode cX8_many 50 = .ok (.aload_n 0, 1) := by decide +kernel
theorem dX8_many_51 : decode cX8_many 51 = .ok (.getfield 32, 3) := by decide +kernel
theorem dX8_many_54 : decode cX8_many 54 = .ok (.ireturn, 1) := by decide +kernel
theorem dX8_many_55 : decode cX8_many 55 = .ok (.aload_n 0, 1) := by decide +kernel
theorem dX8_many_56 : decode cX8_many 56 = .ok (.aload_n 0, 1) := by decide +kernel
theorem dX8_many_57 : decode cX8_many 57 = .ok (.getfield 13, 3) := by decide +kernel
theorem dX8_many_60 : decode cX8_many 60 = .ok (.invokevirtual 148, 3) := by decide +kernel
theorem dX8_many_63 : decode cX8_many 63 = .ok (.ireturn, 1) := by decide +kernel
theorem dX8_many_64 : decode cX8_many 64 = .ok (.aload_n 0, 1) := by decide +kernel
theorem dX8_many_65 : decode cX8_many 65 = .ok (.invokevirtual 152, 3) := by decide +kernel
theorem dX8_many_68 : decode cX8_many 68 = .ok (.ireturn, 1) := by decide +kernel
theorem dX8_many_69 : decode cX8_many 69 = .ok (.aload_n 0, 1) := by decide +kernel
theorem dX8_many_70 : decode cX8_many 70 = .ok (.aload_n 0, 1) := by decide +kernel
theorem dX8_many_71 : decode cX8_many 71 = .ok (.getfield 23, 3) := by decide +kernel
theorem dX8_many_74 : decode cX8_many 74 = .ok (.invokevirtual 148, 3) := by decide +kernel
theorem dX8_many_77 : decode cX8_many 77 = .ok (.ireturn, 1) := by decide +kernel
theorem dX8_many_78 : decode cX8_many 78 = .ok (.bipush (-2), 2) := by decide +kernel
theorem dX8_many_80 : decode cX8_many 80 = .ok (.ireturn, 1) := by decide +kernel
theorem dX8_sumOf_0 : decode cX8_sumOf 0 = .ok (.iconst 0, 1) := by decide +kernel
theorem dX8_sumOf_1 : decode cX8_sumOf 1 = .ok (.istore_n 2, 1) := by decide +kernel
theorem dX8_sumOf_2 : decode cX8_sumOf 2 = .ok (.iconst 0, 1) := by decide +kernel
theorem dX8_sumOf_3 : decode cX8_sumOf 3 = .ok (.istore_n 3, 1) := by decide +kernel
theorem dX8_sumOf_4 : decode cX8_sumOf 4 = .ok (.iload_n 3, 1) := by decide +kernel
theorem dX8_sumOf_5 : decode cX8_sumOf 5 = .ok (.aload_n 0, 1) := by decide +kernel
theorem dX8_sumOf_6 : decode cX8_sumOf 6 = .ok (.getfield 55, 3) := by decide +kernel
theorem dX8_sumOf_9 : decode cX8_sumOf 9 = .ok (.if_icmp .ge 18, 3) := by decide +kernel
theorem dX8_sumOf_12 : decode cX8_sumOf 12 = .ok (.iload_n 2, 1) := by decide +kernel
theorem dX8_sumOf_13 : decode cX8_sumOf 13 = .ok (.aload_n 1, 1) := by decide +kernel
theorem dX8_sumOf_14 : decode cX8_sumOf 14 = .ok (.iload_n 3, 1) := by decide +kernel
theorem dX8_sumOf_15 : decode cX8_sumOf 15 = .ok (.iaload, 1) := by decide +kernel
theorem dX8_sumOf_16 : decode cX8_sumOf 16 = .ok (.invokestatic 155, 3) := by decide +kernel
theorem dX8_sumOf_19 : decode cX8_sumOf 19 = .ok (.iadd, 1) := by decide +kernel
theorem dX8_sumOf_20 : decode cX8_sumOf 20 = .ok (.istore_n 2, 1) := by decide +kernel
theorem dX8_sumOf_21 : decode cX8_sumOf 21 = .ok (.iinc 3 1, 3) := by decide +kernel
theorem dX8_sumOf_24 : decode cX8_sumOf 24 = .ok (.goto (-20), 3) := by decide +kernel
theorem dX8_sumOf_27 : decode cX8_sumOf 27 = .ok (.iload_n 2, 1) := by decide +kernel
theorem dX8_sumOf_28 : decode cX8_sumOf 28 = .ok (.ireturn, 1) := by decide +kernel
theorem dX8_allPieces_0 : decode cX8_allPieces 0 = .ok (.iconst 0, 1) := by decide +kernel
theorem dX8_allPieces_1 : decode cX8_allPieces 1 = .ok (.istore_n 1, 1) := by decide +kernel
theorem dX8_allPieces_2 : decode cX8_allPieces 2 = .ok (.iconst 1, 1) := by decide +kernel
theorem dX8_allPieces_3 : decode cX8_allPieces 3 = .ok (.istore_n 2, 1) := by decide +kernel
theorem dX8_allPieces_4 : decode cX8_allPieces 4 = .ok (.iload_n 2, 1) := by decide +kernel
theorem dX8_allPieces_5 : decode cX8_allPieces 5 = .ok (.bipush 10, 2) := by decide +kernel
theorem dX8_allPieces_7 : decode cX8_allPieces 7 = .ok (.if_icmp .gt 17, 3) := by decide +kernel
theorem dX8_allPieces_10 : decode cX8_allPieces 10 = .ok (.iload_n 1, 1) := by decide +kernel
theorem dX8_allPieces_11 : decode cX8_allPieces 11 = .ok (.aload_n 0, 1) := by decide +kernel
theorem dX8_allPieces_12 : decode cX8_allPieces 12 = .ok (.iload_n 2, 1) := by decide +kernel
theorem dX8_allPieces_13 : decode cX8_allPieces 13 = .ok (.invokevirtual 145, 3) := by decide +kernel
theorem dX8_allPieces_16 : decode cX8_allPieces 16 = .ok (.iadd, 1) := by decide +kernel
theorem dX8_allPieces_17 : decode cX8_allPieces 17 = .ok (.istore_n 1, 1) := by decide +kernel
theorem dX8_allPieces_18 : decode cX8_allPieces 18 = .ok (.iinc 2 1, 3) := by decide +kernel
theorem dX8_allPieces_21 : decode cX8_allPieces 21 = .ok (.goto (-17), 3) := by decide +kernel
theorem dX8_allPieces_24 : decode cX8_allPieces 24 = .ok (.iload_n 1, 1) := by decide +kernel
theorem dX8_allPieces_25 : decode cX8_allPieces 25 = .ok (.ireturn, 1) := by decide +kernel
