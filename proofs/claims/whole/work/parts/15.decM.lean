/-! the instructions of the reference, by program -/
theorem d_Md_init_0 : decode c_Md_init 0 = .ok (.aload_n 0, 1) := by decide +kernel
theorem d_Md_init_1 : decode c_Md_init 1 = .ok (.invokespecial 1, 3) := by decide +kernel
theorem d_Md_init_4 : decode c_Md_init 4 = .ok (.aload_n 0, 1) := by decide +kernel
theorem d_Md_init_5 : decode c_Md_init 5 = .ok (.bipush 8, 2) := by decide +kernel
theorem d_Md_init_7 : decode c_Md_init 7 = .ok (.newarray .int, 2) := by decide +kernel
theorem d_Md_init_9 : decode c_Md_init 9 = .ok (.putfield 7, 3) := by decide +kernel
theorem d_Md_init_12 : decode c_Md_init 12 = .ok (.aload_n 0, 1) := by decide +kernel
theorem d_Md_init_13 : decode c_Md_init 13 = .ok (.bipush 8, 2) := by decide +kernel
theorem d_Md_init_15 : decode c_Md_init 15 = .ok (.newarray .boolean, 2) := by decide +kernel
theorem d_Md_init_17 : decode c_Md_init 17 = .ok (.putfield 13, 3) := by decide +kernel
theorem d_Md_init_20 : decode c_Md_init 20 = .ok (.aload_n 0, 1) := by decide +kernel
theorem d_Md_init_21 : decode c_Md_init 21 = .ok (.bipush 24, 2) := by decide +kernel
theorem d_Md_init_23 : decode c_Md_init 23 = .ok (.newarray .int, 2) := by decide +kernel
theorem d_Md_init_25 : decode c_Md_init 25 = .ok (.putfield 17, 3) := by decide +kernel
theorem d_Md_init_28 : decode c_Md_init 28 = .ok (.aload_n 0, 1) := by decide +kernel
theorem d_Md_init_29 : decode c_Md_init 29 = .ok (.bipush 24, 2) := by decide +kernel
theorem d_Md_init_31 : decode c_Md_init 31 = .ok (.newarray .int, 2) := by decide +kernel
theorem d_Md_init_33 : decode c_Md_init 33 = .ok (.putfield 20, 3) := by decide +kernel
theorem d_Md_init_36 : decode c_Md_init 36 = .ok (.aload_n 0, 1) := by decide +kernel
theorem d_Md_init_37 : decode c_Md_init 37 = .ok (.bipush 24, 2) := by decide +kernel
theorem d_Md_init_39 : decode c_Md_init 39 = .ok (.newarray .int, 2) := by decide +kernel
theorem d_Md_init_41 : decode c_Md_init 41 = .ok (.putfield 23, 3) := by decide +kernel
theorem d_Md_init_44 : decode c_Md_init 44 = .ok (.aload_n 0, 1) := by decide +kernel
theorem d_Md_init_45 : decode c_Md_init 45 = .ok (.bipush 24, 2) := by decide +kernel
theorem d_Md_init_47 : decode c_Md_init 47 = .ok (.newarray .int, 2) := by decide +kernel
theorem d_Md_init_49 : decode c_Md_init 49 = .ok (.putfield 26, 3) := by decide +kernel
theorem d_Md_init_52 : decode c_Md_init 52 = .ok (.aload_n 0, 1) := by decide +kernel
theorem d_Md_init_53 : decode c_Md_init 53 = .ok (.bipush 24, 2) := by decide +kernel
theorem d_Md_init_55 : decode c_Md_init 55 = .ok (.newarray .boolean, 2) := by decide +kernel
theorem d_Md_init_57 : decode c_Md_init 57 = .ok (.putfield 29, 3) := by decide +kernel
theorem d_Md_init_60 : decode c_Md_init 60 = .ok (.aload_n 0, 1) := by decide +kernel
theorem d_Md_init_61 : decode c_Md_init 61 = .ok (.bipush 12, 2) := by decide +kernel
theorem d_Md_init_63 : decode c_Md_init 63 = .ok (.newarray .int, 2) := by decide +kernel
theorem d_Md_init_65 : decode c_Md_init 65 = .ok (.putfield 32, 3) := by decide +kernel
theorem d_Md_init_68 : decode c_Md_init 68 = .ok (.aload_n 0, 1) := by decide +kernel
theorem d_Md_init_69 : decode c_Md_init 69 = .ok (.bipush 12, 2) := by decide +kernel
theorem d_Md_init_71 : decode c_Md_init 71 = .ok (.newarray .int, 2) := by decide +kernel
theorem d_Md_init_73 : decode c_Md_init 73 = .ok (.putfield 35, 3) := by decide +kernel
theorem d_Md_init_76 : decode c_Md_init 76 = .ok (.aload_n 0, 1) := by decide +kernel
theorem d_Md_init_77 : decode c_Md_init 77 = .ok (.bipush 12, 2) := by decide +kernel
theorem d_Md_init_79 : decode c_Md_init 79 = .ok (.newarray .int, 2) := by decide +kernel
theorem d_Md_init_81 : decode c_Md_init 81 = .ok (.putfield 38, 3) := by decide +kernel
theorem d_Md_init_84 : decode c_Md_init 84 = .ok (.aload_n 0, 1) := by decide +kernel
theorem d_Md_init_85 : decode c_Md_init 85 = .ok (.iconst 4, 1) := by decide +kernel
theorem d_Md_init_86 : decode c_Md_init 86 = .ok (.newarray .int, 2) := by decide +kernel
theorem d_Md_init_88 : decode c_Md_init 88 = .ok (.putfield 41, 3) := by decide +kernel
theorem d_Md_init_91 : decode c_Md_init 91 = .ok (.aload_n 0, 1) := by decide +kernel
theorem d_Md_init_92 : decode c_Md_init 92 = .ok (.iconst 4, 1) := by decide +kernel
theorem d_Md_init_93 : decode c_Md_init 93 = .ok (.newarray .int, 2) := by decide +kernel
theorem d_Md_init_95 : decode c_Md_init 95 = .ok (.putfield 44, 3) := by decide +kernel
theorem d_Md_init_98 : decode c_Md_init 98 = .ok (.aload_n 0, 1) := by decide +kernel
theorem d_Md_init_99 : decode c_Md_init 99 = .ok (.iconst 4, 1) := by decide +kernel
theorem d_Md_init_100 : decode c_Md_init 100 = .ok (.newarray .int, 2) := by decide +kernel
theorem d_Md_init_102 : decode c_Md_init 102 = .ok (.putfield 47, 3) := by decide +kernel
theorem d_Md_init_105 : decode c_Md_init 105 = .ok (.aload_n 0, 1) := by decide +kernel
theorem d_Md_init_106 : decode c_Md_init 106 = .ok (.bipush 12, 2) := by decide +kernel
theorem d_Md_init_108 : decode c_Md_init 108 = .ok (.newarray .int, 2) := by decide +kernel
theorem d_Md_init_110 : decode c_Md_init 110 = .ok (.putfield 50, 3) := by decide +kernel
theorem d_Md_init_113 : decode c_Md_init 113 = .ok (.aload_n 0, 1) := by decide +kernel
theorem d_Md_init_114 : decode c_Md_init 114 = .ok (.bipush 12, 2) := by decide +kernel
theorem d_Md_init_116 : decode c_Md_init 116 = .ok (.newarray .int, 2) := by decide +kernel
theorem d_Md_init_118 : decode c_Md_init 118 = .ok (.putfield 53, 3) := by decide +kernel
theorem d_Md_init_121 : decode c_Md_init 121 = .ok (.aload_n 0, 1) := by decide +kernel
theorem d_Md_init_122 : decode c_Md_init 122 = .ok (.bipush 12, 2) := by decide +kernel
theorem d_Md_init_124 : decode c_Md_init 124 = .ok (.newarray .int, 2) := by decide +kernel
theorem d_Md_init_126 : decode c_Md_init 126 = .ok (.putfield 56, 3) := by decide +kernel
theorem d_Md_init_129 : decode c_Md_init 129 = .ok (.aload_n 0, 1) := by decide +kernel
theorem d_Md_init_130 : decode c_Md_init 130 = .ok (.bipush 12, 2) := by decide +kernel
theorem d_Md_init_132 : decode c_Md_init 132 = .ok (.newarray .int, 2) := by decide +kernel
theorem d_Md_init_134 : decode c_Md_init 134 = .ok (.putfield 59, 3) := by decide +kernel
theorem d_Md_init_137 : decode c_Md_init 137 = .ok (.aload_n 0, 1) := by decide +kernel
theorem d_Md_init_138 : decode c_Md_init 138 = .ok (.bipush 12, 2) := by decide +kernel
theorem d_Md_init_140 : decode c_Md_init 140 = .ok (.newarray .boolean, 2) := by decide +kernel
theorem d_Md_init_142 : decode c_Md_init 142 = .ok (.putfield 62, 3) := by decide +kernel
theorem d_Md_init_145 : decode c_Md_init 145 = .ok (.aload_n 0, 1) := by decide +kernel
theorem d_Md_init_146 : decode c_Md_init 146 = .ok (.bipush 12, 2) := by decide +kernel
theorem d_Md_init_148 : decode c_Md_init 148 = .ok (.newarray .int, 2) := by decide +kernel
theorem d_Md_init_150 : decode c_Md_init 150 = .ok (.putfield 65, 3) := by decide +kernel
theorem d_Md_init_153 : decode c_Md_init 153 = .ok (.aload_n 0, 1) := by decide +kernel
theorem d_Md_init_154 : decode c_Md_init 154 = .ok (.bipush 8, 2) := by decide +kernel
theorem d_Md_init_156 : decode c_Md_init 156 = .ok (.newarray .int, 2) := by decide +kernel
theorem d_Md_init_158 : decode c_Md_init 158 = .ok (.putfield 68, 3) := by decide +kernel
theorem d_Md_init_161 : decode c_Md_init 161 = .ok (.aload_n 0, 1) := by decide +kernel
theorem d_Md_init_162 : decode c_Md_init 162 = .ok (.bipush 8, 2) := by decide +kernel
theorem d_Md_init_164 : decode c_Md_init 164 = .ok (.newarray .int, 2) := by decide +kernel
theorem d_Md_init_166 : decode c_Md_init 166 = .ok (.putfield 71, 3) := by decide +kernel
theorem d_Md_init_169 : decode c_Md_init 169 = .ok (.aload_n 0, 1) := by decide +kernel
theorem d_Md_init_170 : decode c_Md_init 170 = .ok (.sipush 6561, 3) := by decide +kernel
theorem d_Md_init_173 : decode c_Md_init 173 = .ok (.newarray .int, 2) := by decide +kernel
theorem d_Md_init_175 : decode c_Md_init 175 = .ok (.putfield 74, 3) := by decide +kernel
theorem d_Md_init_178 : decode c_Md_init 178 = .ok (.return_, 1) := by decide +kernel
theorem d_Md_in_0 : decode c_Md_in 0 = .ok (.iload_n 0, 1) := by decide +kernel
theorem d_Md_in_1 : decode c_Md_in 1 = .ok (.iload_n 1, 1) := by decide +kernel
theorem d_Md_in_2 : decode c_Md_in 2 = .ok (.ishr, 1) := by decide +kernel
theorem d_Md_in_3 : decode c_Md_in 3 = .ok (.iconst 1, 1) := by decide +kernel
theorem d_Md_in_4 : decode c_Md_in 4 = .ok (.iand, 1) := by decide +kernel
theorem d_Md_in_5 : decode c_Md_in 5 = .ok (.ifCond .eq 7, 3) := by decide +kernel
theorem d_Md_in_8 : decode c_Md_in 8 = .ok (.iconst 1, 1) := by decide +kernel
theorem d_Md_in_9 : decode c_Md_in 9 = .ok (.goto 4, 3) := by decide +kernel
theorem d_Md_in_12 : decode c_Md_in 12 = .ok (.iconst 0, 1) := by decide +kernel
theorem d_Md_in_13 : decode c_Md_in 13 = .ok (.ireturn, 1) := by decide +kernel
theorem d_Md_isStep_0 : decode c_Md_isStep 0 = .ok (.iload_n 1, 1) := by decide +kernel
theorem d_Md_isStep_1 : decode c_Md_isStep 1 = .ok (.ifCond .lt 15, 3) := by decide +kernel
theorem d_Md_isStep_4 : decode c_Md_isStep 4 = .ok (.iload_n 1, 1) := by decide +kernel
theorem d_Md_isStep_5 : decode c_Md_isStep 5 = .ok (.aload_n 0, 1) := by decide +kernel
theorem d_Md_isStep_6 : decode c_Md_isStep 6 = .ok (.getfield 77, 3) := by decide +kernel
theorem d_Md_isStep_9 : decode c_Md_isStep 9 = .ok (.if_icmp .ge 7, 3) := by decide +kernel
theorem d_Md_isStep_12 : decode c_Md_isStep 12 = .ok (.iconst 1, 1) := by decide +kernel
theorem d_Md_isStep_13 : decode c_Md_isStep 13 = .ok (.goto 4, 3) := by decide +kernel
theorem d_Md_isStep_16 : decode c_Md_isStep 16 = .ok (.iconst 0, 1) := by decide +kernel
theorem d_Md_isStep_17 : decode c_Md_isStep 17 = .ok (.ireturn, 1) := by decide +kernel
theorem d_Md_isExpression_0 : decode c_Md_isExpression 0 = .ok (.iload_n 1, 1) := by decide +kernel
theorem d_Md_isExpression_1 : decode c_Md_isExpression 1 = .ok (.ifCond .lt 15, 3) := by decide +kernel
theorem d_Md_isExpression_4 : decode c_Md_isExpression 4 = .ok (.iload_n 1, 1) := by decide +kernel
theorem d_Md_isExpression_5 : decode c_Md_isExpression 5 = .ok (.aload_n 0, 1) := by decide +kernel
theorem d_Md_isExpression_6 : decode c_Md_isExpression 6 = .ok (.getfield 81, 3) := by decide +kernel
theorem d_Md_isExpression_9 : decode c_Md_isExpression 9 = .ok (.if_icmp .ge 7, 3) := by decide +kernel
theorem d_Md_isExpression_12 : decode c_Md_isExpression 12 = .ok (.iconst 1, 1) := by decide +kernel
theorem d_Md_isExpression_13 : decode c_Md_isExpression 13 = .ok (.goto 4, 3) := by decide +kernel
theorem d_Md_isExpression_16 : decode c_Md_isExpression 16 = .ok (.iconst 0, 1) := by decide +kernel
theorem d_Md_isExpression_17 : decode c_Md_isExpression 17 = .ok (.ireturn, 1) := by decide +kernel
theorem d_Md_stepsOf_0 : decode c_Md_stepsOf 0 = .ok (.iconst 0, 1) := by decide +kernel
theorem d_Md_stepsOf_1 : decode c_Md_stepsOf 1 = .ok (.istore_n 2, 1) := by decide +kernel
theorem d_Md_stepsOf_2 : decode c_Md_stepsOf 2 = .ok (.iconst 0, 1) := by decide +kernel
theorem d_Md_stepsOf_3 : decode c_Md_stepsOf 3 = .ok (.istore_n 3, 1) := by decide +kernel
theorem d_Md_stepsOf_4 : decode c_Md_stepsOf 4 = .ok (.iload_n 3, 1) := by decide +kernel
theorem d_Md_stepsOf_5 : decode c_Md_stepsOf 5 = .ok (.aload_n 0, 1) := by decide +kernel
theorem d_Md_stepsOf_6 : decode c_Md_stepsOf 6 = .ok (.getfield 77, 3) := by decide +kernel
theorem d_Md_stepsOf_9 : decode c_Md_stepsOf 9 = .ok (.if_icmp .ge 29, 3) := by decide +kernel
theorem d_Md_stepsOf_12 : decode c_Md_stepsOf 12 = .ok (.aload_n 0, 1) := by decide +kernel
theorem d_Md_stepsOf_13 : decode c_Md_stepsOf 13 = .ok (.getfield 7, 3) := by decide +kernel
theorem d_Md_stepsOf_16 : decode c_Md_stepsOf 16 = .ok (.iload_n 3, 1) := by decide +kernel
theorem d_Md_stepsOf_17 : decode c_Md_stepsOf 17 = .ok (.iaload, 1) := by decide +kernel
theorem d_Md_stepsOf_18 : decode c_Md_stepsOf 18 = .ok (.iload_n 1, 1) := by decide +kernel
theorem d_Md_stepsOf_19 : decode c_Md_stepsOf 19 = .ok (.if_icmp .ne 11, 3) := by decide +kernel
theorem d_Md_stepsOf_22 : decode c_Md_stepsOf 22 = .ok (.iload_n 2, 1) := by decide +kernel
theorem d_Md_stepsOf_23 : decode c_Md_stepsOf 23 = .ok (.iconst 1, 1) := by decide +kernel
theorem d_Md_stepsOf_24 : decode c_Md_stepsOf 24 = .ok (.iload_n 3, 1) := by decide +kernel
theorem d_Md_stepsOf_25 : decode c_Md_stepsOf 25 = .ok (.ishl, 1) := by decide +kernel
theorem d_Md_stepsOf_26 : decode c_Md_stepsOf 26 = .ok (.ior, 1) := by decide +kernel
theorem d_Md_stepsOf_27 : decode c_Md_stepsOf 27 = .ok (.goto 4, 3) := by decide +kernel
theorem d_Md_stepsOf_30 : decode c_Md_stepsOf 30 = .ok (.iload_n 2, 1) := by decide +kernel
theorem d_Md_stepsOf_31 : decode c_Md_stepsOf 31 = .ok (.istore_n 2, 1) := by decide +kernel
theorem d_Md_stepsOf_32 : decode c_Md_stepsOf 32 = .ok (.iinc 3 1, 3) := by decide +kernel
theorem d_Md_stepsOf_35 : decode c_Md_stepsOf 35 = .ok (.goto (-31), 3) := by decide +kernel
theorem d_Md_stepsOf_38 : decode c_Md_stepsOf 38 = .ok (.iload_n 2, 1) := by decide +kernel
theorem d_Md_stepsOf_39 : decode c_Md_stepsOf 39 = .ok (.ireturn, 1) := by decide +kernel
theorem d_Md_step_0 : decode c_Md_step 0 = .ok (.aload_n 0, 1) := by decide +kernel
theorem d_Md_step_1 : decode c_Md_step 1 = .ok (.getfield 84, 3) := by decide +kernel
theorem d_Md_step_4 : decode c_Md_step 4 = .ok (.ifCond .ne 21, 3) := by decide +kernel
theorem d_Md_step_7 : decode c_Md_step 7 = .ok (.iload_n 1, 1) := by decide +kernel
theorem d_Md_step_8 : decode c_Md_step 8 = .ok (.ifCond .lt 17, 3) := by decide +kernel
theorem d_Md_step_11 : decode c_Md_step 11 = .ok (.iload_n 1, 1) := by decide +kernel
theorem d_Md_step_12 : decode c_Md_step 12 = .ok (.iconst 2, 1) := by decide +kernel
theorem d_Md_step_13 : decode c_Md_step 13 = .ok (.if_icmp .gt 12, 3) := by decide +kernel
theorem d_Md_step_16 : decode c_Md_step 16 = .ok (.aload_n 0, 1) := by decide +kernel
theorem d_Md_step_17 : decode c_Md_step 17 = .ok (.getfield 77, 3) := by decide +kernel
theorem d_Md_step_20 : decode c_Md_step 20 = .ok (.bipush 8, 2) := by decide +kernel
theorem d_Md_step_22 : decode c_Md_step 22 = .ok (.if_icmp .lt 6, 3) := by decide +kernel
theorem d_Md_step_25 : decode c_Md_step 25 = .ok (.bipush (-2), 2) := by decide +kernel
theorem d_Md_step_27 : decode c_Md_step 27 = .ok (.ireturn, 1) := by decide +kernel
theorem d_Md_step_28 : decode c_Md_step 28 = .ok (.aload_n 0, 1) := by decide +kernel
theorem d_Md_step_29 : decode c_Md_step 29 = .ok (.getfield 7, 3) := by decide +kernel
theorem d_Md_step_32 : decode c_Md_step 32 = .ok (.aload_n 0, 1) := by decide +kernel
theorem d_Md_step_33 : decode c_Md_step 33 = .ok (.getfield 77, 3) := by decide +kernel
theorem d_Md_step_36 : decode c_Md_step 36 = .ok (.iload_n 1, 1) := by decide +kernel
theorem d_Md_step_37 : decode c_Md_step 37 = .ok (.iastore, 1) := by decide +kernel
theorem d_Md_step_38 : decode c_Md_step 38 = .ok (.aload_n 0, 1) := by decide +kernel
theorem d_Md_step_39 : decode c_Md_step 39 = .ok (.getfield 13, 3) := by decide +kernel
theorem d_Md_step_42 : decode c_Md_step 42 = .ok (.aload_n 0, 1) := by decide +kernel
theorem d_Md_step_43 : decode c_Md_step 43 = .ok (.getfield 77, 3) := by decide +kernel
theorem d_Md_step_46 : decode c_Md_step 46 = .ok (.iload_n 2, 1) := by decide +kernel
theorem d_Md_step_47 : decode c_Md_step 47 = .ok (.bastore, 1) := by decide +kernel
theorem d_Md_step_48 : decode c_Md_step 48 = .ok (.aload_n 0, 1) := by decide +kernel
theorem d_Md_step_49 : decode c_Md_step 49 = .ok (.dup, 1) := by decide +kernel
theorem d_Md_step_50 : decode c_Md_step 50 = .ok (.getfield 77, 3) := by decide +kernel
theorem d_Md_step_53 : decode c_Md_step 53 = .ok (.iconst 1, 1) := by decide +kernel
theorem d_Md_step_54 : decode c_Md_step 54 = .ok (.iadd, 1) := by decide +kernel
theorem d_Md_step_55 : decode c_Md_step 55 = .ok (.putfield 77, 3) := by decide +kernel
theorem d_Md_step_58 : decode c_Md_step 58 = .ok (.aload_n 0, 1) := by decide +kernel
theorem d_Md_step_59 : decode c_Md_step 59 = .ok (.getfield 77, 3) := by decide +kernel
theorem d_Md_step_62 : decode c_Md_step 62 = .ok (.iconst 1, 1) := by decide +kernel
theorem d_Md_step_63 : decode c_Md_step 63 = .ok (.isub, 1) := by decide +kernel
theorem d_Md_step_64 : decode c_Md_step 64 = .ok (.ireturn, 1) := by decide +kernel
theorem d_Md_fits_0 : decode c_Md_fits 0 = .ok (.iload_n 1, 1) := by decide +kernel
theorem d_Md_fits_1 : decode c_Md_fits 1 = .ok (.iconst 2, 1) := by decide +kernel
theorem d_Md_fits_2 : decode c_Md_fits 2 = .ok (.if_icmp .gt 19, 3) := by decide +kernel
theorem d_Md_fits_5 : decode c_Md_fits 5 = .ok (.iload_n 2, 1) := by decide +kernel
theorem d_Md_fits_6 : decode c_Md_fits 6 = .ok (.ifCond .lt 13, 3) := by decide +kernel
theorem d_Md_fits_9 : decode c_Md_fits 9 = .ok (.iload_n 2, 1) := by decide +kernel
theorem d_Md_fits_10 : decode c_Md_fits 10 = .ok (.bipush 7, 2) := by decide +kernel
theorem d_Md_fits_12 : decode c_Md_fits 12 = .ok (.if_icmp .gt 7, 3) := by decide +kernel
theorem d_Md_fits_15 : decode c_Md_fits 15 = .ok (.iconst 1, 1) := by decide +kernel
theorem d_Md_fits_16 : decode c_Md_fits 16 = .ok (.goto 4, 3) := by decide +kernel
theorem d_Md_fits_19 : decode c_Md_fits 19 = .ok (.iconst 0, 1) := by decide +kernel
theorem d_Md_fits_20 : decode c_Md_fits 20 = .ok (.ireturn, 1) := by decide +kernel
theorem d_Md_fits_21 : decode c_Md_fits 21 = .ok (.iload_n 1, 1) := by decide +kernel
theorem d_Md_fits_22 : decode c_Md_fits 22 = .ok (.iconst 3, 1) := by decide +kernel
theorem d_Md_fits_23 : decode c_Md_fits 23 = .ok (.if_icmp .ne 9, 3) := by decide +kernel
theorem d_Md_fits_26 : decode c_Md_fits 26 = .ok (.aload_n 0, 1) := by decide +kernel
theorem d_Md_fits_27 : decode c_Md_fits 27 = .ok (.iload_n 2, 1) := by decide +kernel
theorem d_Md_fits_28 : decode c_Md_fits 28 = .ok (.invokevirtual 88, 3) := by decide +kernel
theorem d_Md_fits_31 : decode c_Md_fits 31 = .ok (.ireturn, 1) := by decide +kernel
theorem d_Md_fits_32 : decode c_Md_fits 32 = .ok (.iload_n 1, 1) := by decide +kernel
theorem d_Md_fits_33 : decode c_Md_fits 33 = .ok (.iconst 4, 1) := by decide +kernel
theorem d_Md_fits_34 : decode c_Md_fits 34 = .ok (.if_icmp .ne 27, 3) := by decide +kernel
theorem d_Md_fits_37 : decode c_Md_fits 37 = .ok (.aload_n 0, 1) := by decide +kernel
theorem d_Md_fits_38 : decode c_Md_fits 38 = .ok (.iload_n 2, 1) := by decide +kernel
theorem d_Md_fits_39 : decode c_Md_fits 39 = .ok (.invokevirtual 88, 3) := by decide +kernel
theorem d_Md_fits_42 : decode c_Md_fits 42 = .ok (.ifCond .eq 17, 3) := by decide +kernel
theorem d_Md_fits_45 : decode c_Md_fits 45 = .ok (.iload_n 3, 1) := by decide +kernel
theorem d_Md_fits_46 : decode c_Md_fits 46 = .ok (.ifCond .lt 13, 3) := by decide +kernel
theorem d_Md_fits_49 : decode c_Md_fits 49 = .ok (.iload_n 3, 1) := by decide +kernel
theorem d_Md_fits_50 : decode c_Md_fits 50 = .ok (.ldc 92, 2) := by decide +kernel
theorem d_Md_fits_52 : decode c_Md_fits 52 = .ok (.if_icmp .gt 7, 3) := by decide +kernel
theorem d_Md_fits_55 : decode c_Md_fits 55 = .ok (.iconst 1, 1) := by decide +kernel
theorem d_Md_fits_56 : decode c_Md_fits 56 = .ok (.goto 4, 3) := by decide +kernel
theorem d_Md_fits_59 : decode c_Md_fits 59 = .ok (.iconst 0, 1) := by decide +kernel
theorem d_Md_fits_60 : decode c_Md_fits 60 = .ok (.ireturn, 1) := by decide +kernel
theorem d_Md_fits_61 : decode c_Md_fits 61 = .ok (.aload_n 0, 1) := by decide +kernel
theorem d_Md_fits_62 : decode c_Md_fits 62 = .ok (.iload_n 2, 1) := by decide +kernel
theorem d_Md_fits_63 : decode c_Md_fits 63 = .ok (.invokevirtual 93, 3) := by decide +kernel
theorem d_Md_fits_66 : decode c_Md_fits 66 = .ok (.ifCond .eq 20, 3) := by decide +kernel
theorem d_Md_fits_69 : decode c_Md_fits 69 = .ok (.iload_n 1, 1) := by decide +kernel
theorem d_Md_fits_70 : decode c_Md_fits 70 = .ok (.iconst 5, 1) := by decide +kernel
theorem d_Md_fits_71 : decode c_Md_fits 71 = .ok (.if_icmp .eq 11, 3) := by decide +kernel
theorem d_Md_fits_74 : decode c_Md_fits 74 = .ok (.aload_n 0, 1) := by decide +kernel
theorem d_Md_fits_75 : decode c_Md_fits 75 = .ok (.iload_n 3, 1) := by decide +kernel
theorem d_Md_fits_76 : decode c_Md_fits 76 = .ok (.invokevirtual 93, 3) := by decide +kernel
theorem d_Md_fits_79 : decode c_Md_fits 79 = .ok (.ifCond .eq 7, 3) := by decide +kernel
theorem d_Md_fits_82 : decode c_Md_fits 82 = .ok (.iconst 1, 1) := by decide +kernel
theorem d_Md_fits_83 : decode c_Md_fits 83 = .ok (.goto 4, 3) := by decide +kernel
theorem d_Md_fits_86 : decode c_Md_fits 86 = .ok (.iconst 0, 1) := by decide +kernel
theorem d_Md_fits_87 : decode c_Md_fits 87 = .ok (.ireturn, 1) := by decide +kernel
theorem d_Md_expression_0 : decode c_Md_expression 0 = .ok (.aload_n 0, 1) := by decide +kernel
theorem d_Md_expression_1 : decode c_Md_expression 1 = .ok (.getfield 84, 3) := by decide +kernel
theorem d_Md_expression_4 : decode c_Md_expression 4 = .ok (.ifCond .ne 32, 3) := by decide +kernel
theorem d_Md_expression_7 : decode c_Md_expression 7 = .ok (.aload_n 0, 1) := by decide +kernel
theorem d_Md_expression_8 : decode c_Md_expression 8 = .ok (.getfield 81, 3) := by decide +kernel
theorem d_Md_expression_11 : decode c_Md_expression 11 = .ok (.bipush 24, 2) := by decide +kernel
theorem d_Md_expression_13 : decode c_Md_expression 13 = .ok (.if_icmp .ge 23, 3) := by decide +kernel
theorem d_Md_expression_16 : decode c_Md_expression 16 = .ok (.iload_n 1, 1) := by decide +kernel
theorem d_Md_expression_17 : decode c_Md_expression 17 = .ok (.ifCond .lt 19, 3) := by decide +kernel
theorem d_Md_expression_20 : decode c_Md_expression 20 = .ok (.iload_n 1, 1) := by decide +kernel
theorem d_Md_expression_21 : decode c_Md_expression 21 = .ok (.bipush 7, 2) := by decide +kernel
theorem d_Md_expression_23 : decode c_Md_expression 23 = .ok (.if_icmp .gt 13, 3) := by decide +kernel
theorem d_Md_expression_26 : decode c_Md_expression 26 = .ok (.aload_n 0, 1) := by decide +kernel
theorem d_Md_expression_27 : decode c_Md_expression 27 = .ok (.iload_n 1, 1) := by decide +kernel
theorem d_Md_expression_28 : decode c_Md_expression 28 = .ok (.iload_n 2, 1) := by decide +kernel
theorem d_Md_expression_29 : decode c_Md_expression 29 = .ok (.iload_n 3, 1) := by decide +kernel
theorem d_Md_expression_30 : decode c_Md_expression 30 = .ok (.invokevirtual 96, 3) := by decide +kernel
theorem d_Md_expression_33 : decode c_Md_expression 33 = .ok (.ifCond .ne 6, 3) := by decide +kernel
theorem d_Md_expression_36 : decode c_Md_expression 36 = .ok (.bipush (-2), 2) := by decide +kernel
theorem d_Md_expression_38 : decode c_Md_expression 38 = .ok (.ireturn, 1) := by decide +kernel
theorem d_Md_expression_39 : decode c_Md_expression 39 = .ok (.iconst 0, 1) := by decide +kernel
theorem d_Md_expression_40 : decode c_Md_expression 40 = .ok (.istore 4, 2) := by decide +kernel
theorem d_Md_expression_42 : decode c_Md_expression 42 = .ok (.iload_n 1, 1) := by decide +kernel
theorem d_Md_expression_43 : decode c_Md_expression 43 = .ok (.iconst 5, 1) := by decide +kernel
theorem d_Md_expression_44 : decode c_Md_expression 44 = .ok (.if_icmp .lt 13, 3) := by decide +kernel
theorem d_Md_expression_47 : decode c_Md_expression 47 = .ok (.aload_n 0, 1) := by decide +kernel
theorem d_Md_expression_48 : decode c_Md_expression 48 = .ok (.getfield 26, 3) := by decide +kernel
theorem d_Md_expression_51 : decode c_Md_expression 51 = .ok (.iload_n 2, 1) := by decide +kernel
theorem d_Md_expression_52 : decode c_Md_expression 52 = .ok (.iaload, 1) := by decide +kernel
theorem d_Md_expression_53 : decode c_Md_expression 53 = .ok (.iconst 1, 1) := by decide +kernel
theorem d_Md_expression_54 : decode c_Md_expression 54 = .ok (.iadd, 1) := by decide +kernel
theorem d_Md_expression_55 : decode c_Md_expression 55 = .ok (.istore 4, 2) := by decide +kernel
theorem d_Md_expression_57 : decode c_Md_expression 57 = .ok (.iload_n 1, 1) := by decide +kernel
theorem d_Md_expression_58 : decode c_Md_expression 58 = .ok (.bipush 6, 2) := by decide +kernel
theorem d_Md_expression_60 : decode c_Md_expression 60 = .ok (.if_icmp .lt 24, 3) := by decide +kernel
theorem d_Md_expression_63 : decode c_Md_expression 63 = .ok (.aload_n 0, 1) := by decide +kernel
theorem d_Md_expression_64 : decode c_Md_expression 64 = .ok (.getfield 26, 3) := by decide +kernel
theorem d_Md_expression_67 : decode c_Md_expression 67 = .ok (.iload_n 3, 1) := by decide +kernel
theorem d_Md_expression_68 : decode c_Md_expression 68 = .ok (.iaload, 1) := by decide +kernel
theorem d_Md_expression_69 : decode c_Md_expression 69 = .ok (.iload 4, 2) := by decide +kernel
theorem d_Md_expression_71 : decode c_Md_expression 71 = .ok (.if_icmp .lt 13, 3) := by decide +kernel
theorem d_Md_expression_74 : decode c_Md_expression 74 = .ok (.aload_n 0, 1) := by decide +kernel
theorem d_Md_expression_75 : decode c_Md_expression 75 = .ok (.getfield 26, 3) := by decide +kernel
theorem d_Md_expression_78 : decode c_Md_expression 78 = .ok (.iload_n 3, 1) := by decide +kernel
theorem d_Md_expression_79 : decode c_Md_expression 79 = .ok (.iaload, 1) := by decide +kernel
theorem d_Md_expression_80 : decode c_Md_expression 80 = .ok (.iconst 1, 1) := by decide +kernel
theorem d_Md_expression_81 : decode c_Md_expression 81 = .ok (.iadd, 1) := by decide +kernel
theorem d_Md_expression_82 : decode c_Md_expression 82 = .ok (.istore 4, 2) := by decide +kernel
theorem d_Md_expression_84 : decode c_Md_expression 84 = .ok (.iload 4, 2) := by decide +kernel
theorem d_Md_expression_86 : decode c_Md_expression 86 = .ok (.iconst 4, 1) := by decide +kernel
theorem d_Md_expression_87 : decode c_Md_expression 87 = .ok (.if_icmp .le 6, 3) := by decide +kernel
theorem d_Md_expression_90 : decode c_Md_expression 90 = .ok (.bipush (-2), 2) := by decide +kernel
theorem d_Md_expression_92 : decode c_Md_expression 92 = .ok (.ireturn, 1) := by decide +kernel
theorem d_Md_expression_93 : decode c_Md_expression 93 = .ok (.aload_n 0, 1) := by decide +kernel
theorem d_Md_expression_94 : decode c_Md_expression 94 = .ok (.getfield 17, 3) := by decide +kernel
theorem d_Md_expression_97 : decode c_Md_expression 97 = .ok (.aload_n 0, 1) := by decide +kernel
theorem d_Md_expression_98 : decode c_Md_expression 98 = .ok (.getfield 81, 3) := by decide +kernel
theorem d_Md_expression_101 : decode c_Md_expression 101 = .ok (.iload_n 1, 1) := by decide +kernel
theorem d_Md_expression_102 : decode c_Md_expression 102 = .ok (.iastore, 1) := by decide +kernel
theorem d_Md_expression_103 : decode c_Md_expression 103 = .ok (.aload_n 0, 1) := by decide +kernel
theorem d_Md_expression_104 : decode c_Md_expression 104 = .ok (.getfield 20, 3) := by decide +kernel
theorem d_Md_expression_107 : decode c_Md_expression 107 = .ok (.aload_n 0, 1) := by decide +kernel
theorem d_Md_expression_108 : decode c_Md_expression 108 = .ok (.getfield 81, 3) := by decide +kernel
theorem d_Md_expression_111 : decode c_Md_expression 111 = .ok (.iload_n 2, 1) := by decide +kernel
theorem d_Md_expression_112 : decode c_Md_expression 112 = .ok (.iastore, 1) := by decide +kernel
theorem d_Md_expression_113 : decode c_Md_expression 113 = .ok (.aload_n 0, 1) := by decide +kernel
theorem d_Md_expression_114 : decode c_Md_expression 114 = .ok (.getfield 23, 3) := by decide +kernel
theorem d_Md_expression_117 : decode c_Md_expression 117 = .ok (.aload_n 0, 1) := by decide +kernel
theorem d_Md_expression_118 : decode c_Md_expression 118 = .ok (.getfield 81, 3) := by decide +kernel
theorem d_Md_expression_121 : decode c_Md_expression 121 = .ok (.iload_n 3, 1) := by decide +kernel
theorem d_Md_expression_122 : decode c_Md_expression 122 = .ok (.iastore, 1) := by decide +kernel
theorem d_Md_expression_123 : decode c_Md_expression 123 = .ok (.aload_n 0, 1) := by decide +kernel
theorem d_Md_expression_124 : decode c_Md_expression 124 = .ok (.getfield 26, 3) := by decide +kernel
theorem d_Md_expression_127 : decode c_Md_expression 127 = .ok (.aload_n 0, 1) := by decide +kernel
theorem d_Md_expression_128 : decode c_Md_expression 128 = .ok (.getfield 81, 3) := by decide +kernel
theorem d_Md_expression_131 : decode c_Md_expression 131 = .ok (.iload 4, 2) := by decide +kernel
theorem d_Md_expression_133 : decode c_Md_expression 133 = .ok (.iastore, 1) := by decide +kernel
theorem d_Md_expression_134 : decode c_Md_expression 134 = .ok (.aload_n 0, 1) := by decide +kernel
theorem d_Md_expression_135 : decode c_Md_expression 135 = .ok (.dup, 1) := by decide +kernel
theorem d_Md_expression_136 : decode c_Md_expression 136 = .ok (.getfield 81, 3) := by decide +kernel
theorem d_Md_expression_139 : decode c_Md_expression 139 = .ok (.iconst 1, 1) := by decide +kernel
theorem d_Md_expression_140 : decode c_Md_expression 140 = .ok (.iadd, 1) := by decide +kernel
theorem d_Md_expression_141 : decode c_Md_expression 141 = .ok (.putfield 81, 3) := by decide +kernel
theorem d_Md_expression_144 : decode c_Md_expression 144 = .ok (.aload_n 0, 1) := by decide +kernel
theorem d_Md_expression_145 : decode c_Md_expression 145 = .ok (.getfield 81, 3) := by decide +kernel
theorem d_Md_expression_148 : decode c_Md_expression 148 = .ok (.iconst 1, 1) := by decide +kernel
theorem d_Md_expression_149 : decode c_Md_expression 149 = .ok (.isub, 1) := by decide +kernel
theorem d_Md_expression_150 : decode c_Md_expression 150 = .ok (.ireturn, 1) := by decide +kernel
theorem d_Md_transition_0 : decode c_Md_transition 0 = .ok (.aload_n 0, 1) := by decide +kernel
theorem d_Md_transition_1 : decode c_Md_transition 1 = .ok (.getfield 84, 3) := by decide +kernel
theorem d_Md_transition_4 : decode c_Md_transition 4 = .ok (.ifCond .ne 28, 3) := by decide +kernel
theorem d_Md_transition_7 : decode c_Md_transition 7 = .ok (.aload_n 0, 1) := by decide +kernel
theorem d_Md_transition_8 : decode c_Md_transition 8 = .ok (.getfield 100, 3) := by decide +kernel
theorem d_Md_transition_11 : decode c_Md_transition 11 = .ok (.bipush 12, 2) := by decide +kernel
theorem d_Md_transition_13 : decode c_Md_transition 13 = .ok (.if_icmp .ge 19, 3) := by decide +kernel
theorem d_Md_transition_16 : decode c_Md_transition 16 = .ok (.iload_n 1, 1) := by decide +kernel
theorem d_Md_transition_17 : decode c_Md_transition 17 = .ok (.ifCond .eq 15, 3) := by decide +kernel
theorem d_Md_transition_20 : decode c_Md_transition 20 = .ok (.iload_n 2, 1) := by decide +kernel
theorem d_Md_transition_21 : decode c_Md_transition 21 = .ok (.ifCond .eq 11, 3) := by decide +kernel
theorem d_Md_transition_24 : decode c_Md_transition 24 = .ok (.aload_n 0, 1) := by decide +kernel
theorem d_Md_transition_25 : decode c_Md_transition 25 = .ok (.iload_n 3, 1) := by decide +kernel
theorem d_Md_transition_26 : decode c_Md_transition 26 = .ok (.invokevirtual 93, 3) := by decide +kernel
theorem d_Md_transition_29 : decode c_Md_transition 29 = .ok (.ifCond .ne 6, 3) := by decide +kernel
theorem d_Md_transition_32 : decode c_Md_transition 32 = .ok (.bipush (-2), 2) := by decide +kernel
theorem d_Md_transition_34 : decode c_Md_transition 34 = .ok (.ireturn, 1) := by decide +kernel
theorem d_Md_transition_35 : decode c_Md_transition 35 = .ok (.iconst 0, 1) := by decide +kernel
theorem d_Md_transition_36 : decode c_Md_transition 36 = .ok (.istore 4, 2) := by decide +kernel
theorem d_Md_transition_38 : decode c_Md_transition 38 = .ok (.iconst 0, 1) := by decide +kernel
theorem d_Md_transition_39 : decode c_Md_transition 39 = .ok (.istore 5, 2) := by decide +kernel
theorem d_Md_transition_41 : decode c_Md_transition 41 = .ok (.iload 5, 2) := by decide +kernel
theorem d_Md_transition_43 : decode c_Md_transition 43 = .ok (.iconst 3, 1) := by decide +kernel
theorem d_Md_transition_44 : decode c_Md_transition 44 = .ok (.if_icmp .ge 36, 3) := by decide +kernel
theorem d_Md_transition_47 : decode c_Md_transition 47 = .ok (.iload 4, 2) := by decide +kernel
theorem d_Md_transition_49 : decode c_Md_transition 49 = .ok (.ifCond .ne 18, 3) := by decide +kernel
theorem d_Md_transition_52 : decode c_Md_transition 52 = .ok (.iload_n 1, 1) := by decide +kernel
theorem d_Md_transition_53 : decode c_Md_transition 53 = .ok (.iload_n 2, 1) := by decide +kernel
theorem d_Md_transition_54 : decode c_Md_transition 54 = .ok (.ior, 1) := by decide +kernel
theorem d_Md_transition_55 : decode c_Md_transition 55 = .ok (.aload_n 0, 1) := by decide +kernel
theorem d_Md_transition_56 : decode c_Md_transition 56 = .ok (.iload 5, 2) := by decide +kernel
theorem d_Md_transition_58 : decode c_Md_transition 58 = .ok (.invokevirtual 103, 3) := by decide +kernel
theorem d_Md_transition_61 : decode c_Md_transition 61 = .ok (.iconst (-1), 1) := by decide +kernel
theorem d_Md_transition_62 : decode c_Md_transition 62 = .ok (.ixor, 1) := by decide +kernel
theorem d_Md_transition_63 : decode c_Md_transition 63 = .ok (.iand, 1) := by decide +kernel
theorem d_Md_transition_64 : decode c_Md_transition 64 = .ok (.ifCond .ne 7, 3) := by decide +kernel
theorem d_Md_transition_67 : decode c_Md_transition 67 = .ok (.iconst 1, 1) := by decide +kernel
theorem d_Md_transition_68 : decode c_Md_transition 68 = .ok (.goto 4, 3) := by decide +kernel
theorem d_Md_transition_71 : decode c_Md_transition 71 = .ok (.iconst 0, 1) := by decide +kernel
theorem d_Md_transition_72 : decode c_Md_transition 72 = .ok (.istore 4, 2) := by decide +kernel
theorem d_Md_transition_74 : decode c_Md_transition 74 = .ok (.iinc 5 1, 3) := by decide +kernel
theorem d_Md_transition_77 : decode c_Md_transition 77 = .ok (.goto (-36), 3) := by decide +kernel
theorem d_Md_transition_80 : decode c_Md_transition 80 = .ok (.iload 4, 2) := by decide +kernel
theorem d_Md_transition_82 : decode c_Md_transition 82 = .ok (.ifCond .ne 6, 3) := by decide +kernel
theorem d_Md_transition_85 : decode c_Md_transition 85 = .ok (.bipush (-2), 2) := by decide +kernel
theorem d_Md_transition_87 : decode c_Md_transition 87 = .ok (.ireturn, 1) := by decide +kernel
theorem d_Md_transition_88 : decode c_Md_transition 88 = .ok (.aload_n 0, 1) := by decide +kernel
theorem d_Md_transition_89 : decode c_Md_transition 89 = .ok (.getfield 32, 3) := by decide +kernel
theorem d_Md_transition_92 : decode c_Md_transition 92 = .ok (.aload_n 0, 1) := by decide +kernel
theorem d_Md_transition_93 : decode c_Md_transition 93 = .ok (.getfield 100, 3) := by decide +kernel
theorem d_Md_transition_96 : decode c_Md_transition 96 = .ok (.iload_n 1, 1) := by decide +kernel
theorem d_Md_transition_97 : decode c_Md_transition 97 = .ok (.iastore, 1) := by decide +kernel
theorem d_Md_transition_98 : decode c_Md_transition 98 = .ok (.aload_n 0, 1) := by decide +kernel
theorem d_Md_transition_99 : decode c_Md_transition 99 = .ok (.getfield 35, 3) := by decide +kernel
theorem d_Md_transition_102 : decode c_Md_transition 102 = .ok (.aload_n 0, 1) := by decide +kernel
theorem d_Md_transition_103 : decode c_Md_transition 103 = .ok (.getfield 100, 3) := by decide +kernel
theorem d_Md_transition_106 : decode c_Md_transition 106 = .ok (.iload_n 2, 1) := by decide +kernel
theorem d_Md_transition_107 : decode c_Md_transition 107 = .ok (.iastore, 1) := by decide +kernel
theorem d_Md_transition_108 : decode c_Md_transition 108 = .ok (.aload_n 0, 1) := by decide +kernel
theorem d_Md_transition_109 : decode c_Md_transition 109 = .ok (.getfield 38, 3) := by decide +kernel
theorem d_Md_transition_112 : decode c_Md_transition 112 = .ok (.aload_n 0, 1) := by decide +kernel
theorem d_Md_transition_113 : decode c_Md_transition 113 = .ok (.getfield 100, 3) := by decide +kernel
theorem d_Md_transition_116 : decode c_Md_transition 116 = .ok (.iload_n 3, 1) := by decide +kernel
theorem d_Md_transition_117 : decode c_Md_transition 117 = .ok (.iastore, 1) := by decide +kernel
theorem d_Md_transition_118 : decode c_Md_transition 118 = .ok (.aload_n 0, 1) := by decide +kernel
theorem d_Md_transition_119 : decode c_Md_transition 119 = .ok (.dup, 1) := by decide +kernel
theorem d_Md_transition_120 : decode c_Md_transition 120 = .ok (.getfield 100, 3) := by decide +kernel
theorem d_Md_transition_123 : decode c_Md_transition 123 = .ok (.iconst 1, 1) := by decide +kernel
theorem d_Md_transition_124 : decode c_Md_transition 124 = .ok (.iadd, 1) := by decide +kernel
theorem d_Md_transition_125 : decode c_Md_transition 125 = .ok (.putfield 100, 3) := by decide +kernel
theorem d_Md_transition_128 : decode c_Md_transition 128 = .ok (.aload_n 0, 1) := by decide +kernel
theorem d_Md_transition_129 : decode c_Md_transition 129 = .ok (.getfield 100, 3) := by decide +kernel
theorem d_Md_transition_132 : decode c_Md_transition 132 = .ok (.iconst 1, 1) := by decide +kernel
theorem d_Md_transition_133 : decode c_Md_transition 133 = .ok (.isub, 1) := by decide +kernel
theorem d_Md_transition_134 : decode c_Md_transition 134 = .ok (.ireturn, 1) := by decide +kernel
theorem d_Md_order_0 : decode c_Md_order 0 = .ok (.aload_n 0, 1) := by decide +kernel
theorem d_Md_order_1 : decode c_Md_order 1 = .ok (.getfield 84, 3) := by decide +kernel
theorem d_Md_order_4 : decode c_Md_order 4 = .ok (.ifCond .ne 34, 3) := by decide +kernel
theorem d_Md_order_7 : decode c_Md_order 7 = .ok (.aload_n 0, 1) := by decide +kernel
theorem d_Md_order_8 : decode c_Md_order 8 = .ok (.getfield 107, 3) := by decide +kernel
theorem d_Md_order_11 : decode c_Md_order 11 = .ok (.iconst 4, 1) := by decide +kernel
theorem d_Md_order_12 : decode c_Md_order 12 = .ok (.if_icmp .ge 26, 3) := by decide +kernel
theorem d_Md_order_15 : decode c_Md_order 15 = .ok (.aload_n 0, 1) := by decide +kernel
theorem d_Md_order_16 : decode c_Md_order 16 = .ok (.iload_n 1, 1) := by decide +kernel
theorem d_Md_order_17 : decode c_Md_order 17 = .ok (.invokevirtual 88, 3) := by decide +kernel
theorem d_Md_order_20 : decode c_Md_order 20 = .ok (.ifCond .eq 18, 3) := by decide +kernel
theorem d_Md_order_23 : decode c_Md_order 23 = .ok (.iload_n 2, 1) := by decide +kernel
theorem d_Md_order_24 : decode c_Md_order 24 = .ok (.iconst 2, 1) := by decide +kernel
theorem d_Md_order_25 : decode c_Md_order 25 = .ok (.if_icmp .gt 13, 3) := by decide +kernel
theorem d_Md_order_28 : decode c_Md_order 28 = .ok (.iload_n 2, 1) := by decide +kernel
theorem d_Md_order_29 : decode c_Md_order 29 = .ok (.aload_n 0, 1) := by decide +kernel
theorem d_Md_order_30 : decode c_Md_order 30 = .ok (.getfield 7, 3) := by decide +kernel
theorem d_Md_order_33 : decode c_Md_order 33 = .ok (.iload_n 1, 1) := by decide +kernel
theorem d_Md_order_34 : decode c_Md_order 34 = .ok (.iaload, 1) := by decide +kernel
theorem d_Md_order_35 : decode c_Md_order 35 = .ok (.if_icmp .gt 6, 3) := by decide +kernel
theorem d_Md_order_38 : decode c_Md_order 38 = .ok (.bipush (-2), 2) := by decide +kernel
theorem d_Md_order_40 : decode c_Md_order 40 = .ok (.ireturn, 1) := by decide +kernel
theorem d_Md_order_41 : decode c_Md_order 41 = .ok (.iload_n 3, 1) := by decide +kernel
theorem d_Md_order_42 : decode c_Md_order 42 = .ok (.iconst (-1), 1) := by decide +kernel
theorem d_Md_order_43 : decode c_Md_order 43 = .ok (.if_icmp .eq 18, 3) := by decide +kernel
theorem d_Md_order_46 : decode c_Md_order 46 = .ok (.iload_n 3, 1) := by decide +kernel
theorem d_Md_order_47 : decode c_Md_order 47 = .ok (.aload_n 0, 1) := by decide +kernel
theorem d_Md_order_48 : decode c_Md_order 48 = .ok (.iload_n 2, 1) := by decide +kernel
theorem d_Md_order_49 : decode c_Md_order 49 = .ok (.invokevirtual 103, 3) := by decide +kernel
theorem d_Md_order_52 : decode c_Md_order 52 = .ok (.iconst (-1), 1) := by decide +kernel
theorem d_Md_order_53 : decode c_Md_order 53 = .ok (.ixor, 1) := by decide +kernel
theorem d_Md_order_54 : decode c_Md_order 54 = .ok (.iand, 1) := by decide +kernel
theorem d_Md_order_55 : decode c_Md_order 55 = .ok (.ifCond .eq 6, 3) := by decide +kernel
theorem d_Md_order_58 : decode c_Md_order 58 = .ok (.bipush (-2), 2) := by decide +kernel
theorem d_Md_order_60 : decode c_Md_order 60 = .ok (.ireturn, 1) := by decide +kernel
theorem d_Md_order_61 : decode c_Md_order 61 = .ok (.aload_n 0, 1) := by decide +kernel
theorem d_Md_order_62 : decode c_Md_order 62 = .ok (.getfield 41, 3) := by decide +kernel
theorem d_Md_order_65 : decode c_Md_order 65 = .ok (.aload_n 0, 1) := by decide +kernel
theorem d_Md_order_66 : decode c_Md_order 66 = .ok (.getfield 107, 3) := by decide +kernel
theorem d_Md_order_69 : decode c_Md_order 69 = .ok (.iload_n 1, 1) := by decide +kernel
theorem d_Md_order_70 : decode c_Md_order 70 = .ok (.iastore, 1) := by decide +kernel
theorem d_Md_order_71 : decode c_Md_order 71 = .ok (.aload_n 0, 1) := by decide +kernel
theorem d_Md_order_72 : decode c_Md_order 72 = .ok (.getfield 44, 3) := by decide +kernel
theorem d_Md_order_75 : decode c_Md_order 75 = .ok (.aload_n 0, 1) := by decide +kernel
theorem d_Md_order_76 : decode c_Md_order 76 = .ok (.getfield 107, 3) := by decide +kernel
theorem d_Md_order_79 : decode c_Md_order 79 = .ok (.iload_n 2, 1) := by decide +kernel
theorem d_Md_order_80 : decode c_Md_order 80 = .ok (.iastore, 1) := by decide +kernel
theorem d_Md_order_81 : decode c_Md_order 81 = .ok (.aload_n 0, 1) := by decide +kernel
theorem d_Md_order_82 : decode c_Md_order 82 = .ok (.getfield 47, 3) := by decide +kernel
theorem d_Md_order_85 : decode c_Md_order 85 = .ok (.aload_n 0, 1) := by decide +kernel
theorem d_Md_order_86 : decode c_Md_order 86 = .ok (.getfield 107, 3) := by decide +kernel
theorem d_Md_order_89 : decode c_Md_order 89 = .ok (.iload_n 3, 1) := by decide +kernel
theorem d_Md_order_90 : decode c_Md_order 90 = .ok (.iastore, 1) := by decide +kernel
theorem d_Md_order_91 : decode c_Md_order 91 = .ok (.aload_n 0, 1) := by decide +kernel
theorem d_Md_order_92 : decode c_Md_order 92 = .ok (.dup, 1) := by decide +kernel
theorem d_Md_order_93 : decode c_Md_order 93 = .ok (.getfield 107, 3) := by decide +kernel
theorem d_Md_order_96 : decode c_Md_order 96 = .ok (.iconst 1, 1) := by decide +kernel
theorem d_Md_order_97 : decode c_Md_order 97 = .ok (.iadd, 1) := by decide +kernel
theorem d_Md_order_98 : decode c_Md_order 98 = .ok (.putfield 107, 3) := by decide +kernel
theorem d_Md_order_101 : decode c_Md_order 101 = .ok (.aload_n 0, 1) := by decide +kernel
theorem d_Md_order_102 : decode c_Md_order 102 = .ok (.getfield 107, 3) := by decide +kernel
theorem d_Md_order_105 : decode c_Md_order 105 = .ok (.iconst 1, 1) := by decide +kernel
theorem d_Md_order_106 : decode c_Md_order 106 = .ok (.isub, 1) := by decide +kernel
theorem d_Md_order_107 : decode c_Md_order 107 = .ok (.ireturn, 1) := by decide +kernel
theorem d_Md_action_0 : decode c_Md_action 0 = .ok (.aload_n 0, 1) := by decide +kernel
theorem d_Md_action_1 : decode c_Md_action 1 = .ok (.getfield 84, 3) := by decide +kernel
theorem d_Md_action_4 : decode c_Md_action 4 = .ok (.ifCond .ne 52, 3) := by decide +kernel
theorem d_Md_action_7 : decode c_Md_action 7 = .ok (.aload_n 0, 1) := by decide +kernel
theorem d_Md_action_8 : decode c_Md_action 8 = .ok (.getfield 110, 3) := by decide +kernel
theorem d_Md_action_11 : decode c_Md_action 11 = .ok (.bipush 12, 2) := by decide +kernel
theorem d_Md_action_13 : decode c_Md_action 13 = .ok (.if_icmp .ge 43, 3) := by decide +kernel
theorem d_Md_action_16 : decode c_Md_action 16 = .ok (.aload_n 0, 1) := by decide +kernel
theorem d_Md_action_17 : decode c_Md_action 17 = .ok (.iload_n 1, 1) := by decide +kernel
theorem d_Md_action_18 : decode c_Md_action 18 = .ok (.invokevirtual 88, 3) := by decide +kernel
theorem d_Md_action_21 : decode c_Md_action 21 = .ok (.ifCond .eq 35, 3) := by decide +kernel
theorem d_Md_action_24 : decode c_Md_action 24 = .ok (.iload_n 2, 1) := by decide +kernel
theorem d_Md_action_25 : decode c_Md_action 25 = .ok (.ifCond .lt 31, 3) := by decide +kernel
theorem d_Md_action_28 : decode c_Md_action 28 = .ok (.iload_n 2, 1) := by decide +kernel
theorem d_Md_action_29 : decode c_Md_action 29 = .ok (.bipush 9, 2) := by decide +kernel
theorem d_Md_action_31 : decode c_Md_action 31 = .ok (.if_icmp .gt 25, 3) := by decide +kernel
theorem d_Md_action_34 : decode c_Md_action 34 = .ok (.iload_n 3, 1) := by decide +kernel
theorem d_Md_action_35 : decode c_Md_action 35 = .ok (.ifCond .lt 21, 3) := by decide +kernel
theorem d_Md_action_38 : decode c_Md_action 38 = .ok (.iload_n 3, 1) := by decide +kernel
theorem d_Md_action_39 : decode c_Md_action 39 = .ok (.bipush 7, 2) := by decide +kernel
theorem d_Md_action_41 : decode c_Md_action 41 = .ok (.if_icmp .gt 15, 3) := by decide +kernel
theorem d_Md_action_44 : decode c_Md_action 44 = .ok (.iload 4, 2) := by decide +kernel
theorem d_Md_action_46 : decode c_Md_action 46 = .ok (.ifCond .lt 10, 3) := by decide +kernel
theorem d_Md_action_49 : decode c_Md_action 49 = .ok (.iload 4, 2) := by decide +kernel
theorem d_Md_action_51 : decode c_Md_action 51 = .ok (.ldc 92, 2) := by decide +kernel
theorem d_Md_action_53 : decode c_Md_action 53 = .ok (.if_icmp .le 6, 3) := by decide +kernel
theorem d_Md_action_56 : decode c_Md_action 56 = .ok (.bipush (-2), 2) := by decide +kernel
theorem d_Md_action_58 : decode c_Md_action 58 = .ok (.ireturn, 1) := by decide +kernel
theorem d_Md_action_59 : decode c_Md_action 59 = .ok (.aload_n 0, 1) := by decide +kernel
theorem d_Md_action_60 : decode c_Md_action 60 = .ok (.getfield 50, 3) := by decide +kernel
theorem d_Md_action_63 : decode c_Md_action 63 = .ok (.aload_n 0, 1) := by decide +kernel
theorem d_Md_action_64 : decode c_Md_action 64 = .ok (.getfield 110, 3) := by decide +kernel
theorem d_Md_action_67 : decode c_Md_action 67 = .ok (.iload_n 1, 1) := by decide +kernel
theorem d_Md_action_68 : decode c_Md_action 68 = .ok (.iastore, 1) := by decide +kernel
theorem d_Md_action_69 : decode c_Md_action 69 = .ok (.aload_n 0, 1) := by decide +kernel
theorem d_Md_action_70 : decode c_Md_action 70 = .ok (.getfield 53, 3) := by decide +kernel
theorem d_Md_action_73 : decode c_Md_action 73 = .ok (.aload_n 0, 1) := by decide +kernel
theorem d_Md_action_74 : decode c_Md_action 74 = .ok (.getfield 110, 3) := by decide +kernel
theorem d_Md_action_77 : decode c_Md_action 77 = .ok (.iload_n 2, 1) := by decide +kernel
theorem d_Md_action_78 : decode c_Md_action 78 = .ok (.iastore, 1) := by decide +kernel
theorem d_Md_action_79 : decode c_Md_action 79 = .ok (.aload_n 0, 1) := by decide +kernel
theorem d_Md_action_80 : decode c_Md_action 80 = .ok (.getfield 56, 3) := by decide +kernel
theorem d_Md_action_83 : decode c_Md_action 83 = .ok (.aload_n 0, 1) := by decide +kernel
theorem d_Md_action_84 : decode c_Md_action 84 = .ok (.getfield 110, 3) := by decide +kernel
theorem d_Md_action_87 : decode c_Md_action 87 = .ok (.iload_n 3, 1) := by decide +kernel
theorem d_Md_action_88 : decode c_Md_action 88 = .ok (.iastore, 1) := by decide +kernel
theorem d_Md_action_89 : decode c_Md_action 89 = .ok (.aload_n 0, 1) := by decide +kernel
theorem d_Md_action_90 : decode c_Md_action 90 = .ok (.getfield 59, 3) := by decide +kernel
theorem d_Md_action_93 : decode c_Md_action 93 = .ok (.aload_n 0, 1) := by decide +kernel
theorem d_Md_action_94 : decode c_Md_action 94 = .ok (.getfield 110, 3) := by decide +kernel
theorem d_Md_action_97 : decode c_Md_action 97 = .ok (.iload 4, 2) := by decide +kernel
theorem d_Md_action_99 : decode c_Md_action 99 = .ok (.iastore, 1) := by decide +kernel
theorem d_Md_action_100 : decode c_Md_action 100 = .ok (.aload_n 0, 1) := by decide +kernel
theorem d_Md_action_101 : decode c_Md_action 101 = .ok (.dup, 1) := by decide +kernel
theorem d_Md_action_102 : decode c_Md_action 102 = .ok (.getfield 110, 3) := by decide +kernel
theorem d_Md_action_105 : decode c_Md_action 105 = .ok (.iconst 1, 1) := by decide +kernel
theorem d_Md_action_106 : decode c_Md_action 106 = .ok (.iadd, 1) := by decide +kernel
theorem d_Md_action_107 : decode c_Md_action 107 = .ok (.putfield 110, 3) := by decide +kernel
theorem d_Md_action_110 : decode c_Md_action 110 = .ok (.aload_n 0, 1) := by decide +kernel
theorem d_Md_action_111 : decode c_Md_action 111 = .ok (.getfield 110, 3) := by decide +kernel
theorem d_Md_action_114 : decode c_Md_action 114 = .ok (.iconst 1, 1) := by decide +kernel
theorem d_Md_action_115 : decode c_Md_action 115 = .ok (.isub, 1) := by decide +kernel
theorem d_Md_action_116 : decode c_Md_action 116 = .ok (.ireturn, 1) := by decide +kernel
theorem d_Md_unreached_0 : decode c_Md_unreached 0 = .ok (.aload_n 0, 1) := by decide +kernel
theorem d_Md_unreached_1 : decode c_Md_unreached 1 = .ok (.invokevirtual 113, 3) := by decide +kernel
theorem d_Md_unreached_4 : decode c_Md_unreached 4 = .ok (.istore_n 1, 1) := by decide +kernel
theorem d_Md_unreached_5 : decode c_Md_unreached 5 = .ok (.iconst 0, 1) := by decide +kernel
theorem d_Md_unreached_6 : decode c_Md_unreached 6 = .ok (.istore_n 2, 1) := by decide +kernel
theorem d_Md_unreached_7 : decode c_Md_unreached 7 = .ok (.iload_n 2, 1) := by decide +kernel
theorem d_Md_unreached_8 : decode c_Md_unreached 8 = .ok (.bipush 9, 2) := by decide +kernel
theorem d_Md_unreached_10 : decode c_Md_unreached 10 = .ok (.if_icmp .ge 103, 3) := by decide +kernel
theorem d_Md_unreached_13 : decode c_Md_unreached 13 = .ok (.iconst 0, 1) := by decide +kernel
theorem d_Md_unreached_14 : decode c_Md_unreached 14 = .ok (.istore_n 3, 1) := by decide +kernel
theorem d_Md_unreached_15 : decode c_Md_unreached 15 = .ok (.iload_n 3, 1) := by decide +kernel
theorem d_Md_unreached_16 : decode c_Md_unreached 16 = .ok (.aload_n 0, 1) := by decide +kernel
theorem d_Md_unreached_17 : decode c_Md_unreached 17 = .ok (.getfield 100, 3) := by decide +kernel
theorem d_Md_unreached_20 : decode c_Md_unreached 20 = .ok (.if_icmp .ge 35, 3) := by decide +kernel
theorem d_Md_unreached_23 : decode c_Md_unreached 23 = .ok (.aload_n 0, 1) := by decide +kernel
theorem d_Md_unreached_24 : decode c_Md_unreached 24 = .ok (.getfield 32, 3) := by decide +kernel
theorem d_Md_unreached_27 : decode c_Md_unreached 27 = .ok (.iload_n 3, 1) := by decide +kernel
theorem d_Md_unreached_28 : decode c_Md_unreached 28 = .ok (.iaload, 1) := by decide +kernel
theorem d_Md_unreached_29 : decode c_Md_unreached 29 = .ok (.iload_n 1, 1) := by decide +kernel
theorem d_Md_unreached_30 : decode c_Md_unreached 30 = .ok (.iconst (-1), 1) := by decide +kernel
theorem d_Md_unreached_31 : decode c_Md_unreached 31 = .ok (.ixor, 1) := by decide +kernel
theorem d_Md_unreached_32 : decode c_Md_unreached 32 = .ok (.iand, 1) := by decide +kernel
theorem d_Md_unreached_33 : decode c_Md_unreached 33 = .ok (.ifCond .ne 14, 3) := by decide +kernel
theorem d_Md_unreached_36 : decode c_Md_unreached 36 = .ok (.iload_n 1, 1) := by decide +kernel
theorem d_Md_unreached_37 : decode c_Md_unreached 37 = .ok (.aload_n 0, 1) := by decide +kernel
theorem d_Md_unreached_38 : decode c_Md_unreached 38 = .ok (.getfield 35, 3) := by decide +kernel
theorem d_Md_unreached_41 : decode c_Md_unreached 41 = .ok (.iload_n 3, 1) := by decide +kernel
theorem d_Md_unreached_42 : decode c_Md_unreached 42 = .ok (.iaload, 1) := by decide +kernel
theorem d_Md_unreached_43 : decode c_Md_unreached 43 = .ok (.ior, 1) := by decide +kernel
theorem d_Md_unreached_44 : decode c_Md_unreached 44 = .ok (.goto 4, 3) := by decide +kernel
theorem d_Md_unreached_47 : decode c_Md_unreached 47 = .ok (.iload_n 1, 1) := by decide +kernel
theorem d_Md_unreached_48 : decode c_Md_unreached 48 = .ok (.istore_n 1, 1) := by decide +kernel
theorem d_Md_unreached_49 : decode c_Md_unreached 49 = .ok (.iinc 3 1, 3) := by decide +kernel
theorem d_Md_unreached_52 : decode c_Md_unreached 52 = .ok (.goto (-37), 3) := by decide +kernel
theorem d_Md_unreached_55 : decode c_Md_unreached 55 = .ok (.iconst 0, 1) := by decide +kernel
theorem d_Md_unreached_56 : decode c_Md_unreached 56 = .ok (.istore_n 3, 1) := by decide +kernel
theorem d_Md_unreached_57 : decode c_Md_unreached 57 = .ok (.iload_n 3, 1) := by decide +kernel
theorem d_Md_unreached_58 : decode c_Md_unreached 58 = .ok (.aload_n 0, 1) := by decide +kernel
theorem d_Md_unreached_59 : decode c_Md_unreached 59 = .ok (.getfield 107, 3) := by decide +kernel
theorem d_Md_unreached_62 : decode c_Md_unreached 62 = .ok (.if_icmp .ge 45, 3) := by decide +kernel
theorem d_Md_unreached_65 : decode c_Md_unreached 65 = .ok (.iload_n 1, 1) := by decide +kernel
theorem d_Md_unreached_66 : decode c_Md_unreached 66 = .ok (.aload_n 0, 1) := by decide +kernel
theorem d_Md_unreached_67 : decode c_Md_unreached 67 = .ok (.getfield 41, 3) := by decide +kernel
theorem d_Md_unreached_70 : decode c_Md_unreached 70 = .ok (.iload_n 3, 1) := by decide +kernel
theorem d_Md_unreached_71 : decode c_Md_unreached 71 = .ok (.iaload, 1) := by decide +kernel
theorem d_Md_unreached_72 : decode c_Md_unreached 72 = .ok (.invokestatic 117, 3) := by decide +kernel
theorem d_Md_unreached_75 : decode c_Md_unreached 75 = .ok (.ifCond .eq 24, 3) := by decide +kernel
theorem d_Md_unreached_78 : decode c_Md_unreached 78 = .ok (.aload_n 0, 1) := by decide +kernel
theorem d_Md_unreached_79 : decode c_Md_unreached 79 = .ok (.getfield 47, 3) := by decide +kernel
theorem d_Md_unreached_82 : decode c_Md_unreached 82 = .ok (.iload_n 3, 1) := by decide +kernel
theorem d_Md_unreached_83 : decode c_Md_unreached 83 = .ok (.iaload, 1) := by decide +kernel
theorem d_Md_unreached_84 : decode c_Md_unreached 84 = .ok (.iconst (-1), 1) := by decide +kernel
theorem d_Md_unreached_85 : decode c_Md_unreached 85 = .ok (.if_icmp .eq 14, 3) := by decide +kernel
theorem d_Md_unreached_88 : decode c_Md_unreached 88 = .ok (.iload_n 1, 1) := by decide +kernel
theorem d_Md_unreached_89 : decode c_Md_unreached 89 = .ok (.aload_n 0, 1) := by decide +kernel
theorem d_Md_unreached_90 : decode c_Md_unreached 90 = .ok (.getfield 47, 3) := by decide +kernel
theorem d_Md_unreached_93 : decode c_Md_unreached 93 = .ok (.iload_n 3, 1) := by decide +kernel
theorem d_Md_unreached_94 : decode c_Md_unreached 94 = .ok (.iaload, 1) := by decide +kernel
theorem d_Md_unreached_95 : decode c_Md_unreached 95 = .ok (.ior, 1) := by decide +kernel
theorem d_Md_unreached_96 : decode c_Md_unreached 96 = .ok (.goto 4, 3) := by decide +kernel
theorem d_Md_unreached_99 : decode c_Md_unreached 99 = .ok (.iload_n 1, 1) := by decide +kernel
theorem d_Md_unreached_100 : decode c_Md_unreached 100 = .ok (.istore_n 1, 1) := by decide +kernel
theorem d_Md_unreached_101 : decode c_Md_unreached 101 = .ok (.iinc 3 1, 3) := by decide +kernel
theorem d_Md_unreached_104 : decode c_Md_unreached 104 = .ok (.goto (-47), 3) := by decide +kernel
theorem d_Md_unreached_107 : decode c_Md_unreached 107 = .ok (.iinc 2 1, 3) := by decide +kernel
theorem d_Md_unreached_110 : decode c_Md_unreached 110 = .ok (.goto (-103), 3) := by decide +kernel
theorem d_Md_unreached_113 : decode c_Md_unreached 113 = .ok (.iconst 1, 1) := by decide +kernel
theorem d_Md_unreached_114 : decode c_Md_unreached 114 = .ok (.aload_n 0, 1) := by decide +kernel
theorem d_Md_unreached_115 : decode c_Md_unreached 115 = .ok (.getfield 77, 3) := by decide +kernel
theorem d_Md_unreached_118 : decode c_Md_unreached 118 = .ok (.ishl, 1) := by decide +kernel
theorem d_Md_unreached_119 : decode c_Md_unreached 119 = .ok (.iconst 1, 1) := by decide +kernel
theorem d_Md_unreached_120 : decode c_Md_unreached 120 = .ok (.isub, 1) := by decide +kernel
theorem d_Md_unreached_121 : decode c_Md_unreached 121 = .ok (.iload_n 1, 1) := by decide +kernel
theorem d_Md_unreached_122 : decode c_Md_unreached 122 = .ok (.iconst (-1), 1) := by decide +kernel
theorem d_Md_unreached_123 : decode c_Md_unreached 123 = .ok (.ixor, 1) := by decide +kernel
theorem d_Md_unreached_124 : decode c_Md_unreached 124 = .ok (.iand, 1) := by decide +kernel
theorem d_Md_unreached_125 : decode c_Md_unreached 125 = .ok (.ireturn, 1) := by decide +kernel
theorem d_Md_initials_0 : decode c_Md_initials 0 = .ok (.iconst 0, 1) := by decide +kernel
theorem d_Md_initials_1 : decode c_Md_initials 1 = .ok (.istore_n 1, 1) := by decide +kernel
theorem d_Md_initials_2 : decode c_Md_initials 2 = .ok (.iconst 0, 1) := by decide +kernel
theorem d_Md_initials_3 : decode c_Md_initials 3 = .ok (.istore_n 2, 1) := by decide +kernel
theorem d_Md_initials_4 : decode c_Md_initials 4 = .ok (.iload_n 2, 1) := by decide +kernel
theorem d_Md_initials_5 : decode c_Md_initials 5 = .ok (.aload_n 0, 1) := by decide +kernel
theorem d_Md_initials_6 : decode c_Md_initials 6 = .ok (.getfield 77, 3) := by decide +kernel
theorem d_Md_initials_9 : decode c_Md_initials 9 = .ok (.if_icmp .ge 28, 3) := by decide +kernel
theorem d_Md_initials_12 : decode c_Md_initials 12 = .ok (.aload_n 0, 1) := by decide +kernel
theorem d_Md_initials_13 : decode c_Md_initials 13 = .ok (.getfield 13, 3) := by decide +kernel
theorem d_Md_initials_16 : decode c_Md_initials 16 = .ok (.iload_n 2, 1) := by decide +kernel
theorem d_Md_initials_17 : decode c_Md_initials 17 = .ok (.baload, 1) := by decide +kernel
theorem d_Md_initials_18 : decode c_Md_initials 18 = .ok (.ifCond .eq 11, 3) := by decide +kernel
theorem d_Md_initials_21 : decode c_Md_initials 21 = .ok (.iload_n 1, 1) := by decide +kernel
theorem d_Md_initials_22 : decode c_Md_initials 22 = .ok (.iconst 1, 1) := by decide +kernel
theorem d_Md_initials_23 : decode c_Md_initials 23 = .ok (.iload_n 2, 1) := by decide +kernel
theorem d_Md_initials_24 : decode c_Md_initials 24 = .ok (.ishl, 1) := by decide +kernel
theorem d_Md_initials_25 : decode c_Md_initials 25 = .ok (.ior, 1) := by decide +kernel
theorem d_Md_initials_26 : decode c_Md_initials 26 = .ok (.goto 4, 3) := by decide +kernel
theorem d_Md_initials_29 : decode c_Md_initials 29 = .ok (.iload_n 1, 1) := by decide +kernel
theorem d_Md_initials_30 : decode c_Md_initials 30 = .ok (.istore_n 1, 1) := by decide +kernel
theorem d_Md_initials_31 : decode c_Md_initials 31 = .ok (.iinc 2 1, 3) := by decide +kernel
theorem d_Md_initials_34 : decode c_Md_initials 34 = .ok (.goto (-30), 3) := by decide +kernel
theorem d_Md_initials_37 : decode c_Md_initials 37 = .ok (.iload_n 1, 1) := by decide +kernel
theorem d_Md_initials_38 : decode c_Md_initials 38 = .ok (.ireturn, 1) := by decide +kernel
theorem d_Md_blank_0 : decode c_Md_blank 0 = .ok (.aload_n 0, 1) := by decide +kernel
theorem d_Md_blank_1 : decode c_Md_blank 1 = .ok (.iconst 0, 1) := by decide +kernel
theorem d_Md_blank_2 : decode c_Md_blank 2 = .ok (.putfield 121, 3) := by decide +kernel
theorem d_Md_blank_5 : decode c_Md_blank 5 = .ok (.aload_n 0, 1) := by decide +kernel
theorem d_Md_blank_6 : decode c_Md_blank 6 = .ok (.iconst 0, 1) := by decide +kernel
theorem d_Md_blank_7 : decode c_Md_blank 7 = .ok (.putfield 124, 3) := by decide +kernel
theorem d_Md_blank_10 : decode c_Md_blank 10 = .ok (.aload_n 0, 1) := by decide +kernel
theorem d_Md_blank_11 : decode c_Md_blank 11 = .ok (.iconst 0, 1) := by decide +kernel
theorem d_Md_blank_12 : decode c_Md_blank 12 = .ok (.putfield 127, 3) := by decide +kernel
theorem d_Md_blank_15 : decode c_Md_blank 15 = .ok (.aload_n 0, 1) := by decide +kernel
theorem d_Md_blank_16 : decode c_Md_blank 16 = .ok (.iconst 0, 1) := by decide +kernel
theorem d_Md_blank_17 : decode c_Md_blank 17 = .ok (.putfield 130, 3) := by decide +kernel
theorem d_Md_blank_20 : decode c_Md_blank 20 = .ok (.aload_n 0, 1) := by decide +kernel
theorem d_Md_blank_21 : decode c_Md_blank 21 = .ok (.iconst 0, 1) := by decide +kernel
theorem d_Md_blank_22 : decode c_Md_blank 22 = .ok (.putfield 133, 3) := by decide +kernel
theorem d_Md_blank_25 : decode c_Md_blank 25 = .ok (.aload_n 0, 1) := by decide +kernel
theorem d_Md_blank_26 : decode c_Md_blank 26 = .ok (.iconst 0, 1) := by decide +kernel
theorem d_Md_blank_27 : decode c_Md_blank 27 = .ok (.putfield 136, 3) := by decide +kernel
theorem d_Md_blank_30 : decode c_Md_blank 30 = .ok (.aload_n 0, 1) := by decide +kernel
theorem d_Md_blank_31 : decode c_Md_blank 31 = .ok (.iconst 0, 1) := by decide +kernel
theorem d_Md_blank_32 : decode c_Md_blank 32 = .ok (.putfield 139, 3) := by decide +kernel
theorem d_Md_blank_35 : decode c_Md_blank 35 = .ok (.aload_n 0, 1) := by decide +kernel
theorem d_Md_blank_36 : decode c_Md_blank 36 = .ok (.iconst 0, 1) := by decide +kernel
theorem d_Md_blank_37 : decode c_Md_blank 37 = .ok (.putfield 142, 3) := by decide +kernel
theorem d_Md_blank_40 : decode c_Md_blank 40 = .ok (.iconst 0, 1) := by decide +kernel
theorem d_Md_blank_41 : decode c_Md_blank 41 = .ok (.istore_n 1, 1) := by decide +kernel
theorem d_Md_blank_42 : decode c_Md_blank 42 = .ok (.iload_n 1, 1) := by decide +kernel
theorem d_Md_blank_43 : decode c_Md_blank 43 = .ok (.bipush 8, 2) := by decide +kernel
theorem d_Md_blank_45 : decode c_Md_blank 45 = .ok (.if_icmp .ge 16, 3) := by decide +kernel
theorem d_Md_blank_48 : decode c_Md_blank 48 = .ok (.aload_n 0, 1) := by decide +kernel
theorem d_Md_blank_49 : decode c_Md_blank 49 = .ok (.getfield 68, 3) := by decide +kernel
theorem d_Md_blank_52 : decode c_Md_blank 52 = .ok (.iload_n 1, 1) := by decide +kernel
theorem d_Md_blank_53 : decode c_Md_blank 53 = .ok (.iconst 0, 1) := by decide +kernel
theorem d_Md_blank_54 : decode c_Md_blank 54 = .ok (.iastore, 1) := by decide +kernel
theorem d_Md_blank_55 : decode c_Md_blank 55 = .ok (.iinc 1 1, 3) := by decide +kernel
theorem d_Md_blank_58 : decode c_Md_blank 58 = .ok (.goto (-16), 3) := by decide +kernel
theorem d_Md_blank_61 : decode c_Md_blank 61 = .ok (.iconst 0, 1) := by decide +kernel
theorem d_Md_blank_62 : decode c_Md_blank 62 = .ok (.istore_n 1, 1) := by decide +kernel
theorem d_Md_blank_63 : decode c_Md_blank 63 = .ok (.iload_n 1, 1) := by decide +kernel
theorem d_Md_blank_64 : decode c_Md_blank 64 = .ok (.bipush 12, 2) := by decide +kernel
theorem d_Md_blank_66 : decode c_Md_blank 66 = .ok (.if_icmp .ge 23, 3) := by decide +kernel
theorem d_Md_blank_69 : decode c_Md_blank 69 = .ok (.aload_n 0, 1) := by decide +kernel
theorem d_Md_blank_70 : decode c_Md_blank 70 = .ok (.getfield 62, 3) := by decide +kernel
theorem d_Md_blank_73 : decode c_Md_blank 73 = .ok (.iload_n 1, 1) := by decide +kernel
theorem d_Md_blank_74 : decode c_Md_blank 74 = .ok (.iconst 0, 1) := by decide +kernel
theorem d_Md_blank_75 : decode c_Md_blank 75 = .ok (.bastore, 1) := by decide +kernel
theorem d_Md_blank_76 : decode c_Md_blank 76 = .ok (.aload_n 0, 1) := by decide +kernel
theorem d_Md_blank_77 : decode c_Md_blank 77 = .ok (.getfield 65, 3) := by decide +kernel
theorem d_Md_blank_80 : decode c_Md_blank 80 = .ok (.iload_n 1, 1) := by decide +kernel
theorem d_Md_blank_81 : decode c_Md_blank 81 = .ok (.iconst 0, 1) := by decide +kernel
theorem d_Md_blank_82 : decode c_Md_blank 82 = .ok (.iastore, 1) := by decide +kernel
theorem d_Md_blank_83 : decode c_Md_blank 83 = .ok (.iinc 1 1, 3) := by decide +kernel
theorem d_Md_blank_86 : decode c_Md_blank 86 = .ok (.goto (-23), 3) := by decide +kernel
theorem d_Md_blank_89 : decode c_Md_blank 89 = .ok (.return_, 1) := by decide +kernel
theorem d_Md_start_0 : decode c_Md_start 0 = .ok (.aload_n 0, 1) := by decide +kernel
theorem d_Md_start_1 : decode c_Md_start 1 = .ok (.getfield 84, 3) := by decide +kernel
theorem d_Md_start_4 : decode c_Md_start 4 = .ok (.ifCond .ne 10, 3) := by decide +kernel
theorem d_Md_start_7 : decode c_Md_start 7 = .ok (.aload_n 0, 1) := by decide +kernel
theorem d_Md_start_8 : decode c_Md_start 8 = .ok (.invokevirtual 113, 3) := by decide +kernel
theorem d_Md_start_11 : decode c_Md_start 11 = .ok (.ifCond .ne 5, 3) := by decide +kernel
theorem d_Md_start_14 : decode c_Md_start 14 = .ok (.iconst 0, 1) := by decide +kernel
theorem d_Md_start_15 : decode c_Md_start 15 = .ok (.ireturn, 1) := by decide +kernel
theorem d_Md_start_16 : decode c_Md_start 16 = .ok (.aload_n 0, 1) := by decide +kernel
theorem d_Md_start_17 : decode c_Md_start 17 = .ok (.invokevirtual 145, 3) := by decide +kernel
theorem d_Md_start_20 : decode c_Md_start 20 = .ok (.aload_n 0, 1) := by decide +kernel
theorem d_Md_start_21 : decode c_Md_start 21 = .ok (.iconst 1, 1) := by decide +kernel
theorem d_Md_start_22 : decode c_Md_start 22 = .ok (.putfield 84, 3) := by decide +kernel
theorem d_Md_start_25 : decode c_Md_start 25 = .ok (.aload_n 0, 1) := by decide +kernel
theorem d_Md_start_26 : decode c_Md_start 26 = .ok (.iload_n 1, 1) := by decide +kernel
theorem d_Md_start_27 : decode c_Md_start 27 = .ok (.putfield 148, 3) := by decide +kernel
theorem d_Md_start_30 : decode c_Md_start 30 = .ok (.aload_n 0, 1) := by decide +kernel
theorem d_Md_start_31 : decode c_Md_start 31 = .ok (.aload_n 0, 1) := by decide +kernel
theorem d_Md_start_32 : decode c_Md_start 32 = .ok (.invokevirtual 113, 3) := by decide +kernel
theorem d_Md_start_35 : decode c_Md_start 35 = .ok (.putfield 121, 3) := by decide +kernel
theorem d_Md_start_38 : decode c_Md_start 38 = .ok (.iconst 1, 1) := by decide +kernel
theorem d_Md_start_39 : decode c_Md_start 39 = .ok (.ireturn, 1) := by decide +kernel
theorem d_Md_stop_0 : decode c_Md_stop 0 = .ok (.aload_n 0, 1) := by decide +kernel
theorem d_Md_stop_1 : decode c_Md_stop 1 = .ok (.invokevirtual 145, 3) := by decide +kernel
theorem d_Md_stop_4 : decode c_Md_stop 4 = .ok (.aload_n 0, 1) := by decide +kernel
theorem d_Md_stop_5 : decode c_Md_stop 5 = .ok (.iconst 0, 1) := by decide +kernel
theorem d_Md_stop_6 : decode c_Md_stop 6 = .ok (.putfield 84, 3) := by decide +kernel
theorem d_Md_stop_9 : decode c_Md_stop 9 = .ok (.return_, 1) := by decide +kernel
theorem d_Md_judge_0 : decode c_Md_judge 0 = .ok (.iconst 0, 1) := by decide +kernel
theorem d_Md_judge_1 : decode c_Md_judge 1 = .ok (.istore_n 1, 1) := by decide +kernel
theorem d_Md_judge_2 : decode c_Md_judge 2 = .ok (.iload_n 1, 1) := by decide +kernel
theorem d_Md_judge_3 : decode c_Md_judge 3 = .ok (.aload_n 0, 1) := by decide +kernel
theorem d_Md_judge_4 : decode c_Md_judge 4 = .ok (.getfield 81, 3) := by decide +kernel
theorem d_Md_judge_7 : decode c_Md_judge 7 = .ok (.if_icmp .ge 280, 3) := by decide +kernel
theorem d_Md_judge_10 : decode c_Md_judge 10 = .ok (.aload_n 0, 1) := by decide +kernel
theorem d_Md_judge_11 : decode c_Md_judge 11 = .ok (.getfield 20, 3) := by decide +kernel
theorem d_Md_judge_14 : decode c_Md_judge 14 = .ok (.iload_n 1, 1) := by decide +kernel
theorem d_Md_judge_15 : decode c_Md_judge 15 = .ok (.iaload, 1) := by decide +kernel
theorem d_Md_judge_16 : decode c_Md_judge 16 = .ok (.istore_n 2, 1) := by decide +kernel
theorem d_Md_judge_17 : decode c_Md_judge 17 = .ok (.aload_n 0, 1) := by decide +kernel
theorem d_Md_judge_18 : decode c_Md_judge 18 = .ok (.getfield 23, 3) := by decide +kernel
theorem d_Md_judge_21 : decode c_Md_judge 21 = .ok (.iload_n 1, 1) := by decide +kernel
theorem d_Md_judge_22 : decode c_Md_judge 22 = .ok (.iaload, 1) := by decide +kernel
theorem d_Md_judge_23 : decode c_Md_judge 23 = .ok (.istore_n 3, 1) := by decide +kernel
theorem d_Md_judge_24 : decode c_Md_judge 24 = .ok (.aload_n 0, 1) := by decide +kernel
theorem d_Md_judge_25 : decode c_Md_judge 25 = .ok (.getfield 17, 3) := by decide +kernel
theorem d_Md_judge_28 : decode c_Md_judge 28 = .ok (.iload_n 1, 1) := by decide +kernel
theorem d_Md_judge_29 : decode c_Md_judge 29 = .ok (.iaload, 1) := by decide +kernel
theorem d_Md_judge_30 : decode c_Md_judge 30 = .ok (.ifCond .ne 20, 3) := by decide +kernel
theorem d_Md_judge_33 : decode c_Md_judge 33 = .ok (.aload_n 0, 1) := by decide +kernel
theorem d_Md_judge_34 : decode c_Md_judge 34 = .ok (.getfield 29, 3) := by decide +kernel
theorem d_Md_judge_37 : decode c_Md_judge 37 = .ok (.iload_n 1, 1) := by decide +kernel
theorem d_Md_judge_38 : decode c_Md_judge 38 = .ok (.aload_n 0, 1) := by decide +kernel
theorem d_Md_judge_39 : decode c_Md_judge 39 = .ok (.getfield 151, 3) := by decide +kernel
theorem d_Md_judge_42 : decode c_Md_judge 42 = .ok (.iload_n 2, 1) := by decide +kernel
theorem d_Md_judge_43 : decode c_Md_judge 43 = .ok (.invokestatic 117, 3) := by decide +kernel
theorem d_Md_judge_46 : decode c_Md_judge 46 = .ok (.bastore, 1) := by decide +kernel
theorem d_Md_judge_47 : decode c_Md_judge 47 = .ok (.goto 234, 3) := by decide +kernel
theorem d_Md_judge_50 : decode c_Md_judge 50 = .ok (.aload_n 0, 1) := by decide +kernel
theorem d_Md_judge_51 : decode c_Md_judge 51 = .ok (.getfield 17, 3) := by decide +kernel
theorem d_Md_judge_54 : decode c_Md_judge 54 = .ok (.iload_n 1, 1) := by decide +kernel
theorem d_Md_judge_55 : decode c_Md_judge 55 = .ok (.iaload, 1) := by decide +kernel
theorem d_Md_judge_56 : decode c_Md_judge 56 = .ok (.iconst 1, 1) := by decide +kernel
theorem d_Md_judge_57 : decode c_Md_judge 57 = .ok (.if_icmp .ne 20, 3) := by decide +kernel
theorem d_Md_judge_60 : decode c_Md_judge 60 = .ok (.aload_n 0, 1) := by decide +kernel
theorem d_Md_judge_61 : decode c_Md_judge 61 = .ok (.getfield 29, 3) := by decide +kernel
theorem d_Md_judge_64 : decode c_Md_judge 64 = .ok (.iload_n 1, 1) := by decide +kernel
theorem d_Md_judge_65 : decode c_Md_judge 65 = .ok (.aload_n 0, 1) := by decide +kernel
theorem d_Md_judge_66 : decode c_Md_judge 66 = .ok (.getfield 154, 3) := by decide +kernel
theorem d_Md_judge_69 : decode c_Md_judge 69 = .ok (.iload_n 2, 1) := by decide +kernel
theorem d_Md_judge_70 : decode c_Md_judge 70 = .ok (.invokestatic 117, 3) := by decide +kernel
theorem d_Md_judge_73 : decode c_Md_judge 73 = .ok (.bastore, 1) := by decide +kernel
theorem d_Md_judge_74 : decode c_Md_judge 74 = .ok (.goto 207, 3) := by decide +kernel
theorem d_Md_judge_77 : decode c_Md_judge 77 = .ok (.aload_n 0, 1) := by decide +kernel
theorem d_Md_judge_78 : decode c_Md_judge 78 = .ok (.getfield 17, 3) := by decide +kernel
theorem d_Md_judge_81 : decode c_Md_judge 81 = .ok (.iload_n 1, 1) := by decide +kernel
theorem d_Md_judge_82 : decode c_Md_judge 82 = .ok (.iaload, 1) := by decide +kernel
theorem d_Md_judge_83 : decode c_Md_judge 83 = .ok (.iconst 2, 1) := by decide +kernel
theorem d_Md_judge_84 : decode c_Md_judge 84 = .ok (.if_icmp .ne 20, 3) := by decide +kernel
theorem d_Md_judge_87 : decode c_Md_judge 87 = .ok (.aload_n 0, 1) := by decide +kernel
theorem d_Md_judge_88 : decode c_Md_judge 88 = .ok (.getfield 29, 3) := by decide +kernel
theorem d_Md_judge_91 : decode c_Md_judge 91 = .ok (.iload_n 1, 1) := by decide +kernel
theorem d_Md_judge_92 : decode c_Md_judge 92 = .ok (.aload_n 0, 1) := by decide +kernel
theorem d_Md_judge_93 : decode c_Md_judge 93 = .ok (.getfield 157, 3) := by decide +kernel
theorem d_Md_judge_96 : decode c_Md_judge 96 = .ok (.iload_n 2, 1) := by decide +kernel
theorem d_Md_judge_97 : decode c_Md_judge 97 = .ok (.invokestatic 117, 3) := by decide +kernel
theorem d_Md_judge_100 : decode c_Md_judge 100 = .ok (.bastore, 1) := by decide +kernel
theorem d_Md_judge_101 : decode c_Md_judge 101 = .ok (.goto 180, 3) := by decide +kernel
theorem d_Md_judge_104 : decode c_Md_judge 104 = .ok (.aload_n 0, 1) := by decide +kernel
theorem d_Md_judge_105 : decode c_Md_judge 105 = .ok (.getfield 17, 3) := by decide +kernel
theorem d_Md_judge_108 : decode c_Md_judge 108 = .ok (.iload_n 1, 1) := by decide +kernel
theorem d_Md_judge_109 : decode c_Md_judge 109 = .ok (.iaload, 1) := by decide +kernel
theorem d_Md_judge_110 : decode c_Md_judge 110 = .ok (.iconst 3, 1) := by decide +kernel
theorem d_Md_judge_111 : decode c_Md_judge 111 = .ok (.if_icmp .ne 20, 3) := by decide +kernel
theorem d_Md_judge_114 : decode c_Md_judge 114 = .ok (.aload_n 0, 1) := by decide +kernel
theorem d_Md_judge_115 : decode c_Md_judge 115 = .ok (.getfield 29, 3) := by decide +kernel
theorem d_Md_judge_118 : decode c_Md_judge 118 = .ok (.iload_n 1, 1) := by decide +kernel
theorem d_Md_judge_119 : decode c_Md_judge 119 = .ok (.aload_n 0, 1) := by decide +kernel
theorem d_Md_judge_120 : decode c_Md_judge 120 = .ok (.getfield 121, 3) := by decide +kernel
theorem d_Md_judge_123 : decode c_Md_judge 123 = .ok (.iload_n 2, 1) := by decide +kernel
theorem d_Md_judge_124 : decode c_Md_judge 124 = .ok (.invokestatic 117, 3) := by decide +kernel
theorem d_Md_judge_127 : decode c_Md_judge 127 = .ok (.bastore, 1) := by decide +kernel
theorem d_Md_judge_128 : decode c_Md_judge 128 = .ok (.goto 153, 3) := by decide +kernel
theorem d_Md_judge_131 : decode c_Md_judge 131 = .ok (.aload_n 0, 1) := by decide +kernel
theorem d_Md_judge_132 : decode c_Md_judge 132 = .ok (.getfield 17, 3) := by decide +kernel
theorem d_Md_judge_135 : decode c_Md_judge 135 = .ok (.iload_n 1, 1) := by decide +kernel
theorem d_Md_judge_136 : decode c_Md_judge 136 = .ok (.iaload, 1) := by decide +kernel
theorem d_Md_judge_137 : decode c_Md_judge 137 = .ok (.iconst 4, 1) := by decide +kernel
theorem d_Md_judge_138 : decode c_Md_judge 138 = .ok (.if_icmp .ne 38, 3) := by decide +kernel
theorem d_Md_judge_141 : decode c_Md_judge 141 = .ok (.aload_n 0, 1) := by decide +kernel
theorem d_Md_judge_142 : decode c_Md_judge 142 = .ok (.getfield 29, 3) := by decide +kernel
theorem d_Md_judge_145 : decode c_Md_judge 145 = .ok (.iload_n 1, 1) := by decide +kernel
theorem d_Md_judge_146 : decode c_Md_judge 146 = .ok (.aload_n 0, 1) := by decide +kernel
theorem d_Md_judge_147 : decode c_Md_judge 147 = .ok (.getfield 121, 3) := by decide +kernel
theorem d_Md_judge_150 : decode c_Md_judge 150 = .ok (.iload_n 2, 1) := by decide +kernel
theorem d_Md_judge_151 : decode c_Md_judge 151 = .ok (.invokestatic 117, 3) := by decide +kernel
theorem d_Md_judge_154 : decode c_Md_judge 154 = .ok (.ifCond .eq 17, 3) := by decide +kernel
theorem d_Md_judge_157 : decode c_Md_judge 157 = .ok (.aload_n 0, 1) := by decide +kernel
theorem d_Md_judge_158 : decode c_Md_judge 158 = .ok (.getfield 68, 3) := by decide +kernel
theorem d_Md_judge_161 : decode c_Md_judge 161 = .ok (.iload_n 2, 1) := by decide +kernel
theorem d_Md_judge_162 : decode c_Md_judge 162 = .ok (.iaload, 1) := by decide +kernel
theorem d_Md_judge_163 : decode c_Md_judge 163 = .ok (.iload_n 3, 1) := by decide +kernel
theorem d_Md_judge_164 : decode c_Md_judge 164 = .ok (.if_icmp .lt 7, 3) := by decide +kernel
theorem d_Md_judge_167 : decode c_Md_judge 167 = .ok (.iconst 1, 1) := by decide +kernel
theorem d_Md_judge_168 : decode c_Md_judge 168 = .ok (.goto 4, 3) := by decide +kernel
theorem d_Md_judge_171 : decode c_Md_judge 171 = .ok (.iconst 0, 1) := by decide +kernel
theorem d_Md_judge_172 : decode c_Md_judge 172 = .ok (.bastore, 1) := by decide +kernel
theorem d_Md_judge_173 : decode c_Md_judge 173 = .ok (.goto 108, 3) := by decide +kernel
theorem d_Md_judge_176 : decode c_Md_judge 176 = .ok (.aload_n 0, 1) := by decide +kernel
theorem d_Md_judge_177 : decode c_Md_judge 177 = .ok (.getfield 17, 3) := by decide +kernel
theorem d_Md_judge_180 : decode c_Md_judge 180 = .ok (.iload_n 1, 1) := by decide +kernel
theorem d_Md_judge_181 : decode c_Md_judge 181 = .ok (.iaload, 1) := by decide +kernel
theorem d_Md_judge_182 : decode c_Md_judge 182 = .ok (.iconst 5, 1) := by decide +kernel
theorem d_Md_judge_183 : decode c_Md_judge 183 = .ok (.if_icmp .ne 26, 3) := by decide +kernel
theorem d_Md_judge_186 : decode c_Md_judge 186 = .ok (.aload_n 0, 1) := by decide +kernel
theorem d_Md_judge_187 : decode c_Md_judge 187 = .ok (.getfield 29, 3) := by decide +kernel
theorem d_Md_judge_190 : decode c_Md_judge 190 = .ok (.iload_n 1, 1) := by decide +kernel
theorem d_Md_judge_191 : decode c_Md_judge 191 = .ok (.aload_n 0, 1) := by decide +kernel
theorem d_Md_judge_192 : decode c_Md_judge 192 = .ok (.getfield 29, 3) := by decide +kernel
theorem d_Md_judge_195 : decode c_Md_judge 195 = .ok (.iload_n 2, 1) := by decide +kernel
theorem d_Md_judge_196 : decode c_Md_judge 196 = .ok (.baload, 1) := by decide +kernel
theorem d_Md_judge_197 : decode c_Md_judge 197 = .ok (.ifCond .ne 7, 3) := by decide +kernel
theorem d_Md_judge_200 : decode c_Md_judge 200 = .ok (.iconst 1, 1) := by decide +kernel
theorem d_Md_judge_201 : decode c_Md_judge 201 = .ok (.goto 4, 3) := by decide +kernel
theorem d_Md_judge_204 : decode c_Md_judge 204 = .ok (.iconst 0, 1) := by decide +kernel
theorem d_Md_judge_205 : decode c_Md_judge 205 = .ok (.bastore, 1) := by decide +kernel
theorem d_Md_judge_206 : decode c_Md_judge 206 = .ok (.goto 75, 3) := by decide +kernel
theorem d_Md_judge_209 : decode c_Md_judge 209 = .ok (.aload_n 0, 1) := by decide +kernel
theorem d_Md_judge_210 : decode c_Md_judge 210 = .ok (.getfield 17, 3) := by decide +kernel
theorem d_Md_judge_213 : decode c_Md_judge 213 = .ok (.iload_n 1, 1) := by decide +kernel
theorem d_Md_judge_214 : decode c_Md_judge 214 = .ok (.iaload, 1) := by decide +kernel
theorem d_Md_judge_215 : decode c_Md_judge 215 = .ok (.bipush 6, 2) := by decide +kernel
theorem d_Md_judge_217 : decode c_Md_judge 217 = .ok (.if_icmp .ne 35, 3) := by decide +kernel
theorem d_Md_judge_220 : decode c_Md_judge 220 = .ok (.aload_n 0, 1) := by decide +kernel
theorem d_Md_judge_221 : decode c_Md_judge 221 = .ok (.getfield 29, 3) := by decide +kernel
theorem d_Md_judge_224 : decode c_Md_judge 224 = .ok (.iload_n 1, 1) := by decide +kernel
theorem d_Md_judge_225 : decode c_Md_judge 225 = .ok (.aload_n 0, 1) := by decide +kernel
theorem d_Md_judge_226 : decode c_Md_judge 226 = .ok (.getfield 29, 3) := by decide +kernel
theorem d_Md_judge_229 : decode c_Md_judge 229 = .ok (.iload_n 2, 1) := by decide +kernel
theorem d_Md_judge_230 : decode c_Md_judge 230 = .ok (.baload, 1) := by decide +kernel
theorem d_Md_judge_231 : decode c_Md_judge 231 = .ok (.ifCond .eq 16, 3) := by decide +kernel
theorem d_Md_judge_234 : decode c_Md_judge 234 = .ok (.aload_n 0, 1) := by decide +kernel
theorem d_Md_judge_235 : decode c_Md_judge 235 = .ok (.getfield 29, 3) := by decide +kernel
theorem d_Md_judge_238 : decode c_Md_judge 238 = .ok (.iload_n 3, 1) := by decide +kernel
theorem d_Md_judge_239 : decode c_Md_judge 239 = .ok (.baload, 1) := by decide +kernel
theorem d_Md_judge_240 : decode c_Md_judge 240 = .ok (.ifCond .eq 7, 3) := by decide +kernel
theorem d_Md_judge_243 : decode c_Md_judge 243 = .ok (.iconst 1, 1) := by decide +kernel
theorem d_Md_judge_244 : decode c_Md_judge 244 = .ok (.goto 4, 3) := by decide +kernel
theorem d_Md_judge_247 : decode c_Md_judge 247 = .ok (.iconst 0, 1) := by decide +kernel
theorem d_Md_judge_248 : decode c_Md_judge 248 = .ok (.bastore, 1) := by decide +kernel
theorem d_Md_judge_249 : decode c_Md_judge 249 = .ok (.goto 32, 3) := by decide +kernel
theorem d_Md_judge_252 : decode c_Md_judge 252 = .ok (.aload_n 0, 1) := by decide +kernel
theorem d_Md_judge_253 : decode c_Md_judge 253 = .ok (.getfield 29, 3) := by decide +kernel
theorem d_Md_judge_256 : decode c_Md_judge 256 = .ok (.iload_n 1, 1) := by decide +kernel
theorem d_Md_judge_257 : decode c_Md_judge 257 = .ok (.aload_n 0, 1) := by decide +kernel
theorem d_Md_judge_258 : decode c_Md_judge 258 = .ok (.getfield 29, 3) := by decide +kernel
theorem d_Md_judge_261 : decode c_Md_judge 261 = .ok (.iload_n 2, 1) := by decide +kernel
theorem d_Md_judge_262 : decode c_Md_judge 262 = .ok (.baload, 1) := by decide +kernel
theorem d_Md_judge_263 : decode c_Md_judge 263 = .ok (.ifCond .ne 12, 3) := by decide +kernel
theorem d_Md_judge_266 : decode c_Md_judge 266 = .ok (.aload_n 0, 1) := by decide +kernel
theorem d_Md_judge_267 : decode c_Md_judge 267 = .ok (.getfield 29, 3) := by decide +kernel
theorem d_Md_judge_270 : decode c_Md_judge 270 = .ok (.iload_n 3, 1) := by decide +kernel
theorem d_Md_judge_271 : decode c_Md_judge 271 = .ok (.baload, 1) := by decide +kernel
theorem d_Md_judge_272 : decode c_Md_judge 272 = .ok (.ifCond .eq 7, 3) := by decide +kernel
theorem d_Md_judge_275 : decode c_Md_judge 275 = .ok (.iconst 1, 1) := by decide +kernel
theorem d_Md_judge_276 : decode c_Md_judge 276 = .ok (.goto 4, 3) := by decide +kernel
theorem d_Md_judge_279 : decode c_Md_judge 279 = .ok (.iconst 0, 1) := by decide +kernel
theorem d_Md_judge_280 : decode c_Md_judge 280 = .ok (.bastore, 1) := by decide +kernel
theorem d_Md_judge_281 : decode c_Md_judge 281 = .ok (.iinc 1 1, 3) := by decide +kernel
theorem d_Md_judge_284 : decode c_Md_judge 284 = .ok (.goto (-282), 3) := by decide +kernel
theorem d_Md_judge_287 : decode c_Md_judge 287 = .ok (.return_, 1) := by decide +kernel
theorem d_Md_isEnabled_0 : decode c_Md_isEnabled 0 = .ok (.aload_n 0, 1) := by decide +kernel
theorem d_Md_isEnabled_1 : decode c_Md_isEnabled 1 = .ok (.getfield 32, 3) := by decide +kernel
theorem d_Md_isEnabled_4 : decode c_Md_isEnabled 4 = .ok (.iload_n 1, 1) := by decide +kernel
theorem d_Md_isEnabled_5 : decode c_Md_isEnabled 5 = .ok (.iaload, 1) := by decide +kernel
theorem d_Md_isEnabled_6 : decode c_Md_isEnabled 6 = .ok (.aload_n 0, 1) := by decide +kernel
theorem d_Md_isEnabled_7 : decode c_Md_isEnabled 7 = .ok (.getfield 121, 3) := by decide +kernel
theorem d_Md_isEnabled_10 : decode c_Md_isEnabled 10 = .ok (.iconst (-1), 1) := by decide +kernel
theorem d_Md_isEnabled_11 : decode c_Md_isEnabled 11 = .ok (.ixor, 1) := by decide +kernel
theorem d_Md_isEnabled_12 : decode c_Md_isEnabled 12 = .ok (.iand, 1) := by decide +kernel
theorem d_Md_isEnabled_13 : decode c_Md_isEnabled 13 = .ok (.ifCond .ne 7, 3) := by decide +kernel
theorem d_Md_isEnabled_16 : decode c_Md_isEnabled 16 = .ok (.iconst 1, 1) := by decide +kernel
theorem d_Md_isEnabled_17 : decode c_Md_isEnabled 17 = .ok (.goto 4, 3) := by decide +kernel
theorem d_Md_isEnabled_20 : decode c_Md_isEnabled 20 = .ok (.iconst 0, 1) := by decide +kernel
theorem d_Md_isEnabled_21 : decode c_Md_isEnabled 21 = .ok (.ireturn, 1) := by decide +kernel
theorem d_Md_ruling_0 : decode c_Md_ruling 0 = .ok (.iconst (-1), 1) := by decide +kernel
theorem d_Md_ruling_1 : decode c_Md_ruling 1 = .ok (.istore_n 2, 1) := by decide +kernel
theorem d_Md_ruling_2 : decode c_Md_ruling 2 = .ok (.aload_n 0, 1) := by decide +kernel
theorem d_Md_ruling_3 : decode c_Md_ruling 3 = .ok (.getfield 107, 3) := by decide +kernel
theorem d_Md_ruling_6 : decode c_Md_ruling 6 = .ok (.iconst 1, 1) := by decide +kernel
theorem d_Md_ruling_7 : decode c_Md_ruling 7 = .ok (.isub, 1) := by decide +kernel
theorem d_Md_ruling_8 : decode c_Md_ruling 8 = .ok (.istore_n 3, 1) := by decide +kernel
theorem d_Md_ruling_9 : decode c_Md_ruling 9 = .ok (.iload_n 3, 1) := by decide +kernel
theorem d_Md_ruling_10 : decode c_Md_ruling 10 = .ok (.ifCond .lt 41, 3) := by decide +kernel
theorem d_Md_ruling_13 : decode c_Md_ruling 13 = .ok (.aload_n 0, 1) := by decide +kernel
theorem d_Md_ruling_14 : decode c_Md_ruling 14 = .ok (.getfield 44, 3) := by decide +kernel
theorem d_Md_ruling_17 : decode c_Md_ruling 17 = .ok (.iload_n 3, 1) := by decide +kernel
theorem d_Md_ruling_18 : decode c_Md_ruling 18 = .ok (.iaload, 1) := by decide +kernel
theorem d_Md_ruling_19 : decode c_Md_ruling 19 = .ok (.iload_n 1, 1) := by decide +kernel
theorem d_Md_ruling_20 : decode c_Md_ruling 20 = .ok (.if_icmp .ne 23, 3) := by decide +kernel
theorem d_Md_ruling_23 : decode c_Md_ruling 23 = .ok (.aload_n 0, 1) := by decide +kernel
theorem d_Md_ruling_24 : decode c_Md_ruling 24 = .ok (.getfield 160, 3) := by decide +kernel
theorem d_Md_ruling_27 : decode c_Md_ruling 27 = .ok (.aload_n 0, 1) := by decide +kernel
theorem d_Md_ruling_28 : decode c_Md_ruling 28 = .ok (.getfield 41, 3) := by decide +kernel
theorem d_Md_ruling_31 : decode c_Md_ruling 31 = .ok (.iload_n 3, 1) := by decide +kernel
theorem d_Md_ruling_32 : decode c_Md_ruling 32 = .ok (.iaload, 1) := by decide +kernel
theorem d_Md_ruling_33 : decode c_Md_ruling 33 = .ok (.invokestatic 117, 3) := by decide +kernel
theorem d_Md_ruling_36 : decode c_Md_ruling 36 = .ok (.ifCond .eq 7, 3) := by decide +kernel
theorem d_Md_ruling_39 : decode c_Md_ruling 39 = .ok (.iload_n 3, 1) := by decide +kernel
theorem d_Md_ruling_40 : decode c_Md_ruling 40 = .ok (.goto 4, 3) := by decide +kernel
theorem d_Md_ruling_43 : decode c_Md_ruling 43 = .ok (.iload_n 2, 1) := by decide +kernel
theorem d_Md_ruling_44 : decode c_Md_ruling 44 = .ok (.istore_n 2, 1) := by decide +kernel
theorem d_Md_ruling_45 : decode c_Md_ruling 45 = .ok (.iinc 3 (-1), 3) := by decide +kernel
theorem d_Md_ruling_48 : decode c_Md_ruling 48 = .ok (.goto (-39), 3) := by decide +kernel
theorem d_Md_ruling_51 : decode c_Md_ruling 51 = .ok (.iload_n 2, 1) := by decide +kernel
theorem d_Md_ruling_52 : decode c_Md_ruling 52 = .ok (.ireturn, 1) := by decide +kernel
theorem d_Md_evolve_0 : decode c_Md_evolve 0 = .ok (.aload_n 0, 1) := by decide +kernel
theorem d_Md_evolve_1 : decode c_Md_evolve 1 = .ok (.invokevirtual 163, 3) := by decide +kernel
theorem d_Md_evolve_4 : decode c_Md_evolve 4 = .ok (.aload_n 0, 1) := by decide +kernel
theorem d_Md_evolve_5 : decode c_Md_evolve 5 = .ok (.iconst 0, 1) := by decide +kernel
theorem d_Md_evolve_6 : decode c_Md_evolve 6 = .ok (.putfield 160, 3) := by decide +kernel
theorem d_Md_evolve_9 : decode c_Md_evolve 9 = .ok (.aload_n 0, 1) := by decide +kernel
theorem d_Md_evolve_10 : decode c_Md_evolve 10 = .ok (.iconst 0, 1) := by decide +kernel
theorem d_Md_evolve_11 : decode c_Md_evolve 11 = .ok (.putfield 166, 3) := by decide +kernel
theorem d_Md_evolve_14 : decode c_Md_evolve 14 = .ok (.iconst 0, 1) := by decide +kernel
theorem d_Md_evolve_15 : decode c_Md_evolve 15 = .ok (.istore_n 1, 1) := by decide +kernel
theorem d_Md_evolve_16 : decode c_Md_evolve 16 = .ok (.iload_n 1, 1) := by decide +kernel
theorem d_Md_evolve_17 : decode c_Md_evolve 17 = .ok (.iconst 3, 1) := by decide +kernel
theorem d_Md_evolve_18 : decode c_Md_evolve 18 = .ok (.if_icmp .ge 67, 3) := by decide +kernel
theorem d_Md_evolve_21 : decode c_Md_evolve 21 = .ok (.aload_n 0, 1) := by decide +kernel
theorem d_Md_evolve_22 : decode c_Md_evolve 22 = .ok (.iload_n 1, 1) := by decide +kernel
theorem d_Md_evolve_23 : decode c_Md_evolve 23 = .ok (.invokevirtual 103, 3) := by decide +kernel
theorem d_Md_evolve_26 : decode c_Md_evolve 26 = .ok (.istore_n 2, 1) := by decide +kernel
theorem d_Md_evolve_27 : decode c_Md_evolve 27 = .ok (.aload_n 0, 1) := by decide +kernel
theorem d_Md_evolve_28 : decode c_Md_evolve 28 = .ok (.iload_n 1, 1) := by decide +kernel
theorem d_Md_evolve_29 : decode c_Md_evolve 29 = .ok (.invokevirtual 169, 3) := by decide +kernel
theorem d_Md_evolve_32 : decode c_Md_evolve 32 = .ok (.istore_n 3, 1) := by decide +kernel
theorem d_Md_evolve_33 : decode c_Md_evolve 33 = .ok (.iload_n 3, 1) := by decide +kernel
theorem d_Md_evolve_34 : decode c_Md_evolve 34 = .ok (.ifCond .lt 40, 3) := by decide +kernel
theorem d_Md_evolve_37 : decode c_Md_evolve 37 = .ok (.aload_n 0, 1) := by decide +kernel
theorem d_Md_evolve_38 : decode c_Md_evolve 38 = .ok (.aload_n 0, 1) := by decide +kernel
theorem d_Md_evolve_39 : decode c_Md_evolve 39 = .ok (.getfield 160, 3) := by decide +kernel
theorem d_Md_evolve_42 : decode c_Md_evolve 42 = .ok (.aload_n 0, 1) := by decide +kernel
theorem d_Md_evolve_43 : decode c_Md_evolve 43 = .ok (.getfield 47, 3) := by decide +kernel
theorem d_Md_evolve_46 : decode c_Md_evolve 46 = .ok (.iload_n 3, 1) := by decide +kernel
theorem d_Md_evolve_47 : decode c_Md_evolve 47 = .ok (.iaload, 1) := by decide +kernel
theorem d_Md_evolve_48 : decode c_Md_evolve 48 = .ok (.iconst (-1), 1) := by decide +kernel
theorem d_Md_evolve_49 : decode c_Md_evolve 49 = .ok (.if_icmp .ne 12, 3) := by decide +kernel
theorem d_Md_evolve_52 : decode c_Md_evolve 52 = .ok (.aload_n 0, 1) := by decide +kernel
theorem d_Md_evolve_53 : decode c_Md_evolve 53 = .ok (.getfield 121, 3) := by decide +kernel
theorem d_Md_evolve_56 : decode c_Md_evolve 56 = .ok (.iload_n 2, 1) := by decide +kernel
theorem d_Md_evolve_57 : decode c_Md_evolve 57 = .ok (.iand, 1) := by decide +kernel
theorem d_Md_evolve_58 : decode c_Md_evolve 58 = .ok (.goto 9, 3) := by decide +kernel
theorem d_Md_evolve_61 : decode c_Md_evolve 61 = .ok (.aload_n 0, 1) := by decide +kernel
theorem d_Md_evolve_62 : decode c_Md_evolve 62 = .ok (.getfield 47, 3) := by decide +kernel
theorem d_Md_evolve_65 : decode c_Md_evolve 65 = .ok (.iload_n 3, 1) := by decide +kernel
theorem d_Md_evolve_66 : decode c_Md_evolve 66 = .ok (.iaload, 1) := by decide +kernel
theorem d_Md_evolve_67 : decode c_Md_evolve 67 = .ok (.ior, 1) := by decide +kernel
theorem d_Md_evolve_68 : decode c_Md_evolve 68 = .ok (.putfield 160, 3) := by decide +kernel
theorem d_Md_evolve_71 : decode c_Md_evolve 71 = .ok (.goto 8, 3) := by decide +kernel
theorem d_Md_evolve_74 : decode c_Md_evolve 74 = .ok (.aload_n 0, 1) := by decide +kernel
theorem d_Md_evolve_75 : decode c_Md_evolve 75 = .ok (.iload_n 2, 1) := by decide +kernel
theorem d_Md_evolve_76 : decode c_Md_evolve 76 = .ok (.invokevirtual 172, 3) := by decide +kernel
theorem d_Md_evolve_79 : decode c_Md_evolve 79 = .ok (.iinc 1 1, 3) := by decide +kernel
theorem d_Md_evolve_82 : decode c_Md_evolve 82 = .ok (.goto (-66), 3) := by decide +kernel
theorem d_Md_evolve_85 : decode c_Md_evolve 85 = .ok (.return_, 1) := by decide +kernel
theorem d_Md_move_0 : decode c_Md_move 0 = .ok (.iconst 0, 1) := by decide +kernel
theorem d_Md_move_1 : decode c_Md_move 1 = .ok (.istore_n 2, 1) := by decide +kernel
theorem d_Md_move_2 : decode c_Md_move 2 = .ok (.iconst 0, 1) := by decide +kernel
theorem d_Md_move_3 : decode c_Md_move 3 = .ok (.istore_n 3, 1) := by decide +kernel
theorem d_Md_move_4 : decode c_Md_move 4 = .ok (.iconst 0, 1) := by decide +kernel
theorem d_Md_move_5 : decode c_Md_move 5 = .ok (.istore 4, 2) := by decide +kernel
theorem d_Md_move_7 : decode c_Md_move 7 = .ok (.iload 4, 2) := by decide +kernel
theorem d_Md_move_9 : decode c_Md_move 9 = .ok (.aload_n 0, 1) := by decide +kernel
theorem d_Md_move_10 : decode c_Md_move 10 = .ok (.getfield 100, 3) := by decide +kernel
theorem d_Md_move_13 : decode c_Md_move 13 = .ok (.if_icmp .ge 111, 3) := by decide +kernel
theorem d_Md_move_16 : decode c_Md_move 16 = .ok (.aload_n 0, 1) := by decide +kernel
theorem d_Md_move_17 : decode c_Md_move 17 = .ok (.getfield 32, 3) := by decide +kernel
theorem d_Md_move_20 : decode c_Md_move 20 = .ok (.iload 4, 2) := by decide +kernel
theorem d_Md_move_22 : decode c_Md_move 22 = .ok (.iaload, 1) := by decide +kernel
theorem d_Md_move_23 : decode c_Md_move 23 = .ok (.iload_n 1, 1) := by decide +kernel
theorem d_Md_move_24 : decode c_Md_move 24 = .ok (.iconst (-1), 1) := by decide +kernel
theorem d_Md_move_25 : decode c_Md_move 25 = .ok (.ixor, 1) := by decide +kernel
theorem d_Md_move_26 : decode c_Md_move 26 = .ok (.iand, 1) := by decide +kernel
theorem d_Md_move_27 : decode c_Md_move 27 = .ok (.ifCond .ne 31, 3) := by decide +kernel
theorem d_Md_move_30 : decode c_Md_move 30 = .ok (.aload_n 0, 1) := by decide +kernel
theorem d_Md_move_31 : decode c_Md_move 31 = .ok (.iload 4, 2) := by decide +kernel
theorem d_Md_move_33 : decode c_Md_move 33 = .ok (.invokevirtual 176, 3) := by decide +kernel
theorem d_Md_move_36 : decode c_Md_move 36 = .ok (.ifCond .eq 22, 3) := by decide +kernel
theorem d_Md_move_39 : decode c_Md_move 39 = .ok (.aload_n 0, 1) := by decide +kernel
theorem d_Md_move_40 : decode c_Md_move 40 = .ok (.getfield 29, 3) := by decide +kernel
theorem d_Md_move_43 : decode c_Md_move 43 = .ok (.aload_n 0, 1) := by decide +kernel
theorem d_Md_move_44 : decode c_Md_move 44 = .ok (.getfield 38, 3) := by decide +kernel
theorem d_Md_move_47 : decode c_Md_move 47 = .ok (.iload 4, 2) := by decide +kernel
theorem d_Md_move_49 : decode c_Md_move 49 = .ok (.iaload, 1) := by decide +kernel
theorem d_Md_move_50 : decode c_Md_move 50 = .ok (.baload, 1) := by decide +kernel
theorem d_Md_move_51 : decode c_Md_move 51 = .ok (.ifCond .eq 7, 3) := by decide +kernel
theorem d_Md_move_54 : decode c_Md_move 54 = .ok (.iconst 1, 1) := by decide +kernel
theorem d_Md_move_55 : decode c_Md_move 55 = .ok (.goto 4, 3) := by decide +kernel
theorem d_Md_move_58 : decode c_Md_move 58 = .ok (.iconst 0, 1) := by decide +kernel
theorem d_Md_move_59 : decode c_Md_move 59 = .ok (.istore 5, 2) := by decide +kernel
theorem d_Md_move_61 : decode c_Md_move 61 = .ok (.iload 5, 2) := by decide +kernel
theorem d_Md_move_63 : decode c_Md_move 63 = .ok (.ifCond .eq 55, 3) := by decide +kernel
theorem d_Md_move_66 : decode c_Md_move 66 = .ok (.aload_n 0, 1) := by decide +kernel
theorem d_Md_move_67 : decode c_Md_move 67 = .ok (.getfield 148, 3) := by decide +kernel
theorem d_Md_move_70 : decode c_Md_move 70 = .ok (.ifCond .ne 15, 3) := by decide +kernel
theorem d_Md_move_73 : decode c_Md_move 73 = .ok (.aload_n 0, 1) := by decide +kernel
theorem d_Md_move_74 : decode c_Md_move 74 = .ok (.getfield 32, 3) := by decide +kernel
theorem d_Md_move_77 : decode c_Md_move 77 = .ok (.iload 4, 2) := by decide +kernel
theorem d_Md_move_79 : decode c_Md_move 79 = .ok (.iaload, 1) := by decide +kernel
theorem d_Md_move_80 : decode c_Md_move 80 = .ok (.iload_n 2, 1) := by decide +kernel
theorem d_Md_move_81 : decode c_Md_move 81 = .ok (.iand, 1) := by decide +kernel
theorem d_Md_move_82 : decode c_Md_move 82 = .ok (.ifCond .ne 36, 3) := by decide +kernel
theorem d_Md_move_85 : decode c_Md_move 85 = .ok (.iload_n 2, 1) := by decide +kernel
theorem d_Md_move_86 : decode c_Md_move 86 = .ok (.aload_n 0, 1) := by decide +kernel
theorem d_Md_move_87 : decode c_Md_move 87 = .ok (.getfield 32, 3) := by decide +kernel
theorem d_Md_move_90 : decode c_Md_move 90 = .ok (.iload 4, 2) := by decide +kernel
theorem d_Md_move_92 : decode c_Md_move 92 = .ok (.iaload, 1) := by decide +kernel
theorem d_Md_move_93 : decode c_Md_move 93 = .ok (.ior, 1) := by decide +kernel
theorem d_Md_move_94 : decode c_Md_move 94 = .ok (.istore_n 2, 1) := by decide +kernel
theorem d_Md_move_95 : decode c_Md_move 95 = .ok (.iload_n 3, 1) := by decide +kernel
theorem d_Md_move_96 : decode c_Md_move 96 = .ok (.aload_n 0, 1) := by decide +kernel
theorem d_Md_move_97 : decode c_Md_move 97 = .ok (.getfield 35, 3) := by decide +kernel
theorem d_Md_move_100 : decode c_Md_move 100 = .ok (.iload 4, 2) := by decide +kernel
theorem d_Md_move_102 : decode c_Md_move 102 = .ok (.iaload, 1) := by decide +kernel
theorem d_Md_move_103 : decode c_Md_move 103 = .ok (.ior, 1) := by decide +kernel
theorem d_Md_move_104 : decode c_Md_move 104 = .ok (.istore_n 3, 1) := by decide +kernel
theorem d_Md_move_105 : decode c_Md_move 105 = .ok (.aload_n 0, 1) := by decide +kernel
theorem d_Md_move_106 : decode c_Md_move 106 = .ok (.aload_n 0, 1) := by decide +kernel
theorem d_Md_move_107 : decode c_Md_move 107 = .ok (.getfield 166, 3) := by decide +kernel
theorem d_Md_move_110 : decode c_Md_move 110 = .ok (.iconst 1, 1) := by decide +kernel
theorem d_Md_move_111 : decode c_Md_move 111 = .ok (.iload 4, 2) := by decide +kernel
theorem d_Md_move_113 : decode c_Md_move 113 = .ok (.ishl, 1) := by decide +kernel
theorem d_Md_move_114 : decode c_Md_move 114 = .ok (.ior, 1) := by decide +kernel
theorem d_Md_move_115 : decode c_Md_move 115 = .ok (.putfield 166, 3) := by decide +kernel
theorem d_Md_move_118 : decode c_Md_move 118 = .ok (.iinc 4 1, 3) := by decide +kernel
theorem d_Md_move_121 : decode c_Md_move 121 = .ok (.goto (-114), 3) := by decide +kernel
theorem d_Md_move_124 : decode c_Md_move 124 = .ok (.aload_n 0, 1) := by decide +kernel
theorem d_Md_move_125 : decode c_Md_move 125 = .ok (.aload_n 0, 1) := by decide +kernel
theorem d_Md_move_126 : decode c_Md_move 126 = .ok (.getfield 160, 3) := by decide +kernel
theorem d_Md_move_129 : decode c_Md_move 129 = .ok (.iload_n 3, 1) := by decide +kernel
theorem d_Md_move_130 : decode c_Md_move 130 = .ok (.ior, 1) := by decide +kernel
theorem d_Md_move_131 : decode c_Md_move 131 = .ok (.aload_n 0, 1) := by decide +kernel
theorem d_Md_move_132 : decode c_Md_move 132 = .ok (.getfield 121, 3) := by decide +kernel
theorem d_Md_move_135 : decode c_Md_move 135 = .ok (.iload_n 1, 1) := by decide +kernel
theorem d_Md_move_136 : decode c_Md_move 136 = .ok (.iand, 1) := by decide +kernel
theorem d_Md_move_137 : decode c_Md_move 137 = .ok (.iload_n 2, 1) := by decide +kernel
theorem d_Md_move_138 : decode c_Md_move 138 = .ok (.iconst (-1), 1) := by decide +kernel
theorem d_Md_move_139 : decode c_Md_move 139 = .ok (.ixor, 1) := by decide +kernel
theorem d_Md_move_140 : decode c_Md_move 140 = .ok (.iand, 1) := by decide +kernel
theorem d_Md_move_141 : decode c_Md_move 141 = .ok (.ior, 1) := by decide +kernel
theorem d_Md_move_142 : decode c_Md_move 142 = .ok (.putfield 160, 3) := by decide +kernel
theorem d_Md_move_145 : decode c_Md_move 145 = .ok (.return_, 1) := by decide +kernel
theorem d_Md_take_0 : decode c_Md_take 0 = .ok (.iconst 0, 1) := by decide +kernel
theorem d_Md_take_1 : decode c_Md_take 1 = .ok (.istore_n 1, 1) := by decide +kernel
theorem d_Md_take_2 : decode c_Md_take 2 = .ok (.iload_n 1, 1) := by decide +kernel
theorem d_Md_take_3 : decode c_Md_take 3 = .ok (.aload_n 0, 1) := by decide +kernel
theorem d_Md_take_4 : decode c_Md_take 4 = .ok (.getfield 77, 3) := by decide +kernel
theorem d_Md_take_7 : decode c_Md_take 7 = .ok (.if_icmp .ge 57, 3) := by decide +kernel
theorem d_Md_take_10 : decode c_Md_take 10 = .ok (.aload_n 0, 1) := by decide +kernel
theorem d_Md_take_11 : decode c_Md_take 11 = .ok (.getfield 121, 3) := by decide +kernel
theorem d_Md_take_14 : decode c_Md_take 14 = .ok (.iload_n 1, 1) := by decide +kernel
theorem d_Md_take_15 : decode c_Md_take 15 = .ok (.invokestatic 117, 3) := by decide +kernel
theorem d_Md_take_18 : decode c_Md_take 18 = .ok (.ifCond .eq 18, 3) := by decide +kernel
theorem d_Md_take_21 : decode c_Md_take 21 = .ok (.aload_n 0, 1) := by decide +kernel
theorem d_Md_take_22 : decode c_Md_take 22 = .ok (.getfield 160, 3) := by decide +kernel
theorem d_Md_take_25 : decode c_Md_take 25 = .ok (.iload_n 1, 1) := by decide +kernel
theorem d_Md_take_26 : decode c_Md_take 26 = .ok (.invokestatic 117, 3) := by decide +kernel
theorem d_Md_take_29 : decode c_Md_take 29 = .ok (.ifCond .eq 7, 3) := by decide +kernel
theorem d_Md_take_32 : decode c_Md_take 32 = .ok (.iconst 1, 1) := by decide +kernel
theorem d_Md_take_33 : decode c_Md_take 33 = .ok (.goto 4, 3) := by decide +kernel
theorem d_Md_take_36 : decode c_Md_take 36 = .ok (.iconst 0, 1) := by decide +kernel
theorem d_Md_take_37 : decode c_Md_take 37 = .ok (.istore_n 2, 1) := by decide +kernel
theorem d_Md_take_38 : decode c_Md_take 38 = .ok (.aload_n 0, 1) := by decide +kernel
theorem d_Md_take_39 : decode c_Md_take 39 = .ok (.getfield 68, 3) := by decide +kernel
theorem d_Md_take_42 : decode c_Md_take 42 = .ok (.iload_n 1, 1) := by decide +kernel
theorem d_Md_take_43 : decode c_Md_take 43 = .ok (.iload_n 2, 1) := by decide +kernel
theorem d_Md_take_44 : decode c_Md_take 44 = .ok (.ifCond .eq 12, 3) := by decide +kernel
theorem d_Md_take_47 : decode c_Md_take 47 = .ok (.aload_n 0, 1) := by decide +kernel
theorem d_Md_take_48 : decode c_Md_take 48 = .ok (.getfield 68, 3) := by decide +kernel
theorem d_Md_take_51 : decode c_Md_take 51 = .ok (.iload_n 1, 1) := by decide +kernel
theorem d_Md_take_52 : decode c_Md_take 52 = .ok (.iaload, 1) := by decide +kernel
theorem d_Md_take_53 : decode c_Md_take 53 = .ok (.goto 4, 3) := by decide +kernel
theorem d_Md_take_56 : decode c_Md_take 56 = .ok (.iconst 0, 1) := by decide +kernel
theorem d_Md_take_57 : decode c_Md_take 57 = .ok (.iastore, 1) := by decide +kernel
theorem d_Md_take_58 : decode c_Md_take 58 = .ok (.iinc 1 1, 3) := by decide +kernel
theorem d_Md_take_61 : decode c_Md_take 61 = .ok (.goto (-59), 3) := by decide +kernel
theorem d_Md_take_64 : decode c_Md_take 64 = .ok (.aload_n 0, 1) := by decide +kernel
theorem d_Md_take_65 : decode c_Md_take 65 = .ok (.aload_n 0, 1) := by decide +kernel
theorem d_Md_take_66 : decode c_Md_take 66 = .ok (.getfield 160, 3) := by decide +kernel
theorem d_Md_take_69 : decode c_Md_take 69 = .ok (.putfield 121, 3) := by decide +kernel
theorem d_Md_take_72 : decode c_Md_take 72 = .ok (.return_, 1) := by decide +kernel
theorem d_Md_code_0 : decode c_Md_code 0 = .ok (.iconst 0, 1) := by decide +kernel
theorem d_Md_code_1 : decode c_Md_code 1 = .ok (.istore_n 1, 1) := by decide +kernel
theorem d_Md_code_2 : decode c_Md_code 2 = .ok (.iconst 0, 1) := by decide +kernel
theorem d_Md_code_3 : decode c_Md_code 3 = .ok (.istore_n 2, 1) := by decide +kernel
theorem d_Md_code_4 : decode c_Md_code 4 = .ok (.iload_n 2, 1) := by decide +kernel
theorem d_Md_code_5 : decode c_Md_code 5 = .ok (.aload_n 0, 1) := by decide +kernel
theorem d_Md_code_6 : decode c_Md_code 6 = .ok (.getfield 77, 3) := by decide +kernel
theorem d_Md_code_9 : decode c_Md_code 9 = .ok (.if_icmp .ge 43, 3) := by decide +kernel
theorem d_Md_code_12 : decode c_Md_code 12 = .ok (.iconst 3, 1) := by decide +kernel
theorem d_Md_code_13 : decode c_Md_code 13 = .ok (.iload_n 1, 1) := by decide +kernel
theorem d_Md_code_14 : decode c_Md_code 14 = .ok (.imul, 1) := by decide +kernel
theorem d_Md_code_15 : decode c_Md_code 15 = .ok (.aload_n 0, 1) := by decide +kernel
theorem d_Md_code_16 : decode c_Md_code 16 = .ok (.getfield 121, 3) := by decide +kernel
theorem d_Md_code_19 : decode c_Md_code 19 = .ok (.iload_n 2, 1) := by decide +kernel
theorem d_Md_code_20 : decode c_Md_code 20 = .ok (.invokestatic 117, 3) := by decide +kernel
theorem d_Md_code_23 : decode c_Md_code 23 = .ok (.ifCond .ne 7, 3) := by decide +kernel
theorem d_Md_code_26 : decode c_Md_code 26 = .ok (.iconst 0, 1) := by decide +kernel
theorem d_Md_code_27 : decode c_Md_code 27 = .ok (.goto 17, 3) := by decide +kernel
theorem d_Md_code_30 : decode c_Md_code 30 = .ok (.aload_n 0, 1) := by decide +kernel
theorem d_Md_code_31 : decode c_Md_code 31 = .ok (.getfield 68, 3) := by decide +kernel
theorem d_Md_code_34 : decode c_Md_code 34 = .ok (.iload_n 2, 1) := by decide +kernel
theorem d_Md_code_35 : decode c_Md_code 35 = .ok (.iaload, 1) := by decide +kernel
theorem d_Md_code_36 : decode c_Md_code 36 = .ok (.ifCond .ne 7, 3) := by decide +kernel
theorem d_Md_code_39 : decode c_Md_code 39 = .ok (.iconst 1, 1) := by decide +kernel
theorem d_Md_code_40 : decode c_Md_code 40 = .ok (.goto 4, 3) := by decide +kernel
theorem d_Md_code_43 : decode c_Md_code 43 = .ok (.iconst 2, 1) := by decide +kernel
theorem d_Md_code_44 : decode c_Md_code 44 = .ok (.iadd, 1) := by decide +kernel
theorem d_Md_code_45 : decode c_Md_code 45 = .ok (.istore_n 1, 1) := by decide +kernel
theorem d_Md_code_46 : decode c_Md_code 46 = .ok (.iinc 2 1, 3) := by decide +kernel
theorem d_Md_code_49 : decode c_Md_code 49 = .ok (.goto (-45), 3) := by decide +kernel
theorem d_Md_code_52 : decode c_Md_code 52 = .ok (.iload_n 1, 1) := by decide +kernel
theorem d_Md_code_53 : decode c_Md_code 53 = .ok (.ireturn, 1) := by decide +kernel
theorem d_Md_scan_0 : decode c_Md_scan 0 = .ok (.aload_n 0, 1) := by decide +kernel
theorem d_Md_scan_1 : decode c_Md_scan 1 = .ok (.getfield 84, 3) := by decide +kernel
theorem d_Md_scan_4 : decode c_Md_scan 4 = .ok (.ifCond .eq 13, 3) := by decide +kernel
theorem d_Md_scan_7 : decode c_Md_scan 7 = .ok (.iload_n 2, 1) := by decide +kernel
theorem d_Md_scan_8 : decode c_Md_scan 8 = .ok (.ifCond .lt 9, 3) := by decide +kernel
theorem d_Md_scan_11 : decode c_Md_scan 11 = .ok (.iload_n 2, 1) := by decide +kernel
theorem d_Md_scan_12 : decode c_Md_scan 12 = .ok (.ldc 92, 2) := by decide +kernel
theorem d_Md_scan_14 : decode c_Md_scan 14 = .ok (.if_icmp .le 6, 3) := by decide +kernel
theorem d_Md_scan_17 : decode c_Md_scan 17 = .ok (.bipush (-2), 2) := by decide +kernel
theorem d_Md_scan_19 : decode c_Md_scan 19 = .ok (.ireturn, 1) := by decide +kernel
theorem d_Md_scan_20 : decode c_Md_scan 20 = .ok (.aload_n 0, 1) := by decide +kernel
theorem d_Md_scan_21 : decode c_Md_scan 21 = .ok (.aload_n 0, 1) := by decide +kernel
theorem d_Md_scan_22 : decode c_Md_scan 22 = .ok (.getfield 121, 3) := by decide +kernel
theorem d_Md_scan_25 : decode c_Md_scan 25 = .ok (.putfield 179, 3) := by decide +kernel
theorem d_Md_scan_28 : decode c_Md_scan 28 = .ok (.iconst 0, 1) := by decide +kernel
theorem d_Md_scan_29 : decode c_Md_scan 29 = .ok (.istore_n 3, 1) := by decide +kernel
theorem d_Md_scan_30 : decode c_Md_scan 30 = .ok (.iload_n 3, 1) := by decide +kernel
theorem d_Md_scan_31 : decode c_Md_scan 31 = .ok (.bipush 8, 2) := by decide +kernel
theorem d_Md_scan_33 : decode c_Md_scan 33 = .ok (.if_icmp .ge 50, 3) := by decide +kernel
theorem d_Md_scan_36 : decode c_Md_scan 36 = .ok (.aload_n 0, 1) := by decide +kernel
theorem d_Md_scan_37 : decode c_Md_scan 37 = .ok (.getfield 71, 3) := by decide +kernel
theorem d_Md_scan_40 : decode c_Md_scan 40 = .ok (.iload_n 3, 1) := by decide +kernel
theorem d_Md_scan_41 : decode c_Md_scan 41 = .ok (.aload_n 0, 1) := by decide +kernel
theorem d_Md_scan_42 : decode c_Md_scan 42 = .ok (.getfield 68, 3) := by decide +kernel
theorem d_Md_scan_45 : decode c_Md_scan 45 = .ok (.iload_n 3, 1) := by decide +kernel
theorem d_Md_scan_46 : decode c_Md_scan 46 = .ok (.iaload, 1) := by decide +kernel
theorem d_Md_scan_47 : decode c_Md_scan 47 = .ok (.iastore, 1) := by decide +kernel
theorem d_Md_scan_48 : decode c_Md_scan 48 = .ok (.aload_n 0, 1) := by decide +kernel
theorem d_Md_scan_49 : decode c_Md_scan 49 = .ok (.getfield 68, 3) := by decide +kernel
theorem d_Md_scan_52 : decode c_Md_scan 52 = .ok (.iload_n 3, 1) := by decide +kernel
theorem d_Md_scan_53 : decode c_Md_scan 53 = .ok (.aload_n 0, 1) := by decide +kernel
theorem d_Md_scan_54 : decode c_Md_scan 54 = .ok (.getfield 121, 3) := by decide +kernel
theorem d_Md_scan_57 : decode c_Md_scan 57 = .ok (.iload_n 3, 1) := by decide +kernel
theorem d_Md_scan_58 : decode c_Md_scan 58 = .ok (.invokestatic 117, 3) := by decide +kernel
theorem d_Md_scan_61 : decode c_Md_scan 61 = .ok (.ifCond .eq 14, 3) := by decide +kernel
theorem d_Md_scan_64 : decode c_Md_scan 64 = .ok (.aload_n 0, 1) := by decide +kernel
theorem d_Md_scan_65 : decode c_Md_scan 65 = .ok (.getfield 68, 3) := by decide +kernel
theorem d_Md_scan_68 : decode c_Md_scan 68 = .ok (.iload_n 3, 1) := by decide +kernel
theorem d_Md_scan_69 : decode c_Md_scan 69 = .ok (.iaload, 1) := by decide +kernel
theorem d_Md_scan_70 : decode c_Md_scan 70 = .ok (.iload_n 2, 1) := by decide +kernel
theorem d_Md_scan_71 : decode c_Md_scan 71 = .ok (.iadd, 1) := by decide +kernel
theorem d_Md_scan_72 : decode c_Md_scan 72 = .ok (.goto 4, 3) := by decide +kernel
theorem d_Md_scan_75 : decode c_Md_scan 75 = .ok (.iconst 0, 1) := by decide +kernel
theorem d_Md_scan_76 : decode c_Md_scan 76 = .ok (.iastore, 1) := by decide +kernel
theorem d_Md_scan_77 : decode c_Md_scan 77 = .ok (.iinc 3 1, 3) := by decide +kernel
theorem d_Md_scan_80 : decode c_Md_scan 80 = .ok (.goto (-50), 3) := by decide +kernel
theorem d_Md_scan_83 : decode c_Md_scan 83 = .ok (.aload_n 0, 1) := by decide +kernel
theorem d_Md_scan_84 : decode c_Md_scan 84 = .ok (.iload_n 1, 1) := by decide +kernel
theorem d_Md_scan_85 : decode c_Md_scan 85 = .ok (.sipush 255, 3) := by decide +kernel
theorem d_Md_scan_88 : decode c_Md_scan 88 = .ok (.iand, 1) := by decide +kernel
theorem d_Md_scan_89 : decode c_Md_scan 89 = .ok (.putfield 151, 3) := by decide +kernel
theorem d_Md_scan_92 : decode c_Md_scan 92 = .ok (.aload_n 0, 1) := by decide +kernel
theorem d_Md_scan_93 : decode c_Md_scan 93 = .ok (.aload_n 0, 1) := by decide +kernel
theorem d_Md_scan_94 : decode c_Md_scan 94 = .ok (.getfield 151, 3) := by decide +kernel
theorem d_Md_scan_97 : decode c_Md_scan 97 = .ok (.aload_n 0, 1) := by decide +kernel
theorem d_Md_scan_98 : decode c_Md_scan 98 = .ok (.getfield 127, 3) := by decide +kernel
theorem d_Md_scan_101 : decode c_Md_scan 101 = .ok (.iconst (-1), 1) := by decide +kernel
theorem d_Md_scan_102 : decode c_Md_scan 102 = .ok (.ixor, 1) := by decide +kernel
theorem d_Md_scan_103 : decode c_Md_scan 103 = .ok (.iand, 1) := by decide +kernel
theorem d_Md_scan_104 : decode c_Md_scan 104 = .ok (.putfield 154, 3) := by decide +kernel
theorem d_Md_scan_107 : decode c_Md_scan 107 = .ok (.aload_n 0, 1) := by decide +kernel
theorem d_Md_scan_108 : decode c_Md_scan 108 = .ok (.aload_n 0, 1) := by decide +kernel
theorem d_Md_scan_109 : decode c_Md_scan 109 = .ok (.getfield 127, 3) := by decide +kernel
theorem d_Md_scan_112 : decode c_Md_scan 112 = .ok (.aload_n 0, 1) := by decide +kernel
theorem d_Md_scan_113 : decode c_Md_scan 113 = .ok (.getfield 151, 3) := by decide +kernel
theorem d_Md_scan_116 : decode c_Md_scan 116 = .ok (.iconst (-1), 1) := by decide +kernel
theorem d_Md_scan_117 : decode c_Md_scan 117 = .ok (.ixor, 1) := by decide +kernel
theorem d_Md_scan_118 : decode c_Md_scan 118 = .ok (.iand, 1) := by decide +kernel
theorem d_Md_scan_119 : decode c_Md_scan 119 = .ok (.putfield 157, 3) := by decide +kernel
theorem d_Md_scan_122 : decode c_Md_scan 122 = .ok (.aload_n 0, 1) := by decide +kernel
theorem d_Md_scan_123 : decode c_Md_scan 123 = .ok (.getfield 148, 3) := by decide +kernel
theorem d_Md_scan_126 : decode c_Md_scan 126 = .ok (.ifCond .eq 10, 3) := by decide +kernel
theorem d_Md_scan_129 : decode c_Md_scan 129 = .ok (.aload_n 0, 1) := by decide +kernel
theorem d_Md_scan_130 : decode c_Md_scan 130 = .ok (.invokevirtual 182, 3) := by decide +kernel
theorem d_Md_scan_133 : decode c_Md_scan 133 = .ok (.goto 7, 3) := by decide +kernel
theorem d_Md_scan_136 : decode c_Md_scan 136 = .ok (.aload_n 0, 1) := by decide +kernel
theorem d_Md_scan_137 : decode c_Md_scan 137 = .ok (.invokevirtual 185, 3) := by decide +kernel
theorem d_Md_scan_140 : decode c_Md_scan 140 = .ok (.istore_n 3, 1) := by decide +kernel
theorem d_Md_scan_141 : decode c_Md_scan 141 = .ok (.iload_n 3, 1) := by decide +kernel
theorem d_Md_scan_142 : decode c_Md_scan 142 = .ok (.iconst (-1), 1) := by decide +kernel
theorem d_Md_scan_143 : decode c_Md_scan 143 = .ok (.if_icmp .ne 43, 3) := by decide +kernel
theorem d_Md_scan_146 : decode c_Md_scan 146 = .ok (.aload_n 0, 1) := by decide +kernel
theorem d_Md_scan_147 : decode c_Md_scan 147 = .ok (.aload_n 0, 1) := by decide +kernel
theorem d_Md_scan_148 : decode c_Md_scan 148 = .ok (.getfield 179, 3) := by decide +kernel
theorem d_Md_scan_151 : decode c_Md_scan 151 = .ok (.putfield 121, 3) := by decide +kernel
theorem d_Md_scan_154 : decode c_Md_scan 154 = .ok (.iconst 0, 1) := by decide +kernel
theorem d_Md_scan_155 : decode c_Md_scan 155 = .ok (.istore 4, 2) := by decide +kernel
theorem d_Md_scan_157 : decode c_Md_scan 157 = .ok (.iload 4, 2) := by decide +kernel
theorem d_Md_scan_159 : decode c_Md_scan 159 = .ok (.bipush 8, 2) := by decide +kernel
theorem d_Md_scan_161 : decode c_Md_scan 161 = .ok (.if_icmp .ge 23, 3) := by decide +kernel
theorem d_Md_scan_164 : decode c_Md_scan 164 = .ok (.aload_n 0, 1) := by decide +kernel
theorem d_Md_scan_165 : decode c_Md_scan 165 = .ok (.getfield 68, 3) := by decide +kernel
theorem d_Md_scan_168 : decode c_Md_scan 168 = .ok (.iload 4, 2) := by decide +kernel
theorem d_Md_scan_170 : decode c_Md_scan 170 = .ok (.aload_n 0, 1) := by decide +kernel
theorem d_Md_scan_171 : decode c_Md_scan 171 = .ok (.getfield 71, 3) := by decide +kernel
theorem d_Md_scan_174 : decode c_Md_scan 174 = .ok (.iload 4, 2) := by decide +kernel
theorem d_Md_scan_176 : decode c_Md_scan 176 = .ok (.iaload, 1) := by decide +kernel
theorem d_Md_scan_177 : decode c_Md_scan 177 = .ok (.iastore, 1) := by decide +kernel
theorem d_Md_scan_178 : decode c_Md_scan 178 = .ok (.iinc 4 1, 3) := by decide +kernel
theorem d_Md_scan_181 : decode c_Md_scan 181 = .ok (.goto (-24), 3) := by decide +kernel
theorem d_Md_scan_184 : decode c_Md_scan 184 = .ok (.iconst (-1), 1) := by decide +kernel
theorem d_Md_scan_185 : decode c_Md_scan 185 = .ok (.ireturn, 1) := by decide +kernel
theorem d_Md_scan_186 : decode c_Md_scan 186 = .ok (.aload_n 0, 1) := by decide +kernel
theorem d_Md_scan_187 : decode c_Md_scan 187 = .ok (.aload_n 0, 1) := by decide +kernel
theorem d_Md_scan_188 : decode c_Md_scan 188 = .ok (.getfield 151, 3) := by decide +kernel
theorem d_Md_scan_191 : decode c_Md_scan 191 = .ok (.putfield 127, 3) := by decide +kernel
theorem d_Md_scan_194 : decode c_Md_scan 194 = .ok (.aload_n 0, 1) := by decide +kernel
theorem d_Md_scan_195 : decode c_Md_scan 195 = .ok (.iconst 0, 1) := by decide +kernel
theorem d_Md_scan_196 : decode c_Md_scan 196 = .ok (.putfield 139, 3) := by decide +kernel
theorem d_Md_scan_199 : decode c_Md_scan 199 = .ok (.aload_n 0, 1) := by decide +kernel
theorem d_Md_scan_200 : decode c_Md_scan 200 = .ok (.iconst 0, 1) := by decide +kernel
theorem d_Md_scan_201 : decode c_Md_scan 201 = .ok (.putfield 142, 3) := by decide +kernel
theorem d_Md_scan_204 : decode c_Md_scan 204 = .ok (.aload_n 0, 1) := by decide +kernel
theorem d_Md_scan_205 : decode c_Md_scan 205 = .ok (.iload_n 3, 1) := by decide +kernel
theorem d_Md_scan_206 : decode c_Md_scan 206 = .ok (.putfield 133, 3) := by decide +kernel
theorem d_Md_scan_209 : decode c_Md_scan 209 = .ok (.aload_n 0, 1) := by decide +kernel
theorem d_Md_scan_210 : decode c_Md_scan 210 = .ok (.iload_n 2, 1) := by decide +kernel
theorem d_Md_scan_211 : decode c_Md_scan 211 = .ok (.invokevirtual 188, 3) := by decide +kernel
theorem d_Md_scan_214 : decode c_Md_scan 214 = .ok (.aload_n 0, 1) := by decide +kernel
theorem d_Md_scan_215 : decode c_Md_scan 215 = .ok (.aload_n 0, 1) := by decide +kernel
theorem d_Md_scan_216 : decode c_Md_scan 216 = .ok (.getfield 121, 3) := by decide +kernel
theorem d_Md_scan_219 : decode c_Md_scan 219 = .ok (.putfield 124, 3) := by decide +kernel
theorem d_Md_scan_222 : decode c_Md_scan 222 = .ok (.iload_n 3, 1) := by decide +kernel
theorem d_Md_scan_223 : decode c_Md_scan 223 = .ok (.ireturn, 1) := by decide +kernel
theorem d_Md_single_0 : decode c_Md_single 0 = .ok (.aload_n 0, 1) := by decide +kernel
theorem d_Md_single_1 : decode c_Md_single 1 = .ok (.invokevirtual 191, 3) := by decide +kernel
theorem d_Md_single_4 : decode c_Md_single 4 = .ok (.aload_n 0, 1) := by decide +kernel
theorem d_Md_single_5 : decode c_Md_single 5 = .ok (.getfield 166, 3) := by decide +kernel
theorem d_Md_single_8 : decode c_Md_single 8 = .ok (.ifCond .ne 14, 3) := by decide +kernel
theorem d_Md_single_11 : decode c_Md_single 11 = .ok (.aload_n 0, 1) := by decide +kernel
theorem d_Md_single_12 : decode c_Md_single 12 = .ok (.getfield 160, 3) := by decide +kernel
theorem d_Md_single_15 : decode c_Md_single 15 = .ok (.aload_n 0, 1) := by decide +kernel
theorem d_Md_single_16 : decode c_Md_single 16 = .ok (.getfield 121, 3) := by decide +kernel
theorem d_Md_single_19 : decode c_Md_single 19 = .ok (.if_icmp .eq 7, 3) := by decide +kernel
theorem d_Md_single_22 : decode c_Md_single 22 = .ok (.iconst 1, 1) := by decide +kernel
theorem d_Md_single_23 : decode c_Md_single 23 = .ok (.goto 4, 3) := by decide +kernel
theorem d_Md_single_26 : decode c_Md_single 26 = .ok (.iconst 0, 1) := by decide +kernel
theorem d_Md_single_27 : decode c_Md_single 27 = .ok (.istore_n 1, 1) := by decide +kernel
theorem d_Md_single_28 : decode c_Md_single 28 = .ok (.aload_n 0, 1) := by decide +kernel
theorem d_Md_single_29 : decode c_Md_single 29 = .ok (.aload_n 0, 1) := by decide +kernel
theorem d_Md_single_30 : decode c_Md_single 30 = .ok (.getfield 166, 3) := by decide +kernel
theorem d_Md_single_33 : decode c_Md_single 33 = .ok (.putfield 136, 3) := by decide +kernel
theorem d_Md_single_36 : decode c_Md_single 36 = .ok (.aload_n 0, 1) := by decide +kernel
theorem d_Md_single_37 : decode c_Md_single 37 = .ok (.invokevirtual 194, 3) := by decide +kernel
theorem d_Md_single_40 : decode c_Md_single 40 = .ok (.iload_n 1, 1) := by decide +kernel
theorem d_Md_single_41 : decode c_Md_single 41 = .ok (.ireturn, 1) := by decide +kernel
theorem d_Md_settle_0 : decode c_Md_settle 0 = .ok (.iconst 0, 1) := by decide +kernel
theorem d_Md_settle_1 : decode c_Md_settle 1 = .ok (.istore_n 1, 1) := by decide +kernel
theorem d_Md_settle_2 : decode c_Md_settle 2 = .ok (.iload_n 1, 1) := by decide +kernel
theorem d_Md_settle_3 : decode c_Md_settle 3 = .ok (.sipush 6561, 3) := by decide +kernel
theorem d_Md_settle_6 : decode c_Md_settle 6 = .ok (.if_icmp .ge 16, 3) := by decide +kernel
theorem d_Md_settle_9 : decode c_Md_settle 9 = .ok (.aload_n 0, 1) := by decide +kernel
theorem d_Md_settle_10 : decode c_Md_settle 10 = .ok (.getfield 74, 3) := by decide +kernel
theorem d_Md_settle_13 : decode c_Md_settle 13 = .ok (.iload_n 1, 1) := by decide +kernel
theorem d_Md_settle_14 : decode c_Md_settle 14 = .ok (.iconst 0, 1) := by decide +kernel
theorem d_Md_settle_15 : decode c_Md_settle 15 = .ok (.iastore, 1) := by decide +kernel
theorem d_Md_settle_16 : decode c_Md_settle 16 = .ok (.iinc 1 1, 3) := by decide +kernel
theorem d_Md_settle_19 : decode c_Md_settle 19 = .ok (.goto (-17), 3) := by decide +kernel
theorem d_Md_settle_22 : decode c_Md_settle 22 = .ok (.iconst 0, 1) := by decide +kernel
theorem d_Md_settle_23 : decode c_Md_settle 23 = .ok (.istore_n 1, 1) := by decide +kernel
theorem d_Md_settle_24 : decode c_Md_settle 24 = .ok (.iconst 1, 1) := by decide +kernel
theorem d_Md_settle_25 : decode c_Md_settle 25 = .ok (.istore_n 2, 1) := by decide +kernel
theorem d_Md_settle_26 : decode c_Md_settle 26 = .ok (.iload_n 2, 1) := by decide +kernel
theorem d_Md_settle_27 : decode c_Md_settle 27 = .ok (.sipush 6562, 3) := by decide +kernel
theorem d_Md_settle_30 : decode c_Md_settle 30 = .ok (.if_icmp .gt 106, 3) := by decide +kernel
theorem d_Md_settle_33 : decode c_Md_settle 33 = .ok (.aload_n 0, 1) := by decide +kernel
theorem d_Md_settle_34 : decode c_Md_settle 34 = .ok (.invokevirtual 191, 3) := by decide +kernel
theorem d_Md_settle_37 : decode c_Md_settle 37 = .ok (.aload_n 0, 1) := by decide +kernel
theorem d_Md_settle_38 : decode c_Md_settle 38 = .ok (.getfield 166, 3) := by decide +kernel
theorem d_Md_settle_41 : decode c_Md_settle 41 = .ok (.ifCond .ne 23, 3) := by decide +kernel
theorem d_Md_settle_44 : decode c_Md_settle 44 = .ok (.aload_n 0, 1) := by decide +kernel
theorem d_Md_settle_45 : decode c_Md_settle 45 = .ok (.getfield 160, 3) := by decide +kernel
theorem d_Md_settle_48 : decode c_Md_settle 48 = .ok (.aload_n 0, 1) := by decide +kernel
theorem d_Md_settle_49 : decode c_Md_settle 49 = .ok (.getfield 121, 3) := by decide +kernel
theorem d_Md_settle_52 : decode c_Md_settle 52 = .ok (.if_icmp .ne 12, 3) := by decide +kernel
theorem d_Md_settle_55 : decode c_Md_settle 55 = .ok (.aload_n 0, 1) := by decide +kernel
theorem d_Md_settle_56 : decode c_Md_settle 56 = .ok (.iload_n 1, 1) := by decide +kernel
theorem d_Md_settle_57 : decode c_Md_settle 57 = .ok (.putfield 136, 3) := by decide +kernel
theorem d_Md_settle_60 : decode c_Md_settle 60 = .ok (.iload_n 2, 1) := by decide +kernel
theorem d_Md_settle_61 : decode c_Md_settle 61 = .ok (.iconst 1, 1) := by decide +kernel
theorem d_Md_settle_62 : decode c_Md_settle 62 = .ok (.isub, 1) := by decide +kernel
theorem d_Md_settle_63 : decode c_Md_settle 63 = .ok (.ireturn, 1) := by decide +kernel
theorem d_Md_settle_64 : decode c_Md_settle 64 = .ok (.iload_n 1, 1) := by decide +kernel
theorem d_Md_settle_65 : decode c_Md_settle 65 = .ok (.aload_n 0, 1) := by decide +kernel
theorem d_Md_settle_66 : decode c_Md_settle 66 = .ok (.getfield 166, 3) := by decide +kernel
theorem d_Md_settle_69 : decode c_Md_settle 69 = .ok (.ior, 1) := by decide +kernel
theorem d_Md_settle_70 : decode c_Md_settle 70 = .ok (.istore_n 1, 1) := by decide +kernel
theorem d_Md_settle_71 : decode c_Md_settle 71 = .ok (.aload_n 0, 1) := by decide +kernel
theorem d_Md_settle_72 : decode c_Md_settle 72 = .ok (.invokevirtual 194, 3) := by decide +kernel
theorem d_Md_settle_75 : decode c_Md_settle 75 = .ok (.aload_n 0, 1) := by decide +kernel
theorem d_Md_settle_76 : decode c_Md_settle 76 = .ok (.iconst 0, 1) := by decide +kernel
theorem d_Md_settle_77 : decode c_Md_settle 77 = .ok (.putfield 154, 3) := by decide +kernel
theorem d_Md_settle_80 : decode c_Md_settle 80 = .ok (.aload_n 0, 1) := by decide +kernel
theorem d_Md_settle_81 : decode c_Md_settle 81 = .ok (.iconst 0, 1) := by decide +kernel
theorem d_Md_settle_82 : decode c_Md_settle 82 = .ok (.putfield 157, 3) := by decide +kernel
theorem d_Md_settle_85 : decode c_Md_settle 85 = .ok (.aload_n 0, 1) := by decide +kernel
theorem d_Md_settle_86 : decode c_Md_settle 86 = .ok (.invokevirtual 197, 3) := by decide +kernel
theorem d_Md_settle_89 : decode c_Md_settle 89 = .ok (.istore_n 3, 1) := by decide +kernel
theorem d_Md_settle_90 : decode c_Md_settle 90 = .ok (.aload_n 0, 1) := by decide +kernel
theorem d_Md_settle_91 : decode c_Md_settle 91 = .ok (.getfield 74, 3) := by decide +kernel
theorem d_Md_settle_94 : decode c_Md_settle 94 = .ok (.iload_n 3, 1) := by decide +kernel
theorem d_Md_settle_95 : decode c_Md_settle 95 = .ok (.iaload, 1) := by decide +kernel
theorem d_Md_settle_96 : decode c_Md_settle 96 = .ok (.ifCond .le 27, 3) := by decide +kernel
theorem d_Md_settle_99 : decode c_Md_settle 99 = .ok (.aload_n 0, 1) := by decide +kernel
theorem d_Md_settle_100 : decode c_Md_settle 100 = .ok (.aload_n 0, 1) := by decide +kernel
theorem d_Md_settle_101 : decode c_Md_settle 101 = .ok (.getfield 74, 3) := by decide +kernel
theorem d_Md_settle_104 : decode c_Md_settle 104 = .ok (.iload_n 3, 1) := by decide +kernel
theorem d_Md_settle_105 : decode c_Md_settle 105 = .ok (.iaload, 1) := by decide +kernel
theorem d_Md_settle_106 : decode c_Md_settle 106 = .ok (.putfield 139, 3) := by decide +kernel
theorem d_Md_settle_109 : decode c_Md_settle 109 = .ok (.aload_n 0, 1) := by decide +kernel
theorem d_Md_settle_110 : decode c_Md_settle 110 = .ok (.iload_n 2, 1) := by decide +kernel
theorem d_Md_settle_111 : decode c_Md_settle 111 = .ok (.aload_n 0, 1) := by decide +kernel
theorem d_Md_settle_112 : decode c_Md_settle 112 = .ok (.getfield 74, 3) := by decide +kernel
theorem d_Md_settle_115 : decode c_Md_settle 115 = .ok (.iload_n 3, 1) := by decide +kernel
theorem d_Md_settle_116 : decode c_Md_settle 116 = .ok (.iaload, 1) := by decide +kernel
theorem d_Md_settle_117 : decode c_Md_settle 117 = .ok (.isub, 1) := by decide +kernel
theorem d_Md_settle_118 : decode c_Md_settle 118 = .ok (.putfield 142, 3) := by decide +kernel
theorem d_Md_settle_121 : decode c_Md_settle 121 = .ok (.iconst (-1), 1) := by decide +kernel
theorem d_Md_settle_122 : decode c_Md_settle 122 = .ok (.ireturn, 1) := by decide +kernel
theorem d_Md_settle_123 : decode c_Md_settle 123 = .ok (.aload_n 0, 1) := by decide +kernel
theorem d_Md_settle_124 : decode c_Md_settle 124 = .ok (.getfield 74, 3) := by decide +kernel
theorem d_Md_settle_127 : decode c_Md_settle 127 = .ok (.iload_n 3, 1) := by decide +kernel
theorem d_Md_settle_128 : decode c_Md_settle 128 = .ok (.iload_n 2, 1) := by decide +kernel
theorem d_Md_settle_129 : decode c_Md_settle 129 = .ok (.iastore, 1) := by decide +kernel
theorem d_Md_settle_130 : decode c_Md_settle 130 = .ok (.iinc 2 1, 3) := by decide +kernel
theorem d_Md_settle_133 : decode c_Md_settle 133 = .ok (.goto (-107), 3) := by decide +kernel
theorem d_Md_settle_136 : decode c_Md_settle 136 = .ok (.iconst (-1), 1) := by decide +kernel
theorem d_Md_settle_137 : decode c_Md_settle 137 = .ok (.ireturn, 1) := by decide +kernel
theorem d_Md_reset_0 : decode c_Md_reset 0 = .ok (.iconst 0, 1) := by decide +kernel
theorem d_Md_reset_1 : decode c_Md_reset 1 = .ok (.istore_n 2, 1) := by decide +kernel
theorem d_Md_reset_2 : decode c_Md_reset 2 = .ok (.iconst 0, 1) := by decide +kernel
theorem d_Md_reset_3 : decode c_Md_reset 3 = .ok (.istore_n 3, 1) := by decide +kernel
theorem d_Md_reset_4 : decode c_Md_reset 4 = .ok (.iload_n 3, 1) := by decide +kernel
theorem d_Md_reset_5 : decode c_Md_reset 5 = .ok (.aload_n 0, 1) := by decide +kernel
theorem d_Md_reset_6 : decode c_Md_reset 6 = .ok (.getfield 110, 3) := by decide +kernel
theorem d_Md_reset_9 : decode c_Md_reset 9 = .ok (.if_icmp .ge 55, 3) := by decide +kernel
theorem d_Md_reset_12 : decode c_Md_reset 12 = .ok (.iload_n 2, 1) := by decide +kernel
theorem d_Md_reset_13 : decode c_Md_reset 13 = .ok (.ifCond .ne 39, 3) := by decide +kernel
theorem d_Md_reset_16 : decode c_Md_reset 16 = .ok (.aload_n 0, 1) := by decide +kernel
theorem d_Md_reset_17 : decode c_Md_reset 17 = .ok (.getfield 53, 3) := by decide +kernel
theorem d_Md_reset_20 : decode c_Md_reset 20 = .ok (.iload_n 3, 1) := by decide +kernel
theorem d_Md_reset_21 : decode c_Md_reset 21 = .ok (.iaload, 1) := by decide +kernel
theorem d_Md_reset_22 : decode c_Md_reset 22 = .ok (.iconst 1, 1) := by decide +kernel
theorem d_Md_reset_23 : decode c_Md_reset 23 = .ok (.if_icmp .ne 33, 3) := by decide +kernel
theorem d_Md_reset_26 : decode c_Md_reset 26 = .ok (.aload_n 0, 1) := by decide +kernel
theorem d_Md_reset_27 : decode c_Md_reset 27 = .ok (.getfield 56, 3) := by decide +kernel
theorem d_Md_reset_30 : decode c_Md_reset 30 = .ok (.iload_n 3, 1) := by decide +kernel
theorem d_Md_reset_31 : decode c_Md_reset 31 = .ok (.iaload, 1) := by decide +kernel
theorem d_Md_reset_32 : decode c_Md_reset 32 = .ok (.iload_n 1, 1) := by decide +kernel
theorem d_Md_reset_33 : decode c_Md_reset 33 = .ok (.if_icmp .ne 23, 3) := by decide +kernel
theorem d_Md_reset_36 : decode c_Md_reset 36 = .ok (.aload_n 0, 1) := by decide +kernel
theorem d_Md_reset_37 : decode c_Md_reset 37 = .ok (.getfield 121, 3) := by decide +kernel
theorem d_Md_reset_40 : decode c_Md_reset 40 = .ok (.aload_n 0, 1) := by decide +kernel
theorem d_Md_reset_41 : decode c_Md_reset 41 = .ok (.getfield 50, 3) := by decide +kernel
theorem d_Md_reset_44 : decode c_Md_reset 44 = .ok (.iload_n 3, 1) := by decide +kernel
theorem d_Md_reset_45 : decode c_Md_reset 45 = .ok (.iaload, 1) := by decide +kernel
theorem d_Md_reset_46 : decode c_Md_reset 46 = .ok (.invokestatic 117, 3) := by decide +kernel
theorem d_Md_reset_49 : decode c_Md_reset 49 = .ok (.ifCond .eq 7, 3) := by decide +kernel
theorem d_Md_reset_52 : decode c_Md_reset 52 = .ok (.iconst 1, 1) := by decide +kernel
theorem d_Md_reset_53 : decode c_Md_reset 53 = .ok (.goto 4, 3) := by decide +kernel
theorem d_Md_reset_56 : decode c_Md_reset 56 = .ok (.iconst 0, 1) := by decide +kernel
theorem d_Md_reset_57 : decode c_Md_reset 57 = .ok (.istore_n 2, 1) := by decide +kernel
theorem d_Md_reset_58 : decode c_Md_reset 58 = .ok (.iinc 3 1, 3) := by decide +kernel
theorem d_Md_reset_61 : decode c_Md_reset 61 = .ok (.goto (-57), 3) := by decide +kernel
theorem d_Md_reset_64 : decode c_Md_reset 64 = .ok (.iload_n 2, 1) := by decide +kernel
theorem d_Md_reset_65 : decode c_Md_reset 65 = .ok (.ireturn, 1) := by decide +kernel
theorem d_Md_act_0 : decode c_Md_act 0 = .ok (.aload_n 0, 1) := by decide +kernel
theorem d_Md_act_1 : decode c_Md_act 1 = .ok (.iconst 0, 1) := by decide +kernel
theorem d_Md_act_2 : decode c_Md_act 2 = .ok (.putfield 130, 3) := by decide +kernel
theorem d_Md_act_5 : decode c_Md_act 5 = .ok (.iconst 0, 1) := by decide +kernel
theorem d_Md_act_6 : decode c_Md_act 6 = .ok (.istore_n 2, 1) := by decide +kernel
theorem d_Md_act_7 : decode c_Md_act 7 = .ok (.iload_n 2, 1) := by decide +kernel
theorem d_Md_act_8 : decode c_Md_act 8 = .ok (.aload_n 0, 1) := by decide +kernel
theorem d_Md_act_9 : decode c_Md_act 9 = .ok (.getfield 110, 3) := by decide +kernel
theorem d_Md_act_12 : decode c_Md_act 12 = .ok (.if_icmp .ge 89, 3) := by decide +kernel
theorem d_Md_act_15 : decode c_Md_act 15 = .ok (.aload_n 0, 1) := by decide +kernel
theorem d_Md_act_16 : decode c_Md_act 16 = .ok (.getfield 65, 3) := by decide +kernel
theorem d_Md_act_19 : decode c_Md_act 19 = .ok (.iload_n 2, 1) := by decide +kernel
theorem d_Md_act_20 : decode c_Md_act 20 = .ok (.aload_n 0, 1) := by decide +kernel
theorem d_Md_act_21 : decode c_Md_act 21 = .ok (.getfield 62, 3) := by decide +kernel
theorem d_Md_act_24 : decode c_Md_act 24 = .ok (.iload_n 2, 1) := by decide +kernel
theorem d_Md_act_25 : decode c_Md_act 25 = .ok (.baload, 1) := by decide +kernel
theorem d_Md_act_26 : decode c_Md_act 26 = .ok (.ifCond .eq 14, 3) := by decide +kernel
theorem d_Md_act_29 : decode c_Md_act 29 = .ok (.aload_n 0, 1) := by decide +kernel
theorem d_Md_act_30 : decode c_Md_act 30 = .ok (.getfield 65, 3) := by decide +kernel
theorem d_Md_act_33 : decode c_Md_act 33 = .ok (.iload_n 2, 1) := by decide +kernel
theorem d_Md_act_34 : decode c_Md_act 34 = .ok (.iaload, 1) := by decide +kernel
theorem d_Md_act_35 : decode c_Md_act 35 = .ok (.iload_n 1, 1) := by decide +kernel
theorem d_Md_act_36 : decode c_Md_act 36 = .ok (.iadd, 1) := by decide +kernel
theorem d_Md_act_37 : decode c_Md_act 37 = .ok (.goto 4, 3) := by decide +kernel
theorem d_Md_act_40 : decode c_Md_act 40 = .ok (.iconst 0, 1) := by decide +kernel
theorem d_Md_act_41 : decode c_Md_act 41 = .ok (.iastore, 1) := by decide +kernel
theorem d_Md_act_42 : decode c_Md_act 42 = .ok (.aload_n 0, 1) := by decide +kernel
theorem d_Md_act_43 : decode c_Md_act 43 = .ok (.aload_n 0, 1) := by decide +kernel
theorem d_Md_act_44 : decode c_Md_act 44 = .ok (.getfield 56, 3) := by decide +kernel
theorem d_Md_act_47 : decode c_Md_act 47 = .ok (.iload_n 2, 1) := by decide +kernel
theorem d_Md_act_48 : decode c_Md_act 48 = .ok (.iaload, 1) := by decide +kernel
theorem d_Md_act_49 : decode c_Md_act 49 = .ok (.invokevirtual 200, 3) := by decide +kernel
theorem d_Md_act_52 : decode c_Md_act 52 = .ok (.istore_n 3, 1) := by decide +kernel
theorem d_Md_act_53 : decode c_Md_act 53 = .ok (.aload_n 0, 1) := by decide +kernel
theorem d_Md_act_54 : decode c_Md_act 54 = .ok (.iload_n 2, 1) := by decide +kernel
theorem d_Md_act_55 : decode c_Md_act 55 = .ok (.iload_n 3, 1) := by decide +kernel
theorem d_Md_act_56 : decode c_Md_act 56 = .ok (.invokevirtual 203, 3) := by decide +kernel
theorem d_Md_act_59 : decode c_Md_act 59 = .ok (.aload_n 0, 1) := by decide +kernel
theorem d_Md_act_60 : decode c_Md_act 60 = .ok (.iload_n 3, 1) := by decide +kernel
theorem d_Md_act_61 : decode c_Md_act 61 = .ok (.ifCond .ne 27, 3) := by decide +kernel
theorem d_Md_act_64 : decode c_Md_act 64 = .ok (.aload_n 0, 1) := by decide +kernel
theorem d_Md_act_65 : decode c_Md_act 65 = .ok (.iload_n 2, 1) := by decide +kernel
theorem d_Md_act_66 : decode c_Md_act 66 = .ok (.invokevirtual 207, 3) := by decide +kernel
theorem d_Md_act_69 : decode c_Md_act 69 = .ok (.ifCond .eq 19, 3) := by decide +kernel
theorem d_Md_act_72 : decode c_Md_act 72 = .ok (.aload_n 0, 1) := by decide +kernel
theorem d_Md_act_73 : decode c_Md_act 73 = .ok (.getfield 130, 3) := by decide +kernel
theorem d_Md_act_76 : decode c_Md_act 76 = .ok (.iconst 1, 1) := by decide +kernel
theorem d_Md_act_77 : decode c_Md_act 77 = .ok (.aload_n 0, 1) := by decide +kernel
theorem d_Md_act_78 : decode c_Md_act 78 = .ok (.getfield 56, 3) := by decide +kernel
theorem d_Md_act_81 : decode c_Md_act 81 = .ok (.iload_n 2, 1) := by decide +kernel
theorem d_Md_act_82 : decode c_Md_act 82 = .ok (.iaload, 1) := by decide +kernel
theorem d_Md_act_83 : decode c_Md_act 83 = .ok (.ishl, 1) := by decide +kernel
theorem d_Md_act_84 : decode c_Md_act 84 = .ok (.ior, 1) := by decide +kernel
theorem d_Md_act_85 : decode c_Md_act 85 = .ok (.goto 7, 3) := by decide +kernel
theorem d_Md_act_88 : decode c_Md_act 88 = .ok (.aload_n 0, 1) := by decide +kernel
theorem d_Md_act_89 : decode c_Md_act 89 = .ok (.getfield 130, 3) := by decide +kernel
theorem d_Md_act_92 : decode c_Md_act 92 = .ok (.putfield 130, 3) := by decide +kernel
theorem d_Md_act_95 : decode c_Md_act 95 = .ok (.iinc 2 1, 3) := by decide +kernel
theorem d_Md_act_98 : decode c_Md_act 98 = .ok (.goto (-91), 3) := by decide +kernel
theorem d_Md_act_101 : decode c_Md_act 101 = .ok (.return_, 1) := by decide +kernel
theorem d_Md_store_0 : decode c_Md_store 0 = .ok (.aload_n 0, 1) := by decide +kernel
theorem d_Md_store_1 : decode c_Md_store 1 = .ok (.getfield 53, 3) := by decide +kernel
theorem d_Md_store_4 : decode c_Md_store 4 = .ok (.iload_n 1, 1) := by decide +kernel
theorem d_Md_store_5 : decode c_Md_store 5 = .ok (.iaload, 1) := by decide +kernel
theorem d_Md_store_6 : decode c_Md_store 6 = .ok (.istore_n 3, 1) := by decide +kernel
theorem d_Md_store_7 : decode c_Md_store 7 = .ok (.aload_n 0, 1) := by decide +kernel
theorem d_Md_store_8 : decode c_Md_store 8 = .ok (.getfield 121, 3) := by decide +kernel
theorem d_Md_store_11 : decode c_Md_store 11 = .ok (.aload_n 0, 1) := by decide +kernel
theorem d_Md_store_12 : decode c_Md_store 12 = .ok (.getfield 50, 3) := by decide +kernel
theorem d_Md_store_15 : decode c_Md_store 15 = .ok (.iload_n 1, 1) := by decide +kernel
theorem d_Md_store_16 : decode c_Md_store 16 = .ok (.iaload, 1) := by decide +kernel
theorem d_Md_store_17 : decode c_Md_store 17 = .ok (.invokestatic 117, 3) := by decide +kernel
theorem d_Md_store_20 : decode c_Md_store 20 = .ok (.istore 4, 2) := by decide +kernel
theorem d_Md_store_22 : decode c_Md_store 22 = .ok (.iload_n 2, 1) := by decide +kernel
theorem d_Md_store_23 : decode c_Md_store 23 = .ok (.ifCond .eq 13, 3) := by decide +kernel
theorem d_Md_store_26 : decode c_Md_store 26 = .ok (.aload_n 0, 1) := by decide +kernel
theorem d_Md_store_27 : decode c_Md_store 27 = .ok (.getfield 62, 3) := by decide +kernel
theorem d_Md_store_30 : decode c_Md_store 30 = .ok (.iload_n 1, 1) := by decide +kernel
theorem d_Md_store_31 : decode c_Md_store 31 = .ok (.iconst 0, 1) := by decide +kernel
theorem d_Md_store_32 : decode c_Md_store 32 = .ok (.bastore, 1) := by decide +kernel
theorem d_Md_store_33 : decode c_Md_store 33 = .ok (.goto 102, 3) := by decide +kernel
theorem d_Md_store_36 : decode c_Md_store 36 = .ok (.iload_n 3, 1) := by decide +kernel
theorem d_Md_store_37 : decode c_Md_store 37 = .ok (.bipush 8, 2) := by decide +kernel
theorem d_Md_store_39 : decode c_Md_store 39 = .ok (.if_icmp .ne 51, 3) := by decide +kernel
theorem d_Md_store_42 : decode c_Md_store 42 = .ok (.aload_n 0, 1) := by decide +kernel
theorem d_Md_store_43 : decode c_Md_store 43 = .ok (.getfield 62, 3) := by decide +kernel
theorem d_Md_store_46 : decode c_Md_store 46 = .ok (.iload_n 1, 1) := by decide +kernel
theorem d_Md_store_47 : decode c_Md_store 47 = .ok (.aload_n 0, 1) := by decide +kernel
theorem d_Md_store_48 : decode c_Md_store 48 = .ok (.getfield 62, 3) := by decide +kernel
theorem d_Md_store_51 : decode c_Md_store 51 = .ok (.iload_n 1, 1) := by decide +kernel
theorem d_Md_store_52 : decode c_Md_store 52 = .ok (.baload, 1) := by decide +kernel
theorem d_Md_store_53 : decode c_Md_store 53 = .ok (.ifCond .ne 28, 3) := by decide +kernel
theorem d_Md_store_56 : decode c_Md_store 56 = .ok (.iload 4, 2) := by decide +kernel
theorem d_Md_store_58 : decode c_Md_store 58 = .ok (.ifCond .eq 27, 3) := by decide +kernel
theorem d_Md_store_61 : decode c_Md_store 61 = .ok (.aload_n 0, 1) := by decide +kernel
theorem d_Md_store_62 : decode c_Md_store 62 = .ok (.getfield 68, 3) := by decide +kernel
theorem d_Md_store_65 : decode c_Md_store 65 = .ok (.aload_n 0, 1) := by decide +kernel
theorem d_Md_store_66 : decode c_Md_store 66 = .ok (.getfield 50, 3) := by decide +kernel
theorem d_Md_store_69 : decode c_Md_store 69 = .ok (.iload_n 1, 1) := by decide +kernel
theorem d_Md_store_70 : decode c_Md_store 70 = .ok (.iaload, 1) := by decide +kernel
theorem d_Md_store_71 : decode c_Md_store 71 = .ok (.iaload, 1) := by decide +kernel
theorem d_Md_store_72 : decode c_Md_store 72 = .ok (.aload_n 0, 1) := by decide +kernel
theorem d_Md_store_73 : decode c_Md_store 73 = .ok (.getfield 59, 3) := by decide +kernel
theorem d_Md_store_76 : decode c_Md_store 76 = .ok (.iload_n 1, 1) := by decide +kernel
theorem d_Md_store_77 : decode c_Md_store 77 = .ok (.iaload, 1) := by decide +kernel
theorem d_Md_store_78 : decode c_Md_store 78 = .ok (.if_icmp .lt 7, 3) := by decide +kernel
theorem d_Md_store_81 : decode c_Md_store 81 = .ok (.iconst 1, 1) := by decide +kernel
theorem d_Md_store_82 : decode c_Md_store 82 = .ok (.goto 4, 3) := by decide +kernel
theorem d_Md_store_85 : decode c_Md_store 85 = .ok (.iconst 0, 1) := by decide +kernel
theorem d_Md_store_86 : decode c_Md_store 86 = .ok (.bastore, 1) := by decide +kernel
theorem d_Md_store_87 : decode c_Md_store 87 = .ok (.goto 48, 3) := by decide +kernel
theorem d_Md_store_90 : decode c_Md_store 90 = .ok (.iload_n 3, 1) := by decide +kernel
theorem d_Md_store_91 : decode c_Md_store 91 = .ok (.iconst 2, 1) := by decide +kernel
theorem d_Md_store_92 : decode c_Md_store 92 = .ok (.if_icmp .eq 15, 3) := by decide +kernel
theorem d_Md_store_95 : decode c_Md_store 95 = .ok (.iload_n 3, 1) := by decide +kernel
theorem d_Md_store_96 : decode c_Md_store 96 = .ok (.bipush 7, 2) := by decide +kernel
theorem d_Md_store_98 : decode c_Md_store 98 = .ok (.if_icmp .eq 9, 3) := by decide +kernel
theorem d_Md_store_101 : decode c_Md_store 101 = .ok (.iload_n 3, 1) := by decide +kernel
theorem d_Md_store_102 : decode c_Md_store 102 = .ok (.bipush 9, 2) := by decide +kernel
theorem d_Md_store_104 : decode c_Md_store 104 = .ok (.if_icmp .ne 31, 3) := by decide +kernel
theorem d_Md_store_107 : decode c_Md_store 107 = .ok (.iload 4, 2) := by decide +kernel
theorem d_Md_store_109 : decode c_Md_store 109 = .ok (.ifCond .eq 26, 3) := by decide +kernel
theorem d_Md_store_112 : decode c_Md_store 112 = .ok (.aload_n 0, 1) := by decide +kernel
theorem d_Md_store_113 : decode c_Md_store 113 = .ok (.getfield 62, 3) := by decide +kernel
theorem d_Md_store_116 : decode c_Md_store 116 = .ok (.iload_n 1, 1) := by decide +kernel
theorem d_Md_store_117 : decode c_Md_store 117 = .ok (.baload, 1) := by decide +kernel
theorem d_Md_store_118 : decode c_Md_store 118 = .ok (.ifCond .ne 17, 3) := by decide +kernel
theorem d_Md_store_121 : decode c_Md_store 121 = .ok (.aload_n 0, 1) := by decide +kernel
theorem d_Md_store_122 : decode c_Md_store 122 = .ok (.getfield 62, 3) := by decide +kernel
theorem d_Md_store_125 : decode c_Md_store 125 = .ok (.iload_n 1, 1) := by decide +kernel
theorem d_Md_store_126 : decode c_Md_store 126 = .ok (.iconst 1, 1) := by decide +kernel
theorem d_Md_store_127 : decode c_Md_store 127 = .ok (.bastore, 1) := by decide +kernel
theorem d_Md_store_128 : decode c_Md_store 128 = .ok (.aload_n 0, 1) := by decide +kernel
theorem d_Md_store_129 : decode c_Md_store 129 = .ok (.getfield 65, 3) := by decide +kernel
theorem d_Md_store_132 : decode c_Md_store 132 = .ok (.iload_n 1, 1) := by decide +kernel
theorem d_Md_store_133 : decode c_Md_store 133 = .ok (.iconst 0, 1) := by decide +kernel
theorem d_Md_store_134 : decode c_Md_store 134 = .ok (.iastore, 1) := by decide +kernel
theorem d_Md_store_135 : decode c_Md_store 135 = .ok (.return_, 1) := by decide +kernel
theorem d_Md_acts_0 : decode c_Md_acts 0 = .ok (.aload_n 0, 1) := by decide +kernel
theorem d_Md_acts_1 : decode c_Md_acts 1 = .ok (.getfield 53, 3) := by decide +kernel
theorem d_Md_acts_4 : decode c_Md_acts 4 = .ok (.iload_n 1, 1) := by decide +kernel
theorem d_Md_acts_5 : decode c_Md_acts 5 = .ok (.iaload, 1) := by decide +kernel
theorem d_Md_acts_6 : decode c_Md_acts 6 = .ok (.istore_n 2, 1) := by decide +kernel
theorem d_Md_acts_7 : decode c_Md_acts 7 = .ok (.aload_n 0, 1) := by decide +kernel
theorem d_Md_acts_8 : decode c_Md_acts 8 = .ok (.getfield 121, 3) := by decide +kernel
theorem d_Md_acts_11 : decode c_Md_acts 11 = .ok (.aload_n 0, 1) := by decide +kernel
theorem d_Md_acts_12 : decode c_Md_acts 12 = .ok (.getfield 50, 3) := by decide +kernel
theorem d_Md_acts_15 : decode c_Md_acts 15 = .ok (.iload_n 1, 1) := by decide +kernel
theorem d_Md_acts_16 : decode c_Md_acts 16 = .ok (.iaload, 1) := by decide +kernel
theorem d_Md_acts_17 : decode c_Md_acts 17 = .ok (.invokestatic 117, 3) := by decide +kernel
theorem d_Md_acts_20 : decode c_Md_acts 20 = .ok (.istore_n 3, 1) := by decide +kernel
theorem d_Md_acts_21 : decode c_Md_acts 21 = .ok (.aload_n 0, 1) := by decide +kernel
theorem d_Md_acts_22 : decode c_Md_acts 22 = .ok (.getfield 124, 3) := by decide +kernel
theorem d_Md_acts_25 : decode c_Md_acts 25 = .ok (.aload_n 0, 1) := by decide +kernel
theorem d_Md_acts_26 : decode c_Md_acts 26 = .ok (.getfield 50, 3) := by decide +kernel
theorem d_Md_acts_29 : decode c_Md_acts 29 = .ok (.iload_n 1, 1) := by decide +kernel
theorem d_Md_acts_30 : decode c_Md_acts 30 = .ok (.iaload, 1) := by decide +kernel
theorem d_Md_acts_31 : decode c_Md_acts 31 = .ok (.invokestatic 117, 3) := by decide +kernel
theorem d_Md_acts_34 : decode c_Md_acts 34 = .ok (.istore 4, 2) := by decide +kernel
theorem d_Md_acts_36 : decode c_Md_acts 36 = .ok (.aload_n 0, 1) := by decide +kernel
theorem d_Md_acts_37 : decode c_Md_acts 37 = .ok (.getfield 68, 3) := by decide +kernel
theorem d_Md_acts_40 : decode c_Md_acts 40 = .ok (.aload_n 0, 1) := by decide +kernel
theorem d_Md_acts_41 : decode c_Md_acts 41 = .ok (.getfield 50, 3) := by decide +kernel
theorem d_Md_acts_44 : decode c_Md_acts 44 = .ok (.iload_n 1, 1) := by decide +kernel
theorem d_Md_acts_45 : decode c_Md_acts 45 = .ok (.iaload, 1) := by decide +kernel
theorem d_Md_acts_46 : decode c_Md_acts 46 = .ok (.iaload, 1) := by decide +kernel
theorem d_Md_acts_47 : decode c_Md_acts 47 = .ok (.aload_n 0, 1) := by decide +kernel
theorem d_Md_acts_48 : decode c_Md_acts 48 = .ok (.getfield 59, 3) := by decide +kernel
theorem d_Md_acts_51 : decode c_Md_acts 51 = .ok (.iload_n 1, 1) := by decide +kernel
theorem d_Md_acts_52 : decode c_Md_acts 52 = .ok (.iaload, 1) := by decide +kernel
theorem d_Md_acts_53 : decode c_Md_acts 53 = .ok (.if_icmp .lt 7, 3) := by decide +kernel
theorem d_Md_acts_56 : decode c_Md_acts 56 = .ok (.iconst 1, 1) := by decide +kernel
theorem d_Md_acts_57 : decode c_Md_acts 57 = .ok (.goto 4, 3) := by decide +kernel
theorem d_Md_acts_60 : decode c_Md_acts 60 = .ok (.iconst 0, 1) := by decide +kernel
theorem d_Md_acts_61 : decode c_Md_acts 61 = .ok (.istore 5, 2) := by decide +kernel
theorem d_Md_acts_63 : decode c_Md_acts 63 = .ok (.aload_n 0, 1) := by decide +kernel
theorem d_Md_acts_64 : decode c_Md_acts 64 = .ok (.getfield 65, 3) := by decide +kernel
theorem d_Md_acts_67 : decode c_Md_acts 67 = .ok (.iload_n 1, 1) := by decide +kernel
theorem d_Md_acts_68 : decode c_Md_acts 68 = .ok (.iaload, 1) := by decide +kernel
theorem d_Md_acts_69 : decode c_Md_acts 69 = .ok (.aload_n 0, 1) := by decide +kernel
theorem d_Md_acts_70 : decode c_Md_acts 70 = .ok (.getfield 59, 3) := by decide +kernel
theorem d_Md_acts_73 : decode c_Md_acts 73 = .ok (.iload_n 1, 1) := by decide +kernel
theorem d_Md_acts_74 : decode c_Md_acts 74 = .ok (.iaload, 1) := by decide +kernel
theorem d_Md_acts_75 : decode c_Md_acts 75 = .ok (.if_icmp .lt 7, 3) := by decide +kernel
theorem d_Md_acts_78 : decode c_Md_acts 78 = .ok (.iconst 1, 1) := by decide +kernel
theorem d_Md_acts_79 : decode c_Md_acts 79 = .ok (.goto 4, 3) := by decide +kernel
theorem d_Md_acts_82 : decode c_Md_acts 82 = .ok (.iconst 0, 1) := by decide +kernel
theorem d_Md_acts_83 : decode c_Md_acts 83 = .ok (.istore 6, 2) := by decide +kernel
theorem d_Md_acts_85 : decode c_Md_acts 85 = .ok (.iload_n 2, 1) := by decide +kernel
theorem d_Md_acts_86 : decode c_Md_acts 86 = .ok (.ifCond .ne 5, 3) := by decide +kernel
theorem d_Md_acts_89 : decode c_Md_acts 89 = .ok (.iload_n 3, 1) := by decide +kernel
theorem d_Md_acts_90 : decode c_Md_acts 90 = .ok (.ireturn, 1) := by decide +kernel
theorem d_Md_acts_91 : decode c_Md_acts 91 = .ok (.iload_n 2, 1) := by decide +kernel
theorem d_Md_acts_92 : decode c_Md_acts 92 = .ok (.iconst 2, 1) := by decide +kernel
theorem d_Md_acts_93 : decode c_Md_acts 93 = .ok (.if_icmp .eq 9, 3) := by decide +kernel
theorem d_Md_acts_96 : decode c_Md_acts 96 = .ok (.iload_n 2, 1) := by decide +kernel
theorem d_Md_acts_97 : decode c_Md_acts 97 = .ok (.bipush 8, 2) := by decide +kernel
theorem d_Md_acts_99 : decode c_Md_acts 99 = .ok (.if_icmp .ne 10, 3) := by decide +kernel
theorem d_Md_acts_102 : decode c_Md_acts 102 = .ok (.aload_n 0, 1) := by decide +kernel
theorem d_Md_acts_103 : decode c_Md_acts 103 = .ok (.getfield 62, 3) := by decide +kernel
theorem d_Md_acts_106 : decode c_Md_acts 106 = .ok (.iload_n 1, 1) := by decide +kernel
theorem d_Md_acts_107 : decode c_Md_acts 107 = .ok (.baload, 1) := by decide +kernel
theorem d_Md_acts_108 : decode c_Md_acts 108 = .ok (.ireturn, 1) := by decide +kernel
theorem d_Md_acts_109 : decode c_Md_acts 109 = .ok (.iload_n 2, 1) := by decide +kernel
theorem d_Md_acts_110 : decode c_Md_acts 110 = .ok (.iconst 3, 1) := by decide +kernel
theorem d_Md_acts_111 : decode c_Md_acts 111 = .ok (.if_icmp .ne 18, 3) := by decide +kernel
theorem d_Md_acts_114 : decode c_Md_acts 114 = .ok (.iload_n 3, 1) := by decide +kernel
theorem d_Md_acts_115 : decode c_Md_acts 115 = .ok (.ifCond .eq 12, 3) := by decide +kernel
theorem d_Md_acts_118 : decode c_Md_acts 118 = .ok (.iload 5, 2) := by decide +kernel
theorem d_Md_acts_120 : decode c_Md_acts 120 = .ok (.ifCond .ne 7, 3) := by decide +kernel
theorem d_Md_acts_123 : decode c_Md_acts 123 = .ok (.iconst 1, 1) := by decide +kernel
theorem d_Md_acts_124 : decode c_Md_acts 124 = .ok (.goto 4, 3) := by decide +kernel
theorem d_Md_acts_127 : decode c_Md_acts 127 = .ok (.iconst 0, 1) := by decide +kernel
theorem d_Md_acts_128 : decode c_Md_acts 128 = .ok (.ireturn, 1) := by decide +kernel
theorem d_Md_acts_129 : decode c_Md_acts 129 = .ok (.iload_n 2, 1) := by decide +kernel
theorem d_Md_acts_130 : decode c_Md_acts 130 = .ok (.iconst 4, 1) := by decide +kernel
theorem d_Md_acts_131 : decode c_Md_acts 131 = .ok (.if_icmp .ne 18, 3) := by decide +kernel
theorem d_Md_acts_134 : decode c_Md_acts 134 = .ok (.iload_n 3, 1) := by decide +kernel
theorem d_Md_acts_135 : decode c_Md_acts 135 = .ok (.ifCond .eq 12, 3) := by decide +kernel
theorem d_Md_acts_138 : decode c_Md_acts 138 = .ok (.iload 5, 2) := by decide +kernel
theorem d_Md_acts_140 : decode c_Md_acts 140 = .ok (.ifCond .eq 7, 3) := by decide +kernel
theorem d_Md_acts_143 : decode c_Md_acts 143 = .ok (.iconst 1, 1) := by decide +kernel
theorem d_Md_acts_144 : decode c_Md_acts 144 = .ok (.goto 4, 3) := by decide +kernel
theorem d_Md_acts_147 : decode c_Md_acts 147 = .ok (.iconst 0, 1) := by decide +kernel
theorem d_Md_acts_148 : decode c_Md_acts 148 = .ok (.ireturn, 1) := by decide +kernel
theorem d_Md_acts_149 : decode c_Md_acts 149 = .ok (.iload_n 2, 1) := by decide +kernel
theorem d_Md_acts_150 : decode c_Md_acts 150 = .ok (.iconst 5, 1) := by decide +kernel
theorem d_Md_acts_151 : decode c_Md_acts 151 = .ok (.if_icmp .ne 18, 3) := by decide +kernel
theorem d_Md_acts_154 : decode c_Md_acts 154 = .ok (.iload_n 3, 1) := by decide +kernel
theorem d_Md_acts_155 : decode c_Md_acts 155 = .ok (.ifCond .eq 12, 3) := by decide +kernel
theorem d_Md_acts_158 : decode c_Md_acts 158 = .ok (.iload 4, 2) := by decide +kernel
theorem d_Md_acts_160 : decode c_Md_acts 160 = .ok (.ifCond .ne 7, 3) := by decide +kernel
theorem d_Md_acts_163 : decode c_Md_acts 163 = .ok (.iconst 1, 1) := by decide +kernel
theorem d_Md_acts_164 : decode c_Md_acts 164 = .ok (.goto 4, 3) := by decide +kernel
theorem d_Md_acts_167 : decode c_Md_acts 167 = .ok (.iconst 0, 1) := by decide +kernel
theorem d_Md_acts_168 : decode c_Md_acts 168 = .ok (.ireturn, 1) := by decide +kernel
theorem d_Md_acts_169 : decode c_Md_acts 169 = .ok (.iload_n 2, 1) := by decide +kernel
theorem d_Md_acts_170 : decode c_Md_acts 170 = .ok (.bipush 6, 2) := by decide +kernel
theorem d_Md_acts_172 : decode c_Md_acts 172 = .ok (.if_icmp .ne 18, 3) := by decide +kernel
theorem d_Md_acts_175 : decode c_Md_acts 175 = .ok (.iload 4, 2) := by decide +kernel
theorem d_Md_acts_177 : decode c_Md_acts 177 = .ok (.ifCond .eq 11, 3) := by decide +kernel
theorem d_Md_acts_180 : decode c_Md_acts 180 = .ok (.iload_n 3, 1) := by decide +kernel
theorem d_Md_acts_181 : decode c_Md_acts 181 = .ok (.ifCond .ne 7, 3) := by decide +kernel
theorem d_Md_acts_184 : decode c_Md_acts 184 = .ok (.iconst 1, 1) := by decide +kernel
theorem d_Md_acts_185 : decode c_Md_acts 185 = .ok (.goto 4, 3) := by decide +kernel
theorem d_Md_acts_188 : decode c_Md_acts 188 = .ok (.iconst 0, 1) := by decide +kernel
theorem d_Md_acts_189 : decode c_Md_acts 189 = .ok (.ireturn, 1) := by decide +kernel
theorem d_Md_acts_190 : decode c_Md_acts 190 = .ok (.iload_n 2, 1) := by decide +kernel
theorem d_Md_acts_191 : decode c_Md_acts 191 = .ok (.bipush 7, 2) := by decide +kernel
theorem d_Md_acts_193 : decode c_Md_acts 193 = .ok (.if_icmp .ne 23, 3) := by decide +kernel
theorem d_Md_acts_196 : decode c_Md_acts 196 = .ok (.aload_n 0, 1) := by decide +kernel
theorem d_Md_acts_197 : decode c_Md_acts 197 = .ok (.getfield 62, 3) := by decide +kernel
theorem d_Md_acts_200 : decode c_Md_acts 200 = .ok (.iload_n 1, 1) := by decide +kernel
theorem d_Md_acts_201 : decode c_Md_acts 201 = .ok (.baload, 1) := by decide +kernel
theorem d_Md_acts_202 : decode c_Md_acts 202 = .ok (.ifCond .eq 12, 3) := by decide +kernel
theorem d_Md_acts_205 : decode c_Md_acts 205 = .ok (.iload 6, 2) := by decide +kernel
theorem d_Md_acts_207 : decode c_Md_acts 207 = .ok (.ifCond .eq 7, 3) := by decide +kernel
theorem d_Md_acts_210 : decode c_Md_acts 210 = .ok (.iconst 1, 1) := by decide +kernel
theorem d_Md_acts_211 : decode c_Md_acts 211 = .ok (.goto 4, 3) := by decide +kernel
theorem d_Md_acts_214 : decode c_Md_acts 214 = .ok (.iconst 0, 1) := by decide +kernel
theorem d_Md_acts_215 : decode c_Md_acts 215 = .ok (.ireturn, 1) := by decide +kernel
theorem d_Md_acts_216 : decode c_Md_acts 216 = .ok (.iload_n 2, 1) := by decide +kernel
theorem d_Md_acts_217 : decode c_Md_acts 217 = .ok (.bipush 9, 2) := by decide +kernel
theorem d_Md_acts_219 : decode c_Md_acts 219 = .ok (.if_icmp .ne 21, 3) := by decide +kernel
theorem d_Md_acts_222 : decode c_Md_acts 222 = .ok (.aload_n 0, 1) := by decide +kernel
theorem d_Md_acts_223 : decode c_Md_acts 223 = .ok (.getfield 62, 3) := by decide +kernel
theorem d_Md_acts_226 : decode c_Md_acts 226 = .ok (.iload_n 1, 1) := by decide +kernel
theorem d_Md_acts_227 : decode c_Md_acts 227 = .ok (.baload, 1) := by decide +kernel
theorem d_Md_acts_228 : decode c_Md_acts 228 = .ok (.ifCond .eq 12, 3) := by decide +kernel
theorem d_Md_acts_231 : decode c_Md_acts 231 = .ok (.iload 6, 2) := by decide +kernel
theorem d_Md_acts_233 : decode c_Md_acts 233 = .ok (.ifCond .ne 7, 3) := by decide +kernel
theorem d_Md_acts_236 : decode c_Md_acts 236 = .ok (.iconst 1, 1) := by decide +kernel
theorem d_Md_acts_237 : decode c_Md_acts 237 = .ok (.goto 4, 3) := by decide +kernel
theorem d_Md_acts_240 : decode c_Md_acts 240 = .ok (.iconst 0, 1) := by decide +kernel
theorem d_Md_acts_241 : decode c_Md_acts 241 = .ok (.ireturn, 1) := by decide +kernel
theorem d_Md_active_0 : decode c_Md_active 0 = .ok (.aload_n 0, 1) := by decide +kernel
theorem d_Md_active_1 : decode c_Md_active 1 = .ok (.getfield 121, 3) := by decide +kernel
theorem d_Md_active_4 : decode c_Md_active 4 = .ok (.ireturn, 1) := by decide +kernel
theorem d_Md_time_0 : decode c_Md_time 0 = .ok (.aload_n 0, 1) := by decide +kernel
theorem d_Md_time_1 : decode c_Md_time 1 = .ok (.iload_n 1, 1) := by decide +kernel
theorem d_Md_time_2 : decode c_Md_time 2 = .ok (.invokevirtual 88, 3) := by decide +kernel
theorem d_Md_time_5 : decode c_Md_time 5 = .ok (.ifCond .eq 12, 3) := by decide +kernel
theorem d_Md_time_8 : decode c_Md_time 8 = .ok (.aload_n 0, 1) := by decide +kernel
theorem d_Md_time_9 : decode c_Md_time 9 = .ok (.getfield 68, 3) := by decide +kernel
theorem d_Md_time_12 : decode c_Md_time 12 = .ok (.iload_n 1, 1) := by decide +kernel
theorem d_Md_time_13 : decode c_Md_time 13 = .ok (.iaload, 1) := by decide +kernel
theorem d_Md_time_14 : decode c_Md_time 14 = .ok (.goto 4, 3) := by decide +kernel
theorem d_Md_time_17 : decode c_Md_time 17 = .ok (.iconst 0, 1) := by decide +kernel
theorem d_Md_time_18 : decode c_Md_time 18 = .ok (.ireturn, 1) := by decide +kernel
theorem d_Md_enabled_0 : decode c_Md_enabled 0 = .ok (.iconst 0, 1) := by decide +kernel
theorem d_Md_enabled_1 : decode c_Md_enabled 1 = .ok (.istore_n 1, 1) := by decide +kernel
theorem d_Md_enabled_2 : decode c_Md_enabled 2 = .ok (.iconst 0, 1) := by decide +kernel
theorem d_Md_enabled_3 : decode c_Md_enabled 3 = .ok (.istore_n 2, 1) := by decide +kernel
theorem d_Md_enabled_4 : decode c_Md_enabled 4 = .ok (.iload_n 2, 1) := by decide +kernel
theorem d_Md_enabled_5 : decode c_Md_enabled 5 = .ok (.aload_n 0, 1) := by decide +kernel
theorem d_Md_enabled_6 : decode c_Md_enabled 6 = .ok (.getfield 100, 3) := by decide +kernel
theorem d_Md_enabled_9 : decode c_Md_enabled 9 = .ok (.if_icmp .ge 27, 3) := by decide +kernel
theorem d_Md_enabled_12 : decode c_Md_enabled 12 = .ok (.aload_n 0, 1) := by decide +kernel
theorem d_Md_enabled_13 : decode c_Md_enabled 13 = .ok (.iload_n 2, 1) := by decide +kernel
theorem d_Md_enabled_14 : decode c_Md_enabled 14 = .ok (.invokevirtual 176, 3) := by decide +kernel
theorem d_Md_enabled_17 : decode c_Md_enabled 17 = .ok (.ifCond .eq 11, 3) := by decide +kernel
theorem d_Md_enabled_20 : decode c_Md_enabled 20 = .ok (.iload_n 1, 1) := by decide +kernel
theorem d_Md_enabled_21 : decode c_Md_enabled 21 = .ok (.iconst 1, 1) := by decide +kernel
theorem d_Md_enabled_22 : decode c_Md_enabled 22 = .ok (.iload_n 2, 1) := by decide +kernel
theorem d_Md_enabled_23 : decode c_Md_enabled 23 = .ok (.ishl, 1) := by decide +kernel
theorem d_Md_enabled_24 : decode c_Md_enabled 24 = .ok (.ior, 1) := by decide +kernel
theorem d_Md_enabled_25 : decode c_Md_enabled 25 = .ok (.goto 4, 3) := by decide +kernel
theorem d_Md_enabled_28 : decode c_Md_enabled 28 = .ok (.iload_n 1, 1) := by decide +kernel
theorem d_Md_enabled_29 : decode c_Md_enabled 29 = .ok (.istore_n 1, 1) := by decide +kernel
theorem d_Md_enabled_30 : decode c_Md_enabled 30 = .ok (.iinc 2 1, 3) := by decide +kernel
theorem d_Md_enabled_33 : decode c_Md_enabled 33 = .ok (.goto (-29), 3) := by decide +kernel
theorem d_Md_enabled_36 : decode c_Md_enabled 36 = .ok (.iload_n 1, 1) := by decide +kernel
theorem d_Md_enabled_37 : decode c_Md_enabled 37 = .ok (.ireturn, 1) := by decide +kernel
theorem d_Md_outputs_0 : decode c_Md_outputs 0 = .ok (.aload_n 0, 1) := by decide +kernel
theorem d_Md_outputs_1 : decode c_Md_outputs 1 = .ok (.getfield 130, 3) := by decide +kernel
theorem d_Md_outputs_4 : decode c_Md_outputs 4 = .ok (.ireturn, 1) := by decide +kernel
theorem d_Md_stored_0 : decode c_Md_stored 0 = .ok (.iload_n 1, 1) := by decide +kernel
theorem d_Md_stored_1 : decode c_Md_stored 1 = .ok (.ifCond .lt 24, 3) := by decide +kernel
theorem d_Md_stored_4 : decode c_Md_stored 4 = .ok (.iload_n 1, 1) := by decide +kernel
theorem d_Md_stored_5 : decode c_Md_stored 5 = .ok (.aload_n 0, 1) := by decide +kernel
theorem d_Md_stored_6 : decode c_Md_stored 6 = .ok (.getfield 110, 3) := by decide +kernel
theorem d_Md_stored_9 : decode c_Md_stored 9 = .ok (.if_icmp .ge 16, 3) := by decide +kernel
theorem d_Md_stored_12 : decode c_Md_stored 12 = .ok (.aload_n 0, 1) := by decide +kernel
theorem d_Md_stored_13 : decode c_Md_stored 13 = .ok (.getfield 62, 3) := by decide +kernel
theorem d_Md_stored_16 : decode c_Md_stored 16 = .ok (.iload_n 1, 1) := by decide +kernel
theorem d_Md_stored_17 : decode c_Md_stored 17 = .ok (.baload, 1) := by decide +kernel
theorem d_Md_stored_18 : decode c_Md_stored 18 = .ok (.ifCond .eq 7, 3) := by decide +kernel
theorem d_Md_stored_21 : decode c_Md_stored 21 = .ok (.iconst 1, 1) := by decide +kernel
theorem d_Md_stored_22 : decode c_Md_stored 22 = .ok (.goto 4, 3) := by decide +kernel
theorem d_Md_stored_25 : decode c_Md_stored 25 = .ok (.iconst 0, 1) := by decide +kernel
theorem d_Md_stored_26 : decode c_Md_stored 26 = .ok (.ireturn, 1) := by decide +kernel
theorem d_Md_evolutions_0 : decode c_Md_evolutions 0 = .ok (.aload_n 0, 1) := by decide +kernel
theorem d_Md_evolutions_1 : decode c_Md_evolutions 1 = .ok (.getfield 133, 3) := by decide +kernel
theorem d_Md_evolutions_4 : decode c_Md_evolutions 4 = .ok (.ireturn, 1) := by decide +kernel
theorem d_Md_cleared_0 : decode c_Md_cleared 0 = .ok (.aload_n 0, 1) := by decide +kernel
theorem d_Md_cleared_1 : decode c_Md_cleared 1 = .ok (.getfield 136, 3) := by decide +kernel
theorem d_Md_cleared_4 : decode c_Md_cleared 4 = .ok (.ireturn, 1) := by decide +kernel
theorem d_Md_lead_0 : decode c_Md_lead 0 = .ok (.aload_n 0, 1) := by decide +kernel
theorem d_Md_lead_1 : decode c_Md_lead 1 = .ok (.getfield 139, 3) := by decide +kernel
theorem d_Md_lead_4 : decode c_Md_lead 4 = .ok (.ireturn, 1) := by decide +kernel
theorem d_Md_period_0 : decode c_Md_period 0 = .ok (.aload_n 0, 1) := by decide +kernel
theorem d_Md_period_1 : decode c_Md_period 1 = .ok (.getfield 142, 3) := by decide +kernel
theorem d_Md_period_4 : decode c_Md_period 4 = .ok (.ireturn, 1) := by decide +kernel
