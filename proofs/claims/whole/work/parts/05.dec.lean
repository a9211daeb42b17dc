theorem dX11_jump_30 : decode cX11_jump 30 = .ok (.iload 4, 2) := by decide +kernel
theorem dX11_jump_32 : decode cX11_jump 32 = .ok (.i2l, 1) := by decide +kernel
theorem dX11_jump_33 : decode cX11_jump 33 = .ok (.lconst 0, 1) := by decide +kernel
theorem dX11_jump_34 : decode cX11_jump 34 = .ok (.aload_n 0, 1) := by decide +kernel
theorem dX11_jump_35 : decode cX11_jump 35 = .ok (.getfield 170, 3) := by decide +kernel
theorem dX11_jump_38 : decode cX11_jump 38 = .ok (.iconst 1, 1) := by decide +kernel
theorem dX11_jump_39 : decode cX11_jump 39 = .ok (.isub, 1) := by decide +kernel
theorem dX11_jump_40 : decode cX11_jump 40 = .ok (.i2l, 1) := by decide +kernel
theorem dX11_jump_41 : decode cX11_jump 41 = .ok (.invokestatic 65, 3) := by decide +kernel
theorem dX11_jump_44 : decode cX11_jump 44 = .ok (.ifCond .eq 13, 3) := by decide +kernel
theorem dX11_jump_47 : decode cX11_jump 47 = .ok (.aload_n 0, 1) := by decide +kernel
theorem dX11_jump_48 : decode cX11_jump 48 = .ok (.getfield 34, 3) := by decide +kernel
theorem dX11_jump_51 : decode cX11_jump 51 = .ok (.iload 4, 2) := by decide +kernel
theorem dX11_jump_53 : decode cX11_jump 53 = .ok (.iaload, 1) := by decide +kernel
theorem dX11_jump_54 : decode cX11_jump 54 = .ok (.goto 5, 3) := by decide +kernel
theorem dX11_jump_57 : decode cX11_jump 57 = .ok (.bipush (-9), 2) := by decide +kernel
theorem dX11_jump_59 : decode cX11_jump 59 = .ok (.ireturn, 1) := by decide +kernel
theorem dX11_curve_0 : decode cX11_curve 0 = .ok (.iload_n 1, 1) := by decide +kernel
theorem dX11_curve_1 : decode cX11_curve 1 = .ok (.iload_n 2, 1) := by decide +kernel
theorem dX11_curve_2 : decode cX11_curve 2 = .ok (.invokestatic 124, 3) := by decide +kernel
theorem dX11_curve_5 : decode cX11_curve 5 = .ok (.ifCond .eq 15, 3) := by decide +kernel
theorem dX11_curve_8 : decode cX11_curve 8 = .ok (.iload_n 3, 1) := by decide +kernel
theorem dX11_curve_9 : decode cX11_curve 9 = .ok (.i2l, 1) := by decide +kernel
theorem dX11_curve_10 : decode cX11_curve 10 = .ok (.lconst 0, 1) := by decide +kernel
theorem dX11_curve_11 : decode cX11_curve 11 = .ok (.ldc2_w 122, 3) := by decide +kernel
theorem dX11_curve_14 : decode cX11_curve 14 = .ok (.invokestatic 65, 3) := by decide +kernel
theorem dX11_curve_17 : decode cX11_curve 17 = .ok (.ifCond .ne 6, 3) := by decide +kernel
theorem dX11_curve_20 : decode cX11_curve 20 = .ok (.bipush (-2), 2) := by decide +kernel
theorem dX11_curve_22 : decode cX11_curve 22 = .ok (.ireturn, 1) := by decide +kernel
theorem dX11_curve_23 : decode cX11_curve 23 = .ok (.aload_n 0, 1) := by decide +kernel
theorem dX11_curve_24 : decode cX11_curve 24 = .ok (.iload_n 1, 1) := by decide +kernel
theorem dX11_curve_25 : decode cX11_curve 25 = .ok (.iload_n 2, 1) := by decide +kernel
theorem dX11_curve_26 : decode cX11_curve 26 = .ok (.iload_n 3, 1) := by decide +kernel
theorem dX11_curve_27 : decode cX11_curve 27 = .ok (.invokevirtual 176, 3) := by decide +kernel
theorem dX11_curve_30 : decode cX11_curve 30 = .ok (.aload_n 0, 1) := by decide +kernel
theorem dX11_curve_31 : decode cX11_curve 31 = .ok (.getfield 173, 3) := by decide +kernel
theorem dX11_curve_34 : decode cX11_curve 34 = .ok (.ireturn, 1) := by decide +kernel
theorem dX11_least_0 : decode cX11_least 0 = .ok (.iconst 0, 1) := by decide +kernel
theorem dX11_least_1 : decode cX11_least 1 = .ok (.istore_n 2, 1) := by decide +kernel
theorem dX11_least_2 : decode cX11_least 2 = .ok (.iload_n 2, 1) := by decide +kernel
theorem dX11_least_3 : decode cX11_least 3 = .ok (.bipush 100, 2) := by decide +kernel
theorem dX11_least_5 : decode cX11_least 5 = .ok (.if_icmp .ge 38, 3) := by decide +kernel
theorem dX11_least_8 : decode cX11_least 8 = .ok (.iload_n 1, 1) := by decide +kernel
theorem dX11_least_9 : decode cX11_least 9 = .ok (.ifCond .eq 16, 3) := by decide +kernel
theorem dX11_least_12 : decode cX11_least 12 = .ok (.aload_n 0, 1) := by decide +kernel
theorem dX11_least_13 : decode cX11_least 13 = .ok (.bipush 62, 2) := by decide +kernel
theorem dX11_least_15 : decode cX11_least 15 = .ok (.iload_n 2, 1) := by decide +kernel
theorem dX11_least_16 : decode cX11_least 16 = .ok (.invokevirtual 164, 3) := by decide +kernel
theorem dX11_least_19 : decode cX11_least 19 = .ok (.ifCond .eq 18, 3) := by decide +kernel
theorem dX11_least_22 : decode cX11_least 22 = .ok (.goto 13, 3) := by decide +kernel
theorem dX11_least_25 : decode cX11_least 25 = .ok (.aload_n 0, 1) := by decide +kernel
theorem dX11_least_26 : decode cX11_least 26 = .ok (.bipush 63, 2) := by decide +kernel
theorem dX11_least_28 : decode cX11_least 28 = .ok (.iload_n 2, 1) := by decide +kernel
theorem dX11_least_29 : decode cX11_least 29 = .ok (.invokevirtual 164, 3) := by decide +kernel
theorem dX11_least_32 : decode cX11_least 32 = .ok (.ifCond .ne 5, 3) := by decide +kernel
theorem dX11_least_35 : decode cX11_least 35 = .ok (.iload_n 2, 1) := by decide +kernel
theorem dX11_least_36 : decode cX11_least 36 = .ok (.ireturn, 1) := by decide +kernel
theorem dX11_least_37 : decode cX11_least 37 = .ok (.iinc 2 1, 3) := by decide +kernel
theorem dX11_least_40 : decode cX11_least 40 = .ok (.goto (-38), 3) := by decide +kernel
theorem dX11_least_43 : decode cX11_least 43 = .ok (.bipush (-9), 2) := by decide +kernel
theorem dX11_least_45 : decode cX11_least 45 = .ok (.ireturn, 1) := by decide +kernel
theorem dX11_isBed_0 : decode cX11_isBed 0 = .ok (.iload_n 1, 1) := by decide +kernel
theorem dX11_isBed_1 : decode cX11_isBed 1 = .ok (.i2l, 1) := by decide +kernel
theorem dX11_isBed_2 : decode cX11_isBed 2 = .ok (.lconst 0, 1) := by decide +kernel
theorem dX11_isBed_3 : decode cX11_isBed 3 = .ok (.aload_n 0, 1) := by decide +kernel
theorem dX11_isBed_4 : decode cX11_isBed 4 = .ok (.getfield 180, 3) := by decide +kernel
theorem dX11_isBed_7 : decode cX11_isBed 7 = .ok (.iconst 1, 1) := by decide +kernel
theorem dX11_isBed_8 : decode cX11_isBed 8 = .ok (.isub, 1) := by decide +kernel
theorem dX11_isBed_9 : decode cX11_isBed 9 = .ok (.i2l, 1) := by decide +kernel
theorem dX11_isBed_10 : decode cX11_isBed 10 = .ok (.invokestatic 65, 3) := by decide +kernel
theorem dX11_isBed_13 : decode cX11_isBed 13 = .ok (.ireturn, 1) := by decide +kernel
theorem dX11_bed_0 : decode cX11_bed 0 = .ok (.iload_n 1, 1) := by decide +kernel
theorem dX11_bed_1 : decode cX11_bed 1 = .ok (.i2l, 1) := by decide +kernel
theorem dX11_bed_2 : decode cX11_bed 2 = .ok (.lconst 0, 1) := by decide +kernel
theorem dX11_bed_3 : decode cX11_bed 3 = .ok (.ldc2_w 115, 3) := by decide +kernel
theorem dX11_bed_6 : decode cX11_bed 6 = .ok (.invokestatic 65, 3) := by decide +kernel
theorem dX11_bed_9 : decode cX11_bed 9 = .ok (.ifCond .eq 16, 3) := by decide +kernel
theorem dX11_bed_12 : decode cX11_bed 12 = .ok (.iload 5, 2) := by decide +kernel
theorem dX11_bed_14 : decode cX11_bed 14 = .ok (.i2l, 1) := by decide +kernel
theorem dX11_bed_15 : decode cX11_bed 15 = .ok (.lconst 0, 1) := by decide +kernel
theorem dX11_bed_16 : decode cX11_bed 16 = .ok (.ldc2_w 145, 3) := by decide +kernel
theorem dX11_bed_19 : decode cX11_bed 19 = .ok (.invokestatic 65, 3) := by decide +kernel
theorem dX11_bed_22 : decode cX11_bed 22 = .ok (.ifCond .ne 5, 3) := by decide +kernel
theorem dX11_bed_25 : decode cX11_bed 25 = .ok (.iconst (-1), 1) := by decide +kernel
theorem dX11_bed_26 : decode cX11_bed 26 = .ok (.ireturn, 1) := by decide +kernel
theorem dX11_bed_27 : decode cX11_bed 27 = .ok (.iload_n 2, 1) := by decide +kernel
theorem dX11_bed_28 : decode cX11_bed 28 = .ok (.i2l, 1) := by decide +kernel
theorem dX11_bed_29 : decode cX11_bed 29 = .ok (.lconst 0, 1) := by decide +kernel
theorem dX11_bed_30 : decode cX11_bed 30 = .ok (.ldc2_w 183, 3) := by decide +kernel
theorem dX11_bed_33 : decode cX11_bed 33 = .ok (.invokestatic 65, 3) := by decide +kernel
theorem dX11_bed_36 : decode cX11_bed 36 = .ok (.ifCond .eq 42, 3) := by decide +kernel
theorem dX11_bed_39 : decode cX11_bed 39 = .ok (.iload_n 3, 1) := by decide +kernel
theorem dX11_bed_40 : decode cX11_bed 40 = .ok (.i2l, 1) := by decide +kernel
theorem dX11_bed_41 : decode cX11_bed 41 = .ok (.lconst 0, 1) := by decide +kernel
theorem dX11_bed_42 : decode cX11_bed 42 = .ok (.ldc2_w 122, 3) := by decide +kernel
theorem dX11_bed_45 : decode cX11_bed 45 = .ok (.invokestatic 65, 3) := by decide +kernel
theorem dX11_bed_48 : decode cX11_bed 48 = .ok (.ifCond .eq 30, 3) := by decide +kernel
theorem dX11_bed_51 : decode cX11_bed 51 = .ok (.iload 4, 2) := by decide +kernel
theorem dX11_bed_53 : decode cX11_bed 53 = .ok (.i2l, 1) := by decide +kernel
theorem dX11_bed_54 : decode cX11_bed 54 = .ok (.iload_n 3, 1) := by decide +kernel
theorem dX11_bed_55 : decode cX11_bed 55 = .ok (.i2l, 1) := by decide +kernel
theorem dX11_bed_56 : decode cX11_bed 56 = .ok (.ldc2_w 122, 3) := by decide +kernel
theorem dX11_bed_59 : decode cX11_bed 59 = .ok (.invokestatic 65, 3) := by decide +kernel
theorem dX11_bed_62 : decode cX11_bed 62 = .ok (.ifCond .eq 16, 3) := by decide +kernel
theorem dX11_bed_65 : decode cX11_bed 65 = .ok (.iload 6, 2) := by decide +kernel
theorem dX11_bed_67 : decode cX11_bed 67 = .ok (.i2l, 1) := by decide +kernel
theorem dX11_bed_68 : decode cX11_bed 68 = .ok (.lconst 0, 1) := by decide +kernel
theorem dX11_bed_69 : decode cX11_bed 69 = .ok (.ldc2_w 185, 3) := by decide +kernel
theorem dX11_bed_72 : decode cX11_bed 72 = .ok (.invokestatic 65, 3) := by decide +kernel
theorem dX11_bed_75 : decode cX11_bed 75 = .ok (.ifCond .ne 6, 3) := by decide +kernel
theorem dX11_bed_78 : decode cX11_bed 78 = .ok (.bipush (-2), 2) := by decide +kernel
theorem dX11_bed_80 : decode cX11_bed 80 = .ok (.ireturn, 1) := by decide +kernel
theorem dX11_bed_81 : decode cX11_bed 81 = .ok (.aload_n 0, 1) := by decide +kernel
theorem dX11_bed_82 : decode cX11_bed 82 = .ok (.getfield 180, 3) := by decide +kernel
theorem dX11_bed_85 : decode cX11_bed 85 = .ok (.bipush 8, 2) := by decide +kernel
theorem dX11_bed_87 : decode cX11_bed 87 = .ok (.if_icmp .ne 6, 3) := by decide +kernel
theorem dX11_bed_90 : decode cX11_bed 90 = .ok (.bipush (-4), 2) := by decide +kernel
theorem dX11_bed_92 : decode cX11_bed 92 = .ok (.ireturn, 1) := by decide +kernel
theorem dX11_bed_93 : decode cX11_bed 93 = .ok (.bipush 6, 2) := by decide +kernel
theorem dX11_bed_95 : decode cX11_bed 95 = .ok (.aload_n 0, 1) := by decide +kernel
theorem dX11_bed_96 : decode cX11_bed 96 = .ok (.getfield 180, 3) := by decide +kernel
theorem dX11_bed_99 : decode cX11_bed 99 = .ok (.imul, 1) := by decide +kernel
theorem dX11_bed_100 : decode cX11_bed 100 = .ok (.istore 7, 2) := by decide +kernel
theorem dX11_bed_102 : decode cX11_bed 102 = .ok (.aload_n 0, 1) := by decide +kernel
theorem dX11_bed_103 : decode cX11_bed 103 = .ok (.getfield 37, 3) := by decide +kernel
theorem dX11_bed_106 : decode cX11_bed 106 = .ok (.iload 7, 2) := by decide +kernel
theorem dX11_bed_108 : decode cX11_bed 108 = .ok (.iload_n 1, 1) := by decide +kernel
theorem dX11_bed_109 : decode cX11_bed 109 = .ok (.iastore, 1) := by decide +kernel
theorem dX11_bed_110 : decode cX11_bed 110 = .ok (.aload_n 0, 1) := by decide +kernel
theorem dX11_bed_111 : decode cX11_bed 111 = .ok (.getfield 37, 3) := by decide +kernel
theorem dX11_bed_114 : decode cX11_bed 114 = .ok (.iload 7, 2) := by decide +kernel
theorem dX11_bed_116 : decode cX11_bed 116 = .ok (.iconst 1, 1) := by decide +kernel
theorem dX11_bed_117 : decode cX11_bed 117 = .ok (.iadd, 1) := by decide +kernel
theorem dX11_bed_118 : decode cX11_bed 118 = .ok (.iload_n 2, 1) := by decide +kernel
theorem dX11_bed_119 : decode cX11_bed 119 = .ok (.iastore, 1) := by decide +kernel
theorem dX11_bed_120 : decode cX11_bed 120 = .ok (.aload_n 0, 1) := by decide +kernel
theorem dX11_bed_121 : decode cX11_bed 121 = .ok (.getfield 37, 3) := by decide +kernel
theorem dX11_bed_124 : decode cX11_bed 124 = .ok (.iload 7, 2) := by decide +kernel
theorem dX11_bed_126 : decode cX11_bed 126 = .ok (.iconst 2, 1) := by decide +kernel
theorem dX11_bed_127 : decode cX11_bed 127 = .ok (.iadd, 1) := by decide +kernel
theorem dX11_bed_128 : decode cX11_bed 128 = .ok (.iload_n 3, 1) := by decide +kernel
theorem dX11_bed_129 : decode cX11_bed 129 = .ok (.iastore, 1) := by decide +kernel
theorem dX11_bed_130 : decode cX11_bed 130 = .ok (.aload_n 0, 1) := by decide +kernel
theorem dX11_bed_131 : decode cX11_bed 131 = .ok (.getfield 37, 3) := by decide +kernel
theorem dX11_bed_134 : decode cX11_bed 134 = .ok (.iload 7, 2) := by decide +kernel
theorem dX11_bed_136 : decode cX11_bed 136 = .ok (.iconst 3, 1) := by decide +kernel
theorem dX11_bed_137 : decode cX11_bed 137 = .ok (.iadd, 1) := by decide +kernel
theorem dX11_bed_138 : decode cX11_bed 138 = .ok (.iload 4, 2) := by decide +kernel
theorem dX11_bed_140 : decode cX11_bed 140 = .ok (.iastore, 1) := by decide +kernel
theorem dX11_bed_141 : decode cX11_bed 141 = .ok (.aload_n 0, 1) := by decide +kernel
theorem dX11_bed_142 : decode cX11_bed 142 = .ok (.getfield 37, 3) := by decide +kernel
theorem dX11_bed_145 : decode cX11_bed 145 = .ok (.iload 7, 2) := by decide +kernel
theorem dX11_bed_147 : decode cX11_bed 147 = .ok (.iconst 4, 1) := by decide +kernel
theorem dX11_bed_148 : decode cX11_bed 148 = .ok (.iadd, 1) := by decide +kernel
theorem dX11_bed_149 : decode cX11_bed 149 = .ok (.iload 5, 2) := by decide +kernel
theorem dX11_bed_151 : decode cX11_bed 151 = .ok (.iastore, 1) := by decide +kernel
theorem dX11_bed_152 : decode cX11_bed 152 = .ok (.aload_n 0, 1) := by decide +kernel
theorem dX11_bed_153 : decode cX11_bed 153 = .ok (.getfield 37, 3) := by decide +kernel
theorem dX11_bed_156 : decode cX11_bed 156 = .ok (.iload 7, 2) := by decide +kernel
theorem dX11_bed_158 : decode cX11_bed 158 = .ok (.iconst 5, 1) := by decide +kernel
theorem dX11_bed_159 : decode cX11_bed 159 = .ok (.iadd, 1) := by decide +kernel
theorem dX11_bed_160 : decode cX11_bed 160 = .ok (.iload 6, 2) := by decide +kernel
theorem dX11_bed_162 : decode cX11_bed 162 = .ok (.iastore, 1) := by decide +kernel
theorem dX11_bed_163 : decode cX11_bed 163 = .ok (.aload_n 0, 1) := by decide +kernel
theorem dX11_bed_164 : decode cX11_bed 164 = .ok (.dup, 1) := by decide +kernel
theorem dX11_bed_165 : decode cX11_bed 165 = .ok (.getfield 180, 3) := by decide +kernel
theorem dX11_bed_168 : decode cX11_bed 168 = .ok (.iconst 1, 1) := by decide +kernel
theorem dX11_bed_169 : decode cX11_bed 169 = .ok (.iadd, 1) := by decide +kernel
theorem dX11_bed_170 : decode cX11_bed 170 = .ok (.putfield 180, 3) := by decide +kernel
theorem dX11_bed_173 : decode cX11_bed 173 = .ok (.aload_n 0, 1) := by decide +kernel
theorem dX11_bed_174 : decode cX11_bed 174 = .ok (.getfield 180, 3) := by decide +kernel
theorem dX11_bed_177 : decode cX11_bed 177 = .ok (.iconst 1, 1) := by decide +kernel
theorem dX11_bed_178 : decode cX11_bed 178 = .ok (.isub, 1) := by decide +kernel
theorem dX11_bed_179 : decode cX11_bed 179 = .ok (.ireturn, 1) := by decide +kernel
theorem dX11_forget_0 : decode cX11_forget 0 = .ok (.aload_n 0, 1) := by decide +kernel
theorem dX11_forget_1 : decode cX11_forget 1 = .ok (.getfield 180, 3) := by decide +kernel
theorem dX11_forget_4 : decode cX11_forget 4 = .ok (.ifCond .ne 6, 3) := by decide +kernel
theorem dX11_forget_7 : decode cX11_forget 7 = .ok (.bipush (-3), 2) := by decide +kernel
theorem dX11_forget_9 : decode cX11_forget 9 = .ok (.ireturn, 1) := by decide +kernel
theorem dX11_forget_10 : decode cX11_forget 10 = .ok (.aload_n 0, 1) := by decide +kernel
theorem dX11_forget_11 : decode cX11_forget 11 = .ok (.dup, 1) := by decide +kernel
theorem dX11_forget_12 : decode cX11_forget 12 = .ok (.getfield 180, 3) := by decide +kernel
theorem dX11_forget_15 : decode cX11_forget 15 = .ok (.iconst 1, 1) := by decide +kernel
theorem dX11_forget_16 : decode cX11_forget 16 = .ok (.isub, 1) := by decide +kernel
theorem dX11_forget_17 : decode cX11_forget 17 = .ok (.putfield 180, 3) := by decide +kernel
theorem dX11_forget_20 : decode cX11_forget 20 = .ok (.aload_n 0, 1) := by decide +kernel
theorem dX11_forget_21 : decode cX11_forget 21 = .ok (.getfield 180, 3) := by decide +kernel
theorem dX11_forget_24 : decode cX11_forget 24 = .ok (.ireturn, 1) := by decide +kernel
theorem dX11_slide_0 : decode cX11_slide 0 = .ok (.aload_n 0, 1) := by decide +kernel
theorem dX11_slide_1 : decode cX11_slide 1 = .ok (.getfield 37, 3) := by decide +kernel
theorem dX11_slide_4 : decode cX11_slide 4 = .ok (.bipush 6, 2) := by decide +kernel
theorem dX11_slide_6 : decode cX11_slide 6 = .ok (.iload_n 1, 1) := by decide +kernel
theorem dX11_slide_7 : decode cX11_slide 7 = .ok (.imul, 1) := by decide +kernel
theorem dX11_slide_8 : decode cX11_slide 8 = .ok (.iconst 1, 1) := by decide +kernel
theorem dX11_slide_9 : decode cX11_slide 9 = .ok (.iadd, 1) := by decide +kernel
theorem dX11_slide_10 : decode cX11_slide 10 = .ok (.iaload, 1) := by decide +kernel
theorem dX11_slide_11 : decode cX11_slide 11 = .ok (.istore_n 2, 1) := by decide +kernel
theorem dX11_slide_12 : decode cX11_slide 12 = .ok (.iconst 2, 1) := by decide +kernel
theorem dX11_slide_13 : decode cX11_slide 13 = .ok (.iload_n 2, 1) := by decide +kernel
theorem dX11_slide_14 : decode cX11_slide 14 = .ok (.bipush 8, 2) := by decide +kernel
theorem dX11_slide_16 : decode cX11_slide 16 = .ok (.iand, 1) := by decide +kernel
theorem dX11_slide_17 : decode cX11_slide 17 = .ok (.ifCond .le 7, 3) := by decide +kernel
theorem dX11_slide_20 : decode cX11_slide 20 = .ok (.iconst 4, 1) := by decide +kernel
theorem dX11_slide_21 : decode cX11_slide 21 = .ok (.goto 4, 3) := by decide +kernel
theorem dX11_slide_24 : decode cX11_slide 24 = .ok (.iconst 0, 1) := by decide +kernel
theorem dX11_slide_25 : decode cX11_slide 25 = .ok (.iadd, 1) := by decide +kernel
theorem dX11_slide_26 : decode cX11_slide 26 = .ok (.iload_n 2, 1) := by decide +kernel
theorem dX11_slide_27 : decode cX11_slide 27 = .ok (.iconst 2, 1) := by decide +kernel
theorem dX11_slide_28 : decode cX11_slide 28 = .ok (.iand, 1) := by decide +kernel
theorem dX11_slide_29 : decode cX11_slide 29 = .ok (.ifCond .le 7, 3) := by decide +kernel
theorem dX11_slide_32 : decode cX11_slide 32 = .ok (.iconst 1, 1) := by decide +kernel
theorem dX11_slide_33 : decode cX11_slide 33 = .ok (.goto 4, 3) := by decide +kernel
theorem dX11_slide_36 : decode cX11_slide 36 = .ok (.iconst 0, 1) := by decide +kernel
theorem dX11_slide_37 : decode cX11_slide 37 = .ok (.isub, 1) := by decide +kernel
theorem dX11_slide_38 : decode cX11_slide 38 = .ok (.iload_n 2, 1) := by decide +kernel
theorem dX11_slide_39 : decode cX11_slide 39 = .ok (.iconst 4, 1) := by decide +kernel
theorem dX11_slide_40 : decode cX11_slide 40 = .ok (.iand, 1) := by decide +kernel
theorem dX11_slide_41 : decode cX11_slide 41 = .ok (.ifCond .le 7, 3) := by decide +kernel
theorem dX11_slide_44 : decode cX11_slide 44 = .ok (.iconst 1, 1) := by decide +kernel
theorem dX11_slide_45 : decode cX11_slide 45 = .ok (.goto 4, 3) := by decide +kernel
theorem dX11_slide_48 : decode cX11_slide 48 = .ok (.iconst 0, 1) := by decide +kernel
theorem dX11_slide_49 : decode cX11_slide 49 = .ok (.isub, 1) := by decide +kernel
theorem dX11_slide_50 : decode cX11_slide 50 = .ok (.ireturn, 1) := by decide +kernel
theorem dX11_isIcy_0 : decode cX11_isIcy 0 = .ok (.aload_n 0, 1) := by decide +kernel
theorem dX11_isIcy_1 : decode cX11_isIcy 1 = .ok (.getfield 37, 3) := by decide +kernel
theorem dX11_isIcy_4 : decode cX11_isIcy 4 = .ok (.bipush 6, 2) := by decide +kernel
theorem dX11_isIcy_6 : decode cX11_isIcy 6 = .ok (.iload_n 1, 1) := by decide +kernel
theorem dX11_isIcy_7 : decode cX11_isIcy 7 = .ok (.imul, 1) := by decide +kernel
theorem dX11_isIcy_8 : decode cX11_isIcy 8 = .ok (.iconst 1, 1) := by decide +kernel
theorem dX11_isIcy_9 : decode cX11_isIcy 9 = .ok (.iadd, 1) := by decide +kernel
theorem dX11_isIcy_10 : decode cX11_isIcy 10 = .ok (.iaload, 1) := by decide +kernel
theorem dX11_isIcy_11 : decode cX11_isIcy 11 = .ok (.iconst 3, 1) := by decide +kernel
theorem dX11_isIcy_12 : decode cX11_isIcy 12 = .ok (.iand, 1) := by decide +kernel
theorem dX11_isIcy_13 : decode cX11_isIcy 13 = .ok (.ifCond .le 7, 3) := by decide +kernel
theorem dX11_isIcy_16 : decode cX11_isIcy 16 = .ok (.iconst 1, 1) := by decide +kernel
theorem dX11_isIcy_17 : decode cX11_isIcy 17 = .ok (.goto 4, 3) := by decide +kernel
theorem dX11_isIcy_20 : decode cX11_isIcy 20 = .ok (.iconst 0, 1) := by decide +kernel
theorem dX11_isIcy_21 : decode cX11_isIcy 21 = .ok (.ireturn, 1) := by decide +kernel
theorem dX11_about_0 : decode cX11_about 0 = .ok (.aload_n 0, 1) := by decide +kernel
theorem dX11_about_1 : decode cX11_about 1 = .ok (.iload_n 1, 1) := by decide +kernel
theorem dX11_about_2 : decode cX11_about 2 = .ok (.invokevirtual 187, 3) := by decide +kernel
theorem dX11_about_5 : decode cX11_about 5 = .ok (.ifCond .ne 5, 3) := by decide +kernel
theorem dX11_about_8 : decode cX11_about 8 = .ok (.iconst (-1), 1) := by decide +kernel
theorem dX11_about_9 : decode cX11_about 9 = .ok (.ireturn, 1) := by decide +kernel
theorem dX11_about_10 : decode cX11_about 10 = .ok (.iload_n 2, 1) := by decide +kernel
theorem dX11_about_11 : decode cX11_about 11 = .ok (.i2l, 1) := by decide +kernel
theorem dX11_about_12 : decode cX11_about 12 = .ok (.lconst 0, 1) := by decide +kernel
theorem dX11_about_13 : decode cX11_about 13 = .ok (.ldc2_w 190, 3) := by decide +kernel
theorem dX11_about_16 : decode cX11_about 16 = .ok (.invokestatic 65, 3) := by decide +kernel
theorem dX11_about_19 : decode cX11_about 19 = .ok (.ifCond .ne 6, 3) := by decide +kernel
theorem dX11_about_22 : decode cX11_about 22 = .ok (.bipush (-2), 2) := by decide +kernel
theorem dX11_about_24 : decode cX11_about 24 = .ok (.ireturn, 1) := by decide +kernel
theorem dX11_about_25 : decode cX11_about 25 = .ok (.iload_n 2, 1) := by decide +kernel
theorem dX11_about_26 : decode cX11_about 26 = .ok (.bipush 6, 2) := by decide +kernel
theorem dX11_about_28 : decode cX11_about 28 = .ok (.if_icmp .ge 17, 3) := by decide +kernel
theorem dX11_about_31 : decode cX11_about 31 = .ok (.aload_n 0, 1) := by decide +kernel
theorem dX11_about_32 : decode cX11_about 32 = .ok (.getfield 37, 3) := by decide +kernel
theorem dX11_about_35 : decode cX11_about 35 = .ok (.bipush 6, 2) := by decide +kernel
theorem dX11_about_37 : decode cX11_about 37 = .ok (.iload_n 1, 1) := by decide +kernel
theorem dX11_about_38 : decode cX11_about 38 = .ok (.imul, 1) := by decide +kernel
theorem dX11_about_39 : decode cX11_about 39 = .ok (.iload_n 2, 1) := by decide +kernel
theorem dX11_about_40 : decode cX11_about 40 = .ok (.iadd, 1) := by decide +kernel
theorem dX11_about_41 : decode cX11_about 41 = .ok (.iaload, 1) := by decide +kernel
theorem dX11_about_42 : decode cX11_about 42 = .ok (.goto 30, 3) := by decide +kernel
theorem dX11_about_45 : decode cX11_about 45 = .ok (.iload_n 2, 1) := by decide +kernel
theorem dX11_about_46 : decode cX11_about 46 = .ok (.bipush 6, 2) := by decide +kernel
theorem dX11_about_48 : decode cX11_about 48 = .ok (.if_icmp .ne 11, 3) := by decide +kernel
theorem dX11_about_51 : decode cX11_about 51 = .ok (.aload_n 0, 1) := by decide +kernel
theorem dX11_about_52 : decode cX11_about 52 = .ok (.iload_n 1, 1) := by decide +kernel
theorem dX11_about_53 : decode cX11_about 53 = .ok (.invokevirtual 192, 3) := by decide +kernel
theorem dX11_about_56 : decode cX11_about 56 = .ok (.goto 16, 3) := by decide +kernel
theorem dX11_about_59 : decode cX11_about 59 = .ok (.aload_n 0, 1) := by decide +kernel
theorem dX11_about_60 : decode cX11_about 60 = .ok (.iload_n 1, 1) := by decide +kernel
theorem dX11_about_61 : decode cX11_about 61 = .ok (.invokevirtual 195, 3) := by decide +kernel
theorem dX11_about_64 : decode cX11_about 64 = .ok (.ifCond .eq 7, 3) := by decide +kernel
theorem dX11_about_67 : decode cX11_about 67 = .ok (.iconst 1, 1) := by decide +kernel
theorem dX11_about_68 : decode cX11_about 68 = .ok (.goto 4, 3) := by decide +kernel
theorem dX11_about_71 : decode cX11_about 71 = .ok (.iconst 0, 1) := by decide +kernel
theorem dX11_about_72 : decode cX11_about 72 = .ok (.ireturn, 1) := by decide +kernel
theorem dX11_rounds_0 : decode cX11_rounds 0 = .ok (.iconst 0, 1) := by decide +kernel
theorem dX11_rounds_1 : decode cX11_rounds 1 = .ok (.istore 4, 2) := by decide +kernel
theorem dX11_rounds_3 : decode cX11_rounds 3 = .ok (.aload_n 0, 1) := by decide +kernel
theorem dX11_rounds_4 : decode cX11_rounds 4 = .ok (.getfield 37, 3) := by decide +kernel
theorem dX11_rounds_7 : decode cX11_rounds 7 = .ok (.bipush 6, 2) := by decide +kernel
theorem dX11_rounds_9 : decode cX11_rounds 9 = .ok (.iload_n 2, 1) := by decide +kernel
theorem dX11_rounds_10 : decode cX11_rounds 10 = .ok (.imul, 1) := by decide +kernel
theorem dX11_rounds_11 : decode cX11_rounds 11 = .ok (.iconst 2, 1) := by decide +kernel
theorem dX11_rounds_12 : decode cX11_rounds 12 = .ok (.iadd, 1) := by decide +kernel
theorem dX11_rounds_13 : decode cX11_rounds 13 = .ok (.iaload, 1) := by decide +kernel
theorem dX11_rounds_14 : decode cX11_rounds 14 = .ok (.istore 5, 2) := by decide +kernel
theorem dX11_rounds_16 : decode cX11_rounds 16 = .ok (.iload 5, 2) := by decide +kernel
theorem dX11_rounds_18 : decode cX11_rounds 18 = .ok (.aload_n 0, 1) := by decide +kernel
theorem dX11_rounds_19 : decode cX11_rounds 19 = .ok (.getfield 37, 3) := by decide +kernel
theorem dX11_rounds_22 : decode cX11_rounds 22 = .ok (.bipush 6, 2) := by decide +kernel
theorem dX11_rounds_24 : decode cX11_rounds 24 = .ok (.iload_n 2, 1) := by decide +kernel
theorem dX11_rounds_25 : decode cX11_rounds 25 = .ok (.imul, 1) := by decide +kernel
theorem dX11_rounds_26 : decode cX11_rounds 26 = .ok (.iconst 3, 1) := by decide +kernel
theorem dX11_rounds_27 : decode cX11_rounds 27 = .ok (.iadd, 1) := by decide +kernel
theorem dX11_rounds_28 : decode cX11_rounds 28 = .ok (.iaload, 1) := by decide +kernel
theorem dX11_rounds_29 : decode cX11_rounds 29 = .ok (.if_icmp .gt 53, 3) := by decide +kernel
theorem dX11_rounds_32 : decode cX11_rounds 32 = .ok (.aload_n 0, 1) := by decide +kernel
theorem dX11_rounds_33 : decode cX11_rounds 33 = .ok (.getfield 25, 3) := by decide +kernel
theorem dX11_rounds_36 : decode cX11_rounds 36 = .ok (.bipush 100, 2) := by decide +kernel
theorem dX11_rounds_38 : decode cX11_rounds 38 = .ok (.iload_n 1, 1) := by decide +kernel
theorem dX11_rounds_39 : decode cX11_rounds 39 = .ok (.imul, 1) := by decide +kernel
theorem dX11_rounds_40 : decode cX11_rounds 40 = .ok (.iload 5, 2) := by decide +kernel
theorem dX11_rounds_42 : decode cX11_rounds 42 = .ok (.iadd, 1) := by decide +kernel
theorem dX11_rounds_43 : decode cX11_rounds 43 = .ok (.iaload, 1) := by decide +kernel
theorem dX11_rounds_44 : decode cX11_rounds 44 = .ok (.istore 6, 2) := by decide +kernel
theorem dX11_rounds_46 : decode cX11_rounds 46 = .ok (.iload 4, 2) := by decide +kernel
theorem dX11_rounds_48 : decode cX11_rounds 48 = .ok (.iload_n 3, 1) := by decide +kernel
theorem dX11_rounds_49 : decode cX11_rounds 49 = .ok (.bipush 6, 2) := by decide +kernel
theorem dX11_rounds_51 : decode cX11_rounds 51 = .ok (.if_icmp .ne 16, 3) := by decide +kernel
theorem dX11_rounds_54 : decode cX11_rounds 54 = .ok (.iload 6, 2) := by decide +kernel
theorem dX11_rounds_56 : decode cX11_rounds 56 = .ok (.ifCond .le 7, 3) := by decide +kernel
theorem dX11_rounds_59 : decode cX11_rounds 59 = .ok (.iconst 1, 1) := by decide +kernel
theorem dX11_rounds_60 : decode cX11_rounds 60 = .ok (.goto 13, 3) := by decide +kernel
theorem dX11_rounds_63 : decode cX11_rounds 63 = .ok (.iconst 0, 1) := by decide +kernel
theorem dX11_rounds_64 : decode cX11_rounds 64 = .ok (.goto 9, 3) := by decide +kernel
theorem dX11_rounds_67 : decode cX11_rounds 67 = .ok (.iload 6, 2) := by decide +kernel
theorem dX11_rounds_69 : decode cX11_rounds 69 = .ok (.iload_n 3, 1) := by decide +kernel
theorem dX11_rounds_70 : decode cX11_rounds 70 = .ok (.ishr, 1) := by decide +kernel
theorem dX11_rounds_71 : decode cX11_rounds 71 = .ok (.iconst 1, 1) := by decide +kernel
theorem dX11_rounds_72 : decode cX11_rounds 72 = .ok (.iand, 1) := by decide +kernel
theorem dX11_rounds_73 : decode cX11_rounds 73 = .ok (.iadd, 1) := by decide +kernel
theorem dX11_rounds_74 : decode cX11_rounds 74 = .ok (.istore 4, 2) := by decide +kernel
theorem dX11_rounds_76 : decode cX11_rounds 76 = .ok (.iinc 5 1, 3) := by decide +kernel
theorem dX11_rounds_79 : decode cX11_rounds 79 = .ok (.goto (-63), 3) := by decide +kernel
theorem dX11_rounds_82 : decode cX11_rounds 82 = .ok (.iload 4, 2) := by decide +kernel
theorem dX11_rounds_84 : decode cX11_rounds 84 = .ok (.ireturn, 1) := by decide +kernel
theorem dX11_explains_0 : decode cX11_explains 0 = .ok (.iload_n 1, 1) := by decide +kernel
theorem dX11_explains_1 : decode cX11_explains 1 = .ok (.invokestatic 117, 3) := by decide +kernel
theorem dX11_explains_4 : decode cX11_explains 4 = .ok (.ifCond .eq 11, 3) := by decide +kernel
theorem dX11_explains_7 : decode cX11_explains 7 = .ok (.aload_n 0, 1) := by decide +kernel
theorem dX11_explains_8 : decode cX11_explains 8 = .ok (.iload_n 2, 1) := by decide +kernel
theorem dX11_explains_9 : decode cX11_explains 9 = .ok (.invokevirtual 187, 3) := by decide +kernel
theorem dX11_explains_12 : decode cX11_explains 12 = .ok (.ifCond .ne 5, 3) := by decide +kernel
theorem dX11_explains_15 : decode cX11_explains 15 = .ok (.iconst (-1), 1) := by decide +kernel
theorem dX11_explains_16 : decode cX11_explains 16 = .ok (.ireturn, 1) := by decide +kernel
theorem dX11_explains_17 : decode cX11_explains 17 = .ok (.aload_n 0, 1) := by decide +kernel
theorem dX11_explains_18 : decode cX11_explains 18 = .ok (.iload_n 2, 1) := by decide +kernel
theorem dX11_explains_19 : decode cX11_explains 19 = .ok (.invokevirtual 195, 3) := by decide +kernel
theorem dX11_explains_22 : decode cX11_explains 22 = .ok (.ifCond .ne 6, 3) := by decide +kernel
theorem dX11_explains_25 : decode cX11_explains 25 = .ok (.bipush (-3), 2) := by decide +kernel
theorem dX11_explains_27 : decode cX11_explains 27 = .ok (.ireturn, 1) := by decide +kernel
theorem dX11_explains_28 : decode cX11_explains 28 = .ok (.aload_n 0, 1) := by decide +kernel
theorem dX11_explains_29 : decode cX11_explains 29 = .ok (.iload_n 1, 1) := by decide +kernel
theorem dX11_explains_30 : decode cX11_explains 30 = .ok (.iload_n 2, 1) := by decide +kernel
theorem dX11_explains_31 : decode cX11_explains 31 = .ok (.aload_n 0, 1) := by decide +kernel
theorem dX11_explains_32 : decode cX11_explains 32 = .ok (.getfield 37, 3) := by decide +kernel
theorem dX11_explains_35 : decode cX11_explains 35 = .ok (.bipush 6, 2) := by decide +kernel
theorem dX11_explains_37 : decode cX11_explains 37 = .ok (.iload_n 2, 1) := by decide +kernel
theorem dX11_explains_38 : decode cX11_explains 38 = .ok (.imul, 1) := by decide +kernel
theorem dX11_explains_39 : decode cX11_explains 39 = .ok (.iconst 4, 1) := by decide +kernel
theorem dX11_explains_40 : decode cX11_explains 40 = .ok (.iadd, 1) := by decide +kernel
theorem dX11_explains_41 : decode cX11_explains 41 = .ok (.iaload, 1) := by decide +kernel
theorem dX11_explains_42 : decode cX11_explains 42 = .ok (.invokevirtual 198, 3) := by decide +kernel
theorem dX11_explains_45 : decode cX11_explains 45 = .ok (.ifCond .le 7, 3) := by decide +kernel
theorem dX11_explains_48 : decode cX11_explains 48 = .ok (.iconst 2, 1) := by decide +kernel
theorem dX11_explains_49 : decode cX11_explains 49 = .ok (.goto 19, 3) := by decide +kernel
theorem dX11_explains_52 : decode cX11_explains 52 = .ok (.aload_n 0, 1) := by decide +kernel
theorem dX11_explains_53 : decode cX11_explains 53 = .ok (.iload_n 1, 1) := by decide +kernel
theorem dX11_explains_54 : decode cX11_explains 54 = .ok (.iload_n 2, 1) := by decide +kernel
theorem dX11_explains_55 : decode cX11_explains 55 = .ok (.bipush 6, 2) := by decide +kernel
theorem dX11_explains_57 : decode cX11_explains 57 = .ok (.invokevirtual 198, 3) := by decide +kernel
theorem dX11_explains_60 : decode cX11_explains 60 = .ok (.ifCond .le 7, 3) := by decide +kernel
theorem dX11_explains_63 : decode cX11_explains 63 = .ok (.iconst 1, 1) := by decide +kernel
theorem dX11_explains_64 : decode cX11_explains 64 = .ok (.goto 4, 3) := by decide +kernel
theorem dX11_explains_67 : decode cX11_explains 67 = .ok (.iconst 0, 1) := by decide +kernel
theorem dX11_explains_68 : decode cX11_explains 68 = .ok (.ireturn, 1) := by decide +kernel
theorem dX11_chanceOf_0 : decode cX11_chanceOf 0 = .ok (.aload_n 0, 1) := by decide +kernel
theorem dX11_chanceOf_1 : decode cX11_chanceOf 1 = .ok (.getfield 37, 3) := by decide +kernel
theorem dX11_chanceOf_4 : decode cX11_chanceOf 4 = .ok (.bipush 6, 2) := by decide +kernel
theorem dX11_chanceOf_6 : decode cX11_chanceOf 6 = .ok (.iload_n 2, 1) := by decide +kernel
theorem dX11_chanceOf_7 : decode cX11_chanceOf 7 = .ok (.imul, 1) := by decide +kernel
theorem dX11_chanceOf_8 : decode cX11_chanceOf 8 = .ok (.iconst 5, 1) := by decide +kernel
theorem dX11_chanceOf_9 : decode cX11_chanceOf 9 = .ok (.iadd, 1) := by decide +kernel
theorem dX11_chanceOf_10 : decode cX11_chanceOf 10 = .ok (.iaload, 1) := by decide +kernel
theorem dX11_chanceOf_11 : decode cX11_chanceOf 11 = .ok (.istore_n 3, 1) := by decide +kernel
theorem dX11_chanceOf_12 : decode cX11_chanceOf 12 = .ok (.aload_n 0, 1) := by decide +kernel
theorem dX11_chanceOf_13 : decode cX11_chanceOf 13 = .ok (.iload_n 1, 1) := by decide +kernel
theorem dX11_chanceOf_14 : decode cX11_chanceOf 14 = .ok (.iload_n 2, 1) := by decide +kernel
theorem dX11_chanceOf_15 : decode cX11_chanceOf 15 = .ok (.aload_n 0, 1) := by decide +kernel
theorem dX11_chanceOf_16 : decode cX11_chanceOf 16 = .ok (.getfield 37, 3) := by decide +kernel
theorem dX11_chanceOf_19 : decode cX11_chanceOf 19 = .ok (.bipush 6, 2) := by decide +kernel
theorem dX11_chanceOf_21 : decode cX11_chanceOf 21 = .ok (.iload_n 2, 1) := by decide +kernel
theorem dX11_chanceOf_22 : decode cX11_chanceOf 22 = .ok (.imul, 1) := by decide +kernel
theorem dX11_chanceOf_23 : decode cX11_chanceOf 23 = .ok (.iconst 4, 1) := by decide +kernel
theorem dX11_chanceOf_24 : decode cX11_chanceOf 24 = .ok (.iadd, 1) := by decide +kernel
theorem dX11_chanceOf_25 : decode cX11_chanceOf 25 = .ok (.iaload, 1) := by decide +kernel
theorem dX11_chanceOf_26 : decode cX11_chanceOf 26 = .ok (.invokevirtual 198, 3) := by decide +kernel
theorem dX11_chanceOf_29 : decode cX11_chanceOf 29 = .ok (.istore 4, 2) := by decide +kernel
theorem dX11_chanceOf_31 : decode cX11_chanceOf 31 = .ok (.aload_n 0, 1) := by decide +kernel
theorem dX11_chanceOf_32 : decode cX11_chanceOf 32 = .ok (.iload_n 2, 1) := by decide +kernel
theorem dX11_chanceOf_33 : decode cX11_chanceOf 33 = .ok (.invokevirtual 195, 3) := by decide +kernel
theorem dX11_chanceOf_36 : decode cX11_chanceOf 36 = .ok (.ifCond .ne 62, 3) := by decide +kernel
theorem dX11_chanceOf_39 : decode cX11_chanceOf 39 = .ok (.iload 4, 2) := by decide +kernel
theorem dX11_chanceOf_41 : decode cX11_chanceOf 41 = .ok (.aload_n 0, 1) := by decide +kernel
theorem dX11_chanceOf_42 : decode cX11_chanceOf 42 = .ok (.getfield 37, 3) := by decide +kernel
theorem dX11_chanceOf_45 : decode cX11_chanceOf 45 = .ok (.bipush 6, 2) := by decide +kernel
theorem dX11_chanceOf_47 : decode cX11_chanceOf 47 = .ok (.iload_n 2, 1) := by decide +kernel
theorem dX11_chanceOf_48 : decode cX11_chanceOf 48 = .ok (.imul, 1) := by decide +kernel
theorem dX11_chanceOf_49 : decode cX11_chanceOf 49 = .ok (.iconst 3, 1) := by decide +kernel
theorem dX11_chanceOf_50 : decode cX11_chanceOf 50 = .ok (.iadd, 1) := by decide +kernel
theorem dX11_chanceOf_51 : decode cX11_chanceOf 51 = .ok (.iaload, 1) := by decide +kernel
theorem dX11_chanceOf_52 : decode cX11_chanceOf 52 = .ok (.aload_n 0, 1) := by decide +kernel
theorem dX11_chanceOf_53 : decode cX11_chanceOf 53 = .ok (.getfield 37, 3) := by decide +kernel
theorem dX11_chanceOf_56 : decode cX11_chanceOf 56 = .ok (.bipush 6, 2) := by decide +kernel
theorem dX11_chanceOf_58 : decode cX11_chanceOf 58 = .ok (.iload_n 2, 1) := by decide +kernel
theorem dX11_chanceOf_59 : decode cX11_chanceOf 59 = .ok (.imul, 1) := by decide +kernel
theorem dX11_chanceOf_60 : decode cX11_chanceOf 60 = .ok (.iconst 2, 1) := by decide +kernel
theorem dX11_chanceOf_61 : decode cX11_chanceOf 61 = .ok (.iadd, 1) := by decide +kernel
theorem dX11_chanceOf_62 : decode cX11_chanceOf 62 = .ok (.iaload, 1) := by decide +kernel
theorem dX11_chanceOf_63 : decode cX11_chanceOf 63 = .ok (.isub, 1) := by decide +kernel
theorem dX11_chanceOf_64 : decode cX11_chanceOf 64 = .ok (.iconst 1, 1) := by decide +kernel
theorem dX11_chanceOf_65 : decode cX11_chanceOf 65 = .ok (.iadd, 1) := by decide +kernel
theorem dX11_chanceOf_66 : decode cX11_chanceOf 66 = .ok (.if_icmp .ne 7, 3) := by decide +kernel
theorem dX11_chanceOf_69 : decode cX11_chanceOf 69 = .ok (.iconst 1, 1) := by decide +kernel
theorem dX11_chanceOf_70 : decode cX11_chanceOf 70 = .ok (.goto 4, 3) := by decide +kernel
theorem dX11_chanceOf_73 : decode cX11_chanceOf 73 = .ok (.iconst 0, 1) := by decide +kernel
theorem dX11_chanceOf_74 : decode cX11_chanceOf 74 = .ok (.istore 5, 2) := by decide +kernel
theorem dX11_chanceOf_76 : decode cX11_chanceOf 76 = .ok (.iload_n 3, 1) := by decide +kernel
theorem dX11_chanceOf_77 : decode cX11_chanceOf 77 = .ok (.iload 5, 2) := by decide +kernel
theorem dX11_chanceOf_79 : decode cX11_chanceOf 79 = .ok (.ifCond .eq 7, 3) := by decide +kernel
theorem dX11_chanceOf_82 : decode cX11_chanceOf 82 = .ok (.iconst 5, 1) := by decide +kernel
theorem dX11_chanceOf_83 : decode cX11_chanceOf 83 = .ok (.goto 5, 3) := by decide +kernel
theorem dX11_chanceOf_86 : decode cX11_chanceOf 86 = .ok (.bipush 10, 2) := by decide +kernel
theorem dX11_chanceOf_88 : decode cX11_chanceOf 88 = .ok (.imul, 1) := by decide +kernel
theorem dX11_chanceOf_89 : decode cX11_chanceOf 89 = .ok (.bipush 10, 2) := by decide +kernel
theorem dX11_chanceOf_91 : decode cX11_chanceOf 91 = .ok (.iload_n 3, 1) := by decide +kernel
theorem dX11_chanceOf_92 : decode cX11_chanceOf 92 = .ok (.isub, 1) := by decide +kernel
theorem dX11_chanceOf_93 : decode cX11_chanceOf 93 = .ok (.bipush 10, 2) := by decide +kernel
theorem dX11_chanceOf_95 : decode cX11_chanceOf 95 = .ok (.imul, 1) := by decide +kernel
theorem dX11_chanceOf_96 : decode cX11_chanceOf 96 = .ok (.iadd, 1) := by decide +kernel
theorem dX11_chanceOf_97 : decode cX11_chanceOf 97 = .ok (.ireturn, 1) := by decide +kernel
theorem dX11_chanceOf_98 : decode cX11_chanceOf 98 = .ok (.iload_n 3, 1) := by decide +kernel
theorem dX11_chanceOf_99 : decode cX11_chanceOf 99 = .ok (.iload 4, 2) := by decide +kernel
theorem dX11_chanceOf_101 : decode cX11_chanceOf 101 = .ok (.ifCond .le 8, 3) := by decide +kernel
theorem dX11_chanceOf_104 : decode cX11_chanceOf 104 = .ok (.bipush 10, 2) := by decide +kernel
theorem dX11_chanceOf_106 : decode cX11_chanceOf 106 = .ok (.goto 8, 3) := by decide +kernel
theorem dX11_chanceOf_109 : decode cX11_chanceOf 109 = .ok (.aload_n 0, 1) := by decide +kernel
theorem dX11_chanceOf_110 : decode cX11_chanceOf 110 = .ok (.iload_n 2, 1) := by decide +kernel
theorem dX11_chanceOf_111 : decode cX11_chanceOf 111 = .ok (.invokevirtual 192, 3) := by decide +kernel
theorem dX11_chanceOf_114 : decode cX11_chanceOf 114 = .ok (.imul, 1) := by decide +kernel
theorem dX11_chanceOf_115 : decode cX11_chanceOf 115 = .ok (.bipush 10, 2) := by decide +kernel
theorem dX11_chanceOf_117 : decode cX11_chanceOf 117 = .ok (.iload_n 3, 1) := by decide +kernel
theorem dX11_chanceOf_118 : decode cX11_chanceOf 118 = .ok (.isub, 1) := by decide +kernel
theorem dX11_chanceOf_119 : decode cX11_chanceOf 119 = .ok (.aload_n 0, 1) := by decide +kernel
theorem dX11_chanceOf_120 : decode cX11_chanceOf 120 = .ok (.iload_n 1, 1) := by decide +kernel
theorem dX11_chanceOf_121 : decode cX11_chanceOf 121 = .ok (.iload_n 2, 1) := by decide +kernel
theorem dX11_chanceOf_122 : decode cX11_chanceOf 122 = .ok (.bipush 6, 2) := by decide +kernel
theorem dX11_chanceOf_124 : decode cX11_chanceOf 124 = .ok (.invokevirtual 198, 3) := by decide +kernel
theorem dX11_chanceOf_127 : decode cX11_chanceOf 127 = .ok (.ifCond .le 8, 3) := by decide +kernel
theorem dX11_chanceOf_130 : decode cX11_chanceOf 130 = .ok (.bipush 10, 2) := by decide +kernel
theorem dX11_chanceOf_132 : decode cX11_chanceOf 132 = .ok (.goto 8, 3) := by decide +kernel
theorem dX11_chanceOf_135 : decode cX11_chanceOf 135 = .ok (.aload_n 0, 1) := by decide +kernel
theorem dX11_chanceOf_136 : decode cX11_chanceOf 136 = .ok (.iload_n 2, 1) := by decide +kernel
theorem dX11_chanceOf_137 : decode cX11_chanceOf 137 = .ok (.invokevirtual 192, 3) := by decide +kernel
theorem dX11_chanceOf_140 : decode cX11_chanceOf 140 = .ok (.imul, 1) := by decide +kernel
theorem dX11_chanceOf_141 : decode cX11_chanceOf 141 = .ok (.iadd, 1) := by decide +kernel
theorem dX11_chanceOf_142 : decode cX11_chanceOf 142 = .ok (.ireturn, 1) := by decide +kernel
theorem dX11_told_0 : decode cX11_told 0 = .ok (.lload_n 0, 1) := by decide +kernel
theorem dX11_told_1 : decode cX11_told 1 = .ok (.lstore 5, 2) := by decide +kernel
theorem dX11_told_3 : decode cX11_told 3 = .ok (.lload_n 2, 1) := by decide +kernel
theorem dX11_told_4 : decode cX11_told 4 = .ok (.lstore 7, 2) := by decide +kernel
theorem dX11_told_6 : decode cX11_told 6 = .ok (.lload 7, 2) := by decide +kernel
theorem dX11_told_8 : decode cX11_told 8 = .ok (.lconst 0, 1) := by decide +kernel
theorem dX11_told_9 : decode cX11_told 9 = .ok (.lcmp, 1) := by decide +kernel
theorem dX11_told_10 : decode cX11_told 10 = .ok (.ifCond .eq 21, 3) := by decide +kernel
theorem dX11_told_13 : decode cX11_told 13 = .ok (.lload 5, 2) := by decide +kernel
theorem dX11_told_15 : decode cX11_told 15 = .ok (.lload 7, 2) := by decide +kernel
theorem dX11_told_17 : decode cX11_told 17 = .ok (.lrem, 1) := by decide +kernel
theorem dX11_told_18 : decode cX11_told 18 = .ok (.lstore 9, 2) := by decide +kernel
theorem dX11_told_20 : decode cX11_told 20 = .ok (.lload 7, 2) := by decide +kernel
theorem dX11_told_22 : decode cX11_told 22 = .ok (.lstore 5, 2) := by decide +kernel
theorem dX11_told_24 : decode cX11_told 24 = .ok (.lload 9, 2) := by decide +kernel
theorem dX11_told_26 : decode cX11_told 26 = .ok (.lstore 7, 2) := by decide +kernel
theorem dX11_told_28 : decode cX11_told 28 = .ok (.goto (-22), 3) := by decide +kernel
theorem dX11_told_31 : decode cX11_told 31 = .ok (.iload 4, 2) := by decide +kernel
theorem dX11_told_33 : decode cX11_told 33 = .ok (.ifCond .eq 10, 3) := by decide +kernel
theorem dX11_told_36 : decode cX11_told 36 = .ok (.lload_n 0, 1) := by decide +kernel
theorem dX11_told_37 : decode cX11_told 37 = .ok (.lload 5, 2) := by decide +kernel
theorem dX11_told_39 : decode cX11_told 39 = .ok (.ldiv, 1) := by decide +kernel
theorem dX11_told_40 : decode cX11_told 40 = .ok (.goto 7, 3) := by decide +kernel
theorem dX11_told_43 : decode cX11_told 43 = .ok (.lload_n 2, 1) := by decide +kernel
theorem dX11_told_44 : decode cX11_told 44 = .ok (.lload 5, 2) := by decide +kernel
theorem dX11_told_46 : decode cX11_told 46 = .ok (.ldiv, 1) := by decide +kernel
theorem dX11_told_47 : decode cX11_told 47 = .ok (.lreturn, 1) := by decide +kernel
theorem dX11_chance_0 : decode cX11_chance 0 = .ok (.iload_n 1, 1) := by decide +kernel
theorem dX11_chance_1 : decode cX11_chance 1 = .ok (.invokestatic 117, 3) := by decide +kernel
theorem dX11_chance_4 : decode cX11_chance 4 = .ok (.ifCond .eq 28, 3) := by decide +kernel
theorem dX11_chance_7 : decode cX11_chance 7 = .ok (.aload_n 0, 1) := by decide +kernel
theorem dX11_chance_8 : decode cX11_chance 8 = .ok (.iload_n 2, 1) := by decide +kernel
theorem dX11_chance_9 : decode cX11_chance 9 = .ok (.invokevirtual 187, 3) := by decide +kernel
theorem dX11_chance_12 : decode cX11_chance 12 = .ok (.ifCond .eq 20, 3) := by decide +kernel
theorem dX11_chance_15 : decode cX11_chance 15 = .ok (.aload_n 0, 1) := by decide +kernel
theorem dX11_chance_16 : decode cX11_chance 16 = .ok (.iload_n 1, 1) := by decide +kernel
theorem dX11_chance_17 : decode cX11_chance 17 = .ok (.iload_n 2, 1) := by decide +kernel
theorem dX11_chance_18 : decode cX11_chance 18 = .ok (.invokevirtual 201, 3) := by decide +kernel
theorem dX11_chance_21 : decode cX11_chance 21 = .ok (.i2l, 1) := by decide +kernel
theorem dX11_chance_22 : decode cX11_chance 22 = .ok (.ldc2_w 204, 3) := by decide +kernel
theorem dX11_chance_25 : decode cX11_chance 25 = .ok (.iload_n 3, 1) := by decide +kernel
theorem dX11_chance_26 : decode cX11_chance 26 = .ok (.invokestatic 206, 3) := by decide +kernel
theorem dX11_chance_29 : decode cX11_chance 29 = .ok (.goto 6, 3) := by decide +kernel
theorem dX11_chance_32 : decode cX11_chance 32 = .ok (.ldc2_w 210, 3) := by decide +kernel
theorem dX11_chance_35 : decode cX11_chance 35 = .ok (.lreturn, 1) := by decide +kernel
theorem dX11_weight_0 : decode cX11_weight 0 = .ok (.iload_n 1, 1) := by decide +kernel
theorem dX11_weight_1 : decode cX11_weight 1 = .ok (.invokestatic 117, 3) := by decide +kernel
theorem dX11_weight_4 : decode cX11_weight 4 = .ok (.ifCond .ne 5, 3) := by decide +kernel
theorem dX11_weight_7 : decode cX11_weight 7 = .ok (.iconst (-1), 1) := by decide +kernel
theorem dX11_weight_8 : decode cX11_weight 8 = .ok (.ireturn, 1) := by decide +kernel
theorem dX11_weight_9 : decode cX11_weight 9 = .ok (.iload_n 2, 1) := by decide +kernel
theorem dX11_weight_10 : decode cX11_weight 10 = .ok (.i2l, 1) := by decide +kernel
theorem dX11_weight_11 : decode cX11_weight 11 = .ok (.lconst 0, 1) := by decide +kernel
theorem dX11_weight_12 : decode cX11_weight 12 = .ok (.ldc2_w 81, 3) := by decide +kernel
theorem dX11_weight_15 : decode cX11_weight 15 = .ok (.invokestatic 65, 3) := by decide +kernel
theorem dX11_weight_18 : decode cX11_weight 18 = .ok (.ifCond .ne 6, 3) := by decide +kernel
theorem dX11_weight_21 : decode cX11_weight 21 = .ok (.bipush (-2), 2) := by decide +kernel
theorem dX11_weight_23 : decode cX11_weight 23 = .ok (.ireturn, 1) := by decide +kernel
theorem dX11_weight_24 : decode cX11_weight 24 = .ok (.aload_n 0, 1) := by decide +kernel
theorem dX11_weight_25 : decode cX11_weight 25 = .ok (.getfield 28, 3) := by decide +kernel
theorem dX11_weight_28 : decode cX11_weight 28 = .ok (.iload_n 1, 1) := by decide +kernel
theorem dX11_weight_29 : decode cX11_weight 29 = .ok (.iaload, 1) := by decide +kernel
theorem dX11_weight_30 : decode cX11_weight 30 = .ok (.istore_n 3, 1) := by decide +kernel
theorem dX11_weight_31 : decode cX11_weight 31 = .ok (.aload_n 0, 1) := by decide +kernel
theorem dX11_weight_32 : decode cX11_weight 32 = .ok (.getfield 28, 3) := by decide +kernel
theorem dX11_weight_35 : decode cX11_weight 35 = .ok (.iload_n 1, 1) := by decide +kernel
theorem dX11_weight_36 : decode cX11_weight 36 = .ok (.iload_n 2, 1) := by decide +kernel
theorem dX11_weight_37 : decode cX11_weight 37 = .ok (.iastore, 1) := by decide +kernel
theorem dX11_weight_38 : decode cX11_weight 38 = .ok (.iload_n 3, 1) := by decide +kernel
theorem dX11_weight_39 : decode cX11_weight 39 = .ok (.ireturn, 1) := by decide +kernel
theorem dX11_layLots_0 : decode cX11_layLots 0 = .ok (.aload_n 0, 1) := by decide +kernel
theorem dX11_layLots_1 : decode cX11_layLots 1 = .ok (.lconst 0, 1) := by decide +kernel
theorem dX11_layLots_2 : decode cX11_layLots 2 = .ok (.putfield 212, 3) := by decide +kernel
theorem dX11_layLots_5 : decode cX11_layLots 5 = .ok (.iconst 0, 1) := by decide +kernel
theorem dX11_layLots_6 : decode cX11_layLots 6 = .ok (.istore_n 2, 1) := by decide +kernel
theorem dX11_layLots_7 : decode cX11_layLots 7 = .ok (.iload_n 2, 1) := by decide +kernel
theorem dX11_layLots_8 : decode cX11_layLots 8 = .ok (.iconst 4, 1) := by decide +kernel
theorem dX11_layLots_9 : decode cX11_layLots 9 = .ok (.if_icmp .ge 78, 3) := by decide +kernel
theorem dX11_layLots_12 : decode cX11_layLots 12 = .ok (.aload_n 0, 1) := by decide +kernel
theorem dX11_layLots_13 : decode cX11_layLots 13 = .ok (.getfield 40, 3) := by decide +kernel
theorem dX11_layLots_16 : decode cX11_layLots 16 = .ok (.iload_n 2, 1) := by decide +kernel
theorem dX11_layLots_17 : decode cX11_layLots 17 = .ok (.aload_n 0, 1) := by decide +kernel
theorem dX11_layLots_18 : decode cX11_layLots 18 = .ok (.getfield 28, 3) := by decide +kernel
theorem dX11_layLots_21 : decode cX11_layLots 21 = .ok (.iload_n 2, 1) := by decide +kernel
theorem dX11_layLots_22 : decode cX11_layLots 22 = .ok (.iaload, 1) := by decide +kernel
theorem dX11_layLots_23 : decode cX11_layLots 23 = .ok (.i2l, 1) := by decide +kernel
theorem dX11_layLots_24 : decode cX11_layLots 24 = .ok (.lastore, 1) := by decide +kernel
theorem dX11_layLots_25 : decode cX11_layLots 25 = .ok (.iconst 0, 1) := by decide +kernel
theorem dX11_layLots_26 : decode cX11_layLots 26 = .ok (.istore_n 3, 1) := by decide +kernel
theorem dX11_layLots_27 : decode cX11_layLots 27 = .ok (.iload_n 3, 1) := by decide +kernel
theorem dX11_layLots_28 : decode cX11_layLots 28 = .ok (.aload_n 0, 1) := by decide +kernel
theorem dX11_layLots_29 : decode cX11_layLots 29 = .ok (.getfield 180, 3) := by decide +kernel
theorem dX11_layLots_32 : decode cX11_layLots 32 = .ok (.if_icmp .ge 34, 3) := by decide +kernel
theorem dX11_layLots_35 : decode cX11_layLots 35 = .ok (.aload_n 0, 1) := by decide +kernel
theorem dX11_layLots_36 : decode cX11_layLots 36 = .ok (.getfield 40, 3) := by decide +kernel
theorem dX11_layLots_39 : decode cX11_layLots 39 = .ok (.iload_n 2, 1) := by decide +kernel
theorem dX11_layLots_40 : decode cX11_layLots 40 = .ok (.dup2, 1) := by decide +kernel
theorem dX11_layLots_41 : decode cX11_layLots 41 = .ok (.laload, 1) := by decide +kernel
theorem dX11_layLots_42 : decode cX11_layLots 42 = .ok (.iload_n 3, 1) := by decide +kernel
theorem dX11_layLots_43 : decode cX11_layLots 43 = .ok (.iload_n 1, 1) := by decide +kernel
theorem dX11_layLots_44 : decode cX11_layLots 44 = .ok (.if_icmp .ne 7, 3) := by decide +kernel
theorem dX11_layLots_47 : decode cX11_layLots 47 = .ok (.lconst 1, 1) := by decide +kernel
theorem dX11_layLots_48 : decode cX11_layLots 48 = .ok (.goto 10, 3) := by decide +kernel
theorem dX11_layLots_51 : decode cX11_layLots 51 = .ok (.aload_n 0, 1) := by decide +kernel
theorem dX11_layLots_52 : decode cX11_layLots 52 = .ok (.iload_n 2, 1) := by decide +kernel
theorem dX11_layLots_53 : decode cX11_layLots 53 = .ok (.iload_n 3, 1) := by decide +kernel
theorem dX11_layLots_54 : decode cX11_layLots 54 = .ok (.invokevirtual 201, 3) := by decide +kernel
theorem dX11_layLots_57 : decode cX11_layLots 57 = .ok (.i2l, 1) := by decide +kernel
theorem dX11_layLots_58 : decode cX11_layLots 58 = .ok (.lmul, 1) := by decide +kernel
theorem dX11_layLots_59 : decode cX11_layLots 59 = .ok (.lastore, 1) := by decide +kernel
theorem dX11_layLots_60 : decode cX11_layLots 60 = .ok (.iinc 3 1, 3) := by decide +kernel
theorem dX11_layLots_63 : decode cX11_layLots 63 = .ok (.goto (-36), 3) := by decide +kernel
theorem dX11_layLots_66 : decode cX11_layLots 66 = .ok (.aload_n 0, 1) := by decide +kernel
theorem dX11_layLots_67 : decode cX11_layLots 67 = .ok (.dup, 1) := by decide +kernel
theorem dX11_layLots_68 : decode cX11_layLots 68 = .ok (.getfield 212, 3) := by decide +kernel
theorem dX11_layLots_71 : decode cX11_layLots 71 = .ok (.aload_n 0, 1) := by decide +kernel
theorem dX11_layLots_72 : decode cX11_layLots 72 = .ok (.getfield 40, 3) := by decide +kernel
theorem dX11_layLots_75 : decode cX11_layLots 75 = .ok (.iload_n 2, 1) := by decide +kernel
theorem dX11_layLots_76 : decode cX11_layLots 76 = .ok (.laload, 1) := by decide +kernel
theorem dX11_layLots_77 : decode cX11_layLots 77 = .ok (.ladd, 1) := by decide +kernel
theorem dX11_layLots_78 : decode cX11_layLots 78 = .ok (.putfield 212, 3) := by decide +kernel
theorem dX11_layLots_81 : decode cX11_layLots 81 = .ok (.iinc 2 1, 3) := by decide +kernel
theorem dX11_layLots_84 : decode cX11_layLots 84 = .ok (.goto (-77), 3) := by decide +kernel
theorem dX11_layLots_87 : decode cX11_layLots 87 = .ok (.return_, 1) := by decide +kernel
theorem dX11_odds_0 : decode cX11_odds 0 = .ok (.iload_n 1, 1) := by decide +kernel
theorem dX11_odds_1 : decode cX11_odds 1 = .ok (.invokestatic 117, 3) := by decide +kernel
theorem dX11_odds_4 : decode cX11_odds 4 = .ok (.ifCond .ne 7, 3) := by decide +kernel
theorem dX11_odds_7 : decode cX11_odds 7 = .ok (.ldc2_w 210, 3) := by decide +kernel
theorem dX11_odds_10 : decode cX11_odds 10 = .ok (.lreturn, 1) := by decide +kernel
theorem dX11_odds_11 : decode cX11_odds 11 = .ok (.aload_n 0, 1) := by decide +kernel
theorem dX11_odds_12 : decode cX11_odds 12 = .ok (.iconst (-1), 1) := by decide +kernel
theorem dX11_odds_13 : decode cX11_odds 13 = .ok (.invokevirtual 216, 3) := by decide +kernel
theorem dX11_odds_16 : decode cX11_odds 16 = .ok (.aload_n 0, 1) := by decide +kernel
theorem dX11_odds_17 : decode cX11_odds 17 = .ok (.getfield 212, 3) := by decide +kernel
theorem dX11_odds_20 : decode cX11_odds 20 = .ok (.lconst 0, 1) := by decide +kernel
theorem dX11_odds_21 : decode cX11_odds 21 = .ok (.lcmp, 1) := by decide +kernel
theorem dX11_odds_22 : decode cX11_odds 22 = .ok (.ifCond .ne 9, 3) := by decide +kernel
theorem dX11_odds_25 : decode cX11_odds 25 = .ok (.ldc2_w 220, 3) := by decide +kernel
theorem dX11_odds_28 : decode cX11_odds 28 = .ok (.goto 17, 3) := by decide +kernel
theorem dX11_odds_31 : decode cX11_odds 31 = .ok (.aload_n 0, 1) := by decide +kernel
theorem dX11_odds_32 : decode cX11_odds 32 = .ok (.getfield 40, 3) := by decide +kernel
theorem dX11_odds_35 : decode cX11_odds 35 = .ok (.iload_n 1, 1) := by decide +kernel
theorem dX11_odds_36 : decode cX11_odds 36 = .ok (.laload, 1) := by decide +kernel
theorem dX11_odds_37 : decode cX11_odds 37 = .ok (.aload_n 0, 1) := by decide +kernel
theorem dX11_odds_38 : decode cX11_odds 38 = .ok (.getfield 212, 3) := by decide +kernel
theorem dX11_odds_41 : decode cX11_odds 41 = .ok (.iload_n 2, 1) := by decide +kernel
theorem dX11_odds_42 : decode cX11_odds 42 = .ok (.invokestatic 206, 3) := by decide +kernel
theorem dX11_odds_45 : decode cX11_odds 45 = .ok (.lreturn, 1) := by decide +kernel
theorem dX11_bestOf_0 : decode cX11_bestOf 0 = .ok (.iconst 0, 1) := by decide +kernel
theorem dX11_bestOf_1 : decode cX11_bestOf 1 = .ok (.istore_n 1, 1) := by decide +kernel
theorem dX11_bestOf_2 : decode cX11_bestOf 2 = .ok (.iconst 1, 1) := by decide +kernel
theorem dX11_bestOf_3 : decode cX11_bestOf 3 = .ok (.istore_n 2, 1) := by decide +kernel
theorem dX11_bestOf_4 : decode cX11_bestOf 4 = .ok (.iload_n 2, 1) := by decide +kernel
theorem dX11_bestOf_5 : decode cX11_bestOf 5 = .ok (.iconst 4, 1) := by decide +kernel
theorem dX11_bestOf_6 : decode cX11_bestOf 6 = .ok (.if_icmp .ge 31, 3) := by decide +kernel
theorem dX11_bestOf_9 : decode cX11_bestOf 9 = .ok (.aload_n 0, 1) := by decide +kernel
theorem dX11_bestOf_10 : decode cX11_bestOf 10 = .ok (.getfield 40, 3) := by decide +kernel
theorem dX11_bestOf_13 : decode cX11_bestOf 13 = .ok (.iload_n 2, 1) := by decide +kernel
theorem dX11_bestOf_14 : decode cX11_bestOf 14 = .ok (.laload, 1) := by decide +kernel
theorem dX11_bestOf_15 : decode cX11_bestOf 15 = .ok (.aload_n 0, 1) := by decide +kernel
theorem dX11_bestOf_16 : decode cX11_bestOf 16 = .ok (.getfield 40, 3) := by decide +kernel
theorem dX11_bestOf_19 : decode cX11_bestOf 19 = .ok (.iload_n 1, 1) := by decide +kernel
theorem dX11_bestOf_20 : decode cX11_bestOf 20 = .ok (.laload, 1) := by decide +kernel
theorem dX11_bestOf_21 : decode cX11_bestOf 21 = .ok (.lcmp, 1) := by decide +kernel
theorem dX11_bestOf_22 : decode cX11_bestOf 22 = .ok (.ifCond .le 7, 3) := by decide +kernel
theorem dX11_bestOf_25 : decode cX11_bestOf 25 = .ok (.iload_n 2, 1) := by decide +kernel
theorem dX11_bestOf_26 : decode cX11_bestOf 26 = .ok (.goto 4, 3) := by decide +kernel
theorem dX11_bestOf_29 : decode cX11_bestOf 29 = .ok (.iload_n 1, 1) := by decide +kernel
theorem dX11_bestOf_30 : decode cX11_bestOf 30 = .ok (.istore_n 1, 1) := by decide +kernel
theorem dX11_bestOf_31 : decode cX11_bestOf 31 = .ok (.iinc 2 1, 3) := by decide +kernel
theorem dX11_bestOf_34 : decode cX11_bestOf 34 = .ok (.goto (-30), 3) := by decide +kernel
theorem dX11_bestOf_37 : decode cX11_bestOf 37 = .ok (.iload_n 1, 1) := by decide +kernel
theorem dX11_bestOf_38 : decode cX11_bestOf 38 = .ok (.ireturn, 1) := by decide +kernel
theorem dX11_best_0 : decode cX11_best 0 = .ok (.aload_n 0, 1) := by decide +kernel
theorem dX11_best_1 : decode cX11_best 1 = .ok (.iconst (-1), 1) := by decide +kernel
theorem dX11_best_2 : decode cX11_best 2 = .ok (.invokevirtual 216, 3) := by decide +kernel
theorem dX11_best_5 : decode cX11_best 5 = .ok (.aload_n 0, 1) := by decide +kernel
theorem dX11_best_6 : decode cX11_best 6 = .ok (.getfield 212, 3) := by decide +kernel
theorem dX11_best_9 : decode cX11_best 9 = .ok (.lconst 0, 1) := by decide +kernel
theorem dX11_best_10 : decode cX11_best 10 = .ok (.lcmp, 1) := by decide +kernel
theorem dX11_best_11 : decode cX11_best 11 = .ok (.ifCond .ne 8, 3) := by decide +kernel
theorem dX11_best_14 : decode cX11_best 14 = .ok (.bipush (-3), 2) := by decide +kernel
theorem dX11_best_16 : decode cX11_best 16 = .ok (.goto 7, 3) := by decide +kernel
theorem dX11_best_19 : decode cX11_best 19 = .ok (.aload_n 0, 1) := by decide +kernel
theorem dX11_best_20 : decode cX11_best 20 = .ok (.invokevirtual 222, 3) := by decide +kernel
theorem dX11_best_23 : decode cX11_best 23 = .ok (.ireturn, 1) := by decide +kernel
theorem dX11_millionths_0 : decode cX11_millionths 0 = .ok (.aload_n 0, 1) := by decide +kernel
theorem dX11_millionths_1 : decode cX11_millionths 1 = .ok (.getfield 212, 3) := by decide +kernel
theorem dX11_millionths_4 : decode cX11_millionths 4 = .ok (.lconst 0, 1) := by decide +kernel
theorem dX11_millionths_5 : decode cX11_millionths 5 = .ok (.lcmp, 1) := by decide +kernel
theorem dX11_millionths_6 : decode cX11_millionths 6 = .ok (.ifCond .ne 5, 3) := by decide +kernel
theorem dX11_millionths_9 : decode cX11_millionths 9 = .ok (.iconst 0, 1) := by decide +kernel
theorem dX11_millionths_10 : decode cX11_millionths 10 = .ok (.ireturn, 1) := by decide +kernel
theorem dX11_millionths_11 : decode cX11_millionths 11 = .ok (.aload_n 0, 1) := by decide +kernel
theorem dX11_millionths_12 : decode cX11_millionths 12 = .ok (.getfield 40, 3) := by decide +kernel
theorem dX11_millionths_15 : decode cX11_millionths 15 = .ok (.iload_n 1, 1) := by decide +kernel
theorem dX11_millionths_16 : decode cX11_millionths 16 = .ok (.laload, 1) := by decide +kernel
theorem dX11_millionths_17 : decode cX11_millionths 17 = .ok (.aload_n 0, 1) := by decide +kernel
theorem dX11_millionths_18 : decode cX11_millionths 18 = .ok (.getfield 212, 3) := by decide +kernel
theorem dX11_millionths_21 : decode cX11_millionths 21 = .ok (.lrem, 1) := by decide +kernel
theorem dX11_millionths_22 : decode cX11_millionths 22 = .ok (.lstore_n 2, 1) := by decide +kernel
theorem dX11_millionths_23 : decode cX11_millionths 23 = .ok (.aload_n 0, 1) := by decide +kernel
theorem dX11_millionths_24 : decode cX11_millionths 24 = .ok (.getfield 40, 3) := by decide +kernel
theorem dX11_millionths_27 : decode cX11_millionths 27 = .ok (.iload_n 1, 1) := by decide +kernel
theorem dX11_millionths_28 : decode cX11_millionths 28 = .ok (.laload, 1) := by decide +kernel
theorem dX11_millionths_29 : decode cX11_millionths 29 = .ok (.aload_n 0, 1) := by decide +kernel
theorem dX11_millionths_30 : decode cX11_millionths 30 = .ok (.getfield 212, 3) := by decide +kernel
theorem dX11_millionths_33 : decode cX11_millionths 33 = .ok (.ldiv, 1) := by decide +kernel
theorem dX11_millionths_34 : decode cX11_millionths 34 = .ok (.l2i, 1) := by decide +kernel
theorem dX11_millionths_35 : decode cX11_millionths 35 = .ok (.istore 4, 2) := by decide +kernel
theorem dX11_millionths_37 : decode cX11_millionths 37 = .ok (.iconst 0, 1) := by decide +kernel
theorem dX11_millionths_38 : decode cX11_millionths 38 = .ok (.istore 5, 2) := by decide +kernel
theorem dX11_millionths_40 : decode cX11_millionths 40 = .ok (.iload 5, 2) := by decide +kernel
theorem dX11_millionths_42 : decode cX11_millionths 42 = .ok (.bipush 6, 2) := by decide +kernel
theorem dX11_millionths_44 : decode cX11_millionths 44 = .ok (.if_icmp .ge 37, 3) := by decide +kernel
theorem dX11_millionths_47 : decode cX11_millionths 47 = .ok (.lload_n 2, 1) := by decide +kernel
theorem dX11_millionths_48 : decode cX11_millionths 48 = .ok (.ldc2_w 185, 3) := by decide +kernel
theorem dX11_millionths_51 : decode cX11_millionths 51 = .ok (.lmul, 1) := by decide +kernel
theorem dX11_millionths_52 : decode cX11_millionths 52 = .ok (.lstore_n 2, 1) := by decide +kernel
theorem dX11_millionths_53 : decode cX11_millionths 53 = .ok (.bipush 10, 2) := by decide +kernel
theorem dX11_millionths_55 : decode cX11_millionths 55 = .ok (.iload 4, 2) := by decide +kernel
theorem dX11_millionths_57 : decode cX11_millionths 57 = .ok (.imul, 1) := by decide +kernel
theorem dX11_millionths_58 : decode cX11_millionths 58 = .ok (.lload_n 2, 1) := by decide +kernel
theorem dX11_millionths_59 : decode cX11_millionths 59 = .ok (.aload_n 0, 1) := by decide +kernel
theorem dX11_millionths_60 : decode cX11_millionths 60 = .ok (.getfield 212, 3) := by decide +kernel
theorem dX11_millionths_63 : decode cX11_millionths 63 = .ok (.ldiv, 1) := by decide +kernel
theorem dX11_millionths_64 : decode cX11_millionths 64 = .ok (.l2i, 1) := by decide +kernel
theorem dX11_millionths_65 : decode cX11_millionths 65 = .ok (.iadd, 1) := by decide +kernel
theorem dX11_millionths_66 : decode cX11_millionths 66 = .ok (.istore 4, 2) := by decide +kernel
theorem dX11_millionths_68 : decode cX11_millionths 68 = .ok (.lload_n 2, 1) := by decide +kernel
theorem dX11_millionths_69 : decode cX11_millionths 69 = .ok (.aload_n 0, 1) := by decide +kernel
theorem dX11_millionths_70 : decode cX11_millionths 70 = .ok (.getfield 212, 3) := by decide +kernel
theorem dX11_millionths_73 : decode cX11_millionths 73 = .ok (.lrem, 1) := by decide +kernel
theorem dX11_millionths_74 : decode cX11_millionths 74 = .ok (.lstore_n 2, 1) := by decide +kernel
theorem dX11_millionths_75 : decode cX11_millionths 75 = .ok (.iinc 5 1, 3) := by decide +kernel
theorem dX11_millionths_78 : decode cX11_millionths 78 = .ok (.goto (-38), 3) := by decide +kernel
theorem dX11_millionths_81 : decode cX11_millionths 81 = .ok (.iload 4, 2) := by decide +kernel
theorem dX11_millionths_83 : decode cX11_millionths 83 = .ok (.ireturn, 1) := by decide +kernel
theorem dX11_mover_0 : decode cX11_mover 0 = .ok (.aload_n 0, 1) := by decide +kernel
theorem dX11_mover_1 : decode cX11_mover 1 = .ok (.iconst (-1), 1) := by decide +kernel
theorem dX11_mover_2 : decode cX11_mover 2 = .ok (.invokevirtual 216, 3) := by decide +kernel
theorem dX11_mover_5 : decode cX11_mover 5 = .ok (.aload_n 0, 1) := by decide +kernel
theorem dX11_mover_6 : decode cX11_mover 6 = .ok (.getfield 212, 3) := by decide +kernel
theorem dX11_mover_9 : decode cX11_mover 9 = .ok (.lconst 0, 1) := by decide +kernel
theorem dX11_mover_10 : decode cX11_mover 10 = .ok (.lcmp, 1) := by decide +kernel
theorem dX11_mover_11 : decode cX11_mover 11 = .ok (.ifCond .ne 6, 3) := by decide +kernel
theorem dX11_mover_14 : decode cX11_mover 14 = .ok (.bipush (-3), 2) := by decide +kernel
theorem dX11_mover_16 : decode cX11_mover 16 = .ok (.ireturn, 1) := by decide +kernel
theorem dX11_mover_17 : decode cX11_mover 17 = .ok (.aload_n 0, 1) := by decide +kernel
theorem dX11_mover_18 : decode cX11_mover 18 = .ok (.invokevirtual 222, 3) := by decide +kernel
theorem dX11_mover_21 : decode cX11_mover 21 = .ok (.istore_n 1, 1) := by decide +kernel
theorem dX11_mover_22 : decode cX11_mover 22 = .ok (.aload_n 0, 1) := by decide +kernel
theorem dX11_mover_23 : decode cX11_mover 23 = .ok (.iload_n 1, 1) := by decide +kernel
theorem dX11_mover_24 : decode cX11_mover 24 = .ok (.invokevirtual 225, 3) := by decide +kernel
theorem dX11_mover_27 : decode cX11_mover 27 = .ok (.istore_n 2, 1) := by decide +kernel
theorem dX11_mover_28 : decode cX11_mover 28 = .ok (.bipush (-9), 2) := by decide +kernel
theorem dX11_mover_30 : decode cX11_mover 30 = .ok (.istore_n 3, 1) := by decide +kernel
theorem dX11_mover_31 : decode cX11_mover 31 = .ok (.iconst (-1), 1) := by decide +kernel
theorem dX11_mover_32 : decode cX11_mover 32 = .ok (.istore 4, 2) := by decide +kernel
theorem dX11_mover_34 : decode cX11_mover 34 = .ok (.iconst 0, 1) := by decide +kernel
theorem dX11_mover_35 : decode cX11_mover 35 = .ok (.istore 5, 2) := by decide +kernel
theorem dX11_mover_37 : decode cX11_mover 37 = .ok (.iload 5, 2) := by decide +kernel
theorem dX11_mover_39 : decode cX11_mover 39 = .ok (.aload_n 0, 1) := by decide +kernel
theorem dX11_mover_40 : decode cX11_mover 40 = .ok (.getfield 180, 3) := by decide +kernel
theorem dX11_mover_43 : decode cX11_mover 43 = .ok (.if_icmp .ge 69, 3) := by decide +kernel
theorem dX11_mover_46 : decode cX11_mover 46 = .ok (.aload_n 0, 1) := by decide +kernel
theorem dX11_mover_47 : decode cX11_mover 47 = .ok (.iload 5, 2) := by decide +kernel
theorem dX11_mover_49 : decode cX11_mover 49 = .ok (.invokevirtual 216, 3) := by decide +kernel
theorem dX11_mover_52 : decode cX11_mover 52 = .ok (.aload_n 0, 1) := by decide +kernel
theorem dX11_mover_53 : decode cX11_mover 53 = .ok (.iload_n 1, 1) := by decide +kernel
theorem dX11_mover_54 : decode cX11_mover 54 = .ok (.invokevirtual 225, 3) := by decide +kernel
theorem dX11_mover_57 : decode cX11_mover 57 = .ok (.iload_n 2, 1) := by decide +kernel
theorem dX11_mover_58 : decode cX11_mover 58 = .ok (.isub, 1) := by decide +kernel
theorem dX11_mover_59 : decode cX11_mover 59 = .ok (.istore 6, 2) := by decide +kernel
theorem dX11_mover_61 : decode cX11_mover 61 = .ok (.iload 6, 2) := by decide +kernel
theorem dX11_mover_63 : decode cX11_mover 63 = .ok (.ifCond .ge 9, 3) := by decide +kernel
theorem dX11_mover_66 : decode cX11_mover 66 = .ok (.iload 6, 2) := by decide +kernel
theorem dX11_mover_68 : decode cX11_mover 68 = .ok (.ineg, 1) := by decide +kernel
theorem dX11_mover_69 : decode cX11_mover 69 = .ok (.goto 5, 3) := by decide +kernel
theorem dX11_mover_72 : decode cX11_mover 72 = .ok (.iload 6, 2) := by decide +kernel
theorem dX11_mover_74 : decode cX11_mover 74 = .ok (.istore 6, 2) := by decide +kernel
theorem dX11_mover_76 : decode cX11_mover 76 = .ok (.iload 6, 2) := by decide +kernel
theorem dX11_mover_78 : decode cX11_mover 78 = .ok (.iload 4, 2) := by decide +kernel
theorem dX11_mover_80 : decode cX11_mover 80 = .ok (.if_icmp .le 8, 3) := by decide +kernel
theorem dX11_mover_83 : decode cX11_mover 83 = .ok (.iload 5, 2) := by decide +kernel
theorem dX11_mover_85 : decode cX11_mover 85 = .ok (.goto 4, 3) := by decide +kernel
theorem dX11_mover_88 : decode cX11_mover 88 = .ok (.iload_n 3, 1) := by decide +kernel
theorem dX11_mover_89 : decode cX11_mover 89 = .ok (.istore_n 3, 1) := by decide +kernel
theorem dX11_mover_90 : decode cX11_mover 90 = .ok (.iload 6, 2) := by decide +kernel
theorem dX11_mover_92 : decode cX11_mover 92 = .ok (.iload 4, 2) := by decide +kernel
theorem dX11_mover_94 : decode cX11_mover 94 = .ok (.if_icmp .le 8, 3) := by decide +kernel
theorem dX11_mover_97 : decode cX11_mover 97 = .ok (.iload 6, 2) := by decide +kernel
theorem dX11_mover_99 : decode cX11_mover 99 = .ok (.goto 5, 3) := by decide +kernel
theorem dX11_mover_102 : decode cX11_mover 102 = .ok (.iload 4, 2) := by decide +kernel
theorem dX11_mover_104 : decode cX11_mover 104 = .ok (.istore 4, 2) := by decide +kernel
theorem dX11_mover_106 : decode cX11_mover 106 = .ok (.iinc 5 1, 3) := by decide +kernel
theorem dX11_mover_109 : decode cX11_mover 109 = .ok (.goto (-72), 3) := by decide +kernel
theorem dX11_mover_112 : decode cX11_mover 112 = .ok (.iload_n 3, 1) := by decide +kernel
theorem dX11_mover_113 : decode cX11_mover 113 = .ok (.ireturn, 1) := by decide +kernel
theorem dX11_next_0 : decode cX11_next 0 = .ok (.aload_n 0, 1) := by decide +kernel
theorem dX11_next_1 : decode cX11_next 1 = .ok (.iconst (-1), 1) := by decide +kernel
theorem dX11_next_2 : decode cX11_next 2 = .ok (.invokevirtual 216, 3) := by decide +kernel
theorem dX11_next_5 : decode cX11_next 5 = .ok (.aload_n 0, 1) := by decide +kernel
theorem dX11_next_6 : decode cX11_next 6 = .ok (.getfield 212, 3) := by decide +kernel
theorem dX11_next_9 : decode cX11_next 9 = .ok (.lconst 0, 1) := by decide +kernel
theorem dX11_next_10 : decode cX11_next 10 = .ok (.lcmp, 1) := by decide +kernel
theorem dX11_next_11 : decode cX11_next 11 = .ok (.ifCond .ne 6, 3) := by decide +kernel
theorem dX11_next_14 : decode cX11_next 14 = .ok (.bipush (-3), 2) := by decide +kernel
theorem dX11_next_16 : decode cX11_next 16 = .ok (.ireturn, 1) := by decide +kernel
theorem dX11_next_17 : decode cX11_next 17 = .ok (.iconst 0, 1) := by decide +kernel
theorem dX11_next_18 : decode cX11_next 18 = .ok (.istore_n 1, 1) := by decide +kernel
theorem dX11_next_19 : decode cX11_next 19 = .ok (.ldc2_w 210, 3) := by decide +kernel
theorem dX11_next_22 : decode cX11_next 22 = .ok (.lstore_n 2, 1) := by decide +kernel
theorem dX11_next_23 : decode cX11_next 23 = .ok (.iconst 0, 1) := by decide +kernel
theorem dX11_next_24 : decode cX11_next 24 = .ok (.istore 4, 2) := by decide +kernel
theorem dX11_next_26 : decode cX11_next 26 = .ok (.iload 4, 2) := by decide +kernel
theorem dX11_next_28 : decode cX11_next 28 = .ok (.bipush 60, 2) := by decide +kernel
theorem dX11_next_30 : decode cX11_next 30 = .ok (.if_icmp .ge 123, 3) := by decide +kernel
theorem dX11_next_33 : decode cX11_next 33 = .ok (.lconst 0, 1) := by decide +kernel
theorem dX11_next_34 : decode cX11_next 34 = .ok (.lstore 5, 2) := by decide +kernel
theorem dX11_next_36 : decode cX11_next 36 = .ok (.iconst 0, 1) := by decide +kernel
theorem dX11_next_37 : decode cX11_next 37 = .ok (.istore 7, 2) := by decide +kernel
theorem dX11_next_39 : decode cX11_next 39 = .ok (.iload 7, 2) := by decide +kernel
theorem dX11_next_41 : decode cX11_next 41 = .ok (.iconst 4, 1) := by decide +kernel
theorem dX11_next_42 : decode cX11_next 42 = .ok (.if_icmp .ge 56, 3) := by decide +kernel
theorem dX11_next_45 : decode cX11_next 45 = .ok (.lload 5, 2) := by decide +kernel
theorem dX11_next_47 : decode cX11_next 47 = .ok (.aload_n 0, 1) := by decide +kernel
theorem dX11_next_48 : decode cX11_next 48 = .ok (.getfield 25, 3) := by decide +kernel
theorem dX11_next_51 : decode cX11_next 51 = .ok (.bipush 100, 2) := by decide +kernel
theorem dX11_next_53 : decode cX11_next 53 = .ok (.iload 7, 2) := by decide +kernel
theorem dX11_next_55 : decode cX11_next 55 = .ok (.imul, 1) := by decide +kernel
theorem dX11_next_56 : decode cX11_next 56 = .ok (.bipush 10, 2) := by decide +kernel
theorem dX11_next_58 : decode cX11_next 58 = .ok (.iload 4, 2) := by decide +kernel
theorem dX11_next_60 : decode cX11_next 60 = .ok (.bipush 10, 2) := by decide +kernel
theorem dX11_next_62 : decode cX11_next 62 = .ok (.irem, 1) := by decide +kernel
theorem dX11_next_63 : decode cX11_next 63 = .ok (.imul, 1) := by decide +kernel
theorem dX11_next_64 : decode cX11_next 64 = .ok (.iadd, 1) := by decide +kernel
theorem dX11_next_65 : decode cX11_next 65 = .ok (.iaload, 1) := by decide +kernel
theorem dX11_next_66 : decode cX11_next 66 = .ok (.iload 4, 2) := by decide +kernel
theorem dX11_next_68 : decode cX11_next 68 = .ok (.bipush 10, 2) := by decide +kernel
theorem dX11_next_70 : decode cX11_next 70 = .ok (.idiv, 1) := by decide +kernel
theorem dX11_next_71 : decode cX11_next 71 = .ok (.ishr, 1) := by decide +kernel
theorem dX11_next_72 : decode cX11_next 72 = .ok (.iconst 1, 1) := by decide +kernel
theorem dX11_next_73 : decode cX11_next 73 = .ok (.iand, 1) := by decide +kernel
theorem dX11_next_74 : decode cX11_next 74 = .ok (.iconst 1, 1) := by decide +kernel
theorem dX11_next_75 : decode cX11_next 75 = .ok (.if_icmp .ne 13, 3) := by decide +kernel
theorem dX11_next_78 : decode cX11_next 78 = .ok (.aload_n 0, 1) := by decide +kernel
theorem dX11_next_79 : decode cX11_next 79 = .ok (.getfield 40, 3) := by decide +kernel
theorem dX11_next_82 : decode cX11_next 82 = .ok (.iload 7, 2) := by decide +kernel
theorem dX11_next_84 : decode cX11_next 84 = .ok (.laload, 1) := by decide +kernel
theorem dX11_next_85 : decode cX11_next 85 = .ok (.goto 4, 3) := by decide +kernel
theorem dX11_next_88 : decode cX11_next 88 = .ok (.lconst 0, 1) := by decide +kernel
theorem dX11_next_89 : decode cX11_next 89 = .ok (.ladd, 1) := by decide +kernel
theorem dX11_next_90 : decode cX11_next 90 = .ok (.lstore 5, 2) := by decide +kernel
theorem dX11_next_92 : decode cX11_next 92 = .ok (.iinc 7 1, 3) := by decide +kernel
theorem dX11_next_95 : decode cX11_next 95 = .ok (.goto (-56), 3) := by decide +kernel
theorem dX11_next_98 : decode cX11_next 98 = .ok (.ldc2_w 228, 3) := by decide +kernel
theorem dX11_next_101 : decode cX11_next 101 = .ok (.lload 5, 2) := by decide +kernel
theorem dX11_next_103 : decode cX11_next 103 = .ok (.lmul, 1) := by decide +kernel
theorem dX11_next_104 : decode cX11_next 104 = .ok (.aload_n 0, 1) := by decide +kernel
theorem dX11_next_105 : decode cX11_next 105 = .ok (.getfield 212, 3) := by decide +kernel
theorem dX11_next_108 : decode cX11_next 108 = .ok (.lsub, 1) := by decide +kernel
theorem dX11_next_109 : decode cX11_next 109 = .ok (.lstore 7, 2) := by decide +kernel
theorem dX11_next_111 : decode cX11_next 111 = .ok (.lload 7, 2) := by decide +kernel
theorem dX11_next_113 : decode cX11_next 113 = .ok (.lconst 0, 1) := by decide +kernel
theorem dX11_next_114 : decode cX11_next 114 = .ok (.lcmp, 1) := by decide +kernel
theorem dX11_next_115 : decode cX11_next 115 = .ok (.ifCond .ge 9, 3) := by decide +kernel
theorem dX11_next_118 : decode cX11_next 118 = .ok (.lload 7, 2) := by decide +kernel
theorem dX11_next_120 : decode cX11_next 120 = .ok (.lneg, 1) := by decide +kernel
theorem dX11_next_121 : decode cX11_next 121 = .ok (.goto 5, 3) := by decide +kernel
theorem dX11_next_124 : decode cX11_next 124 = .ok (.lload 7, 2) := by decide +kernel
theorem dX11_next_126 : decode cX11_next 126 = .ok (.lstore 7, 2) := by decide +kernel
theorem dX11_next_128 : decode cX11_next 128 = .ok (.lload_n 2, 1) := by decide +kernel
theorem dX11_next_129 : decode cX11_next 129 = .ok (.lconst 0, 1) := by decide +kernel
theorem dX11_next_130 : decode cX11_next 130 = .ok (.lcmp, 1) := by decide +kernel
theorem dX11_next_131 : decode cX11_next 131 = .ok (.ifCond .lt 10, 3) := by decide +kernel
theorem dX11_next_134 : decode cX11_next 134 = .ok (.lload 7, 2) := by decide +kernel
theorem dX11_next_136 : decode cX11_next 136 = .ok (.lload_n 2, 1) := by decide +kernel
theorem dX11_next_137 : decode cX11_next 137 = .ok (.lcmp, 1) := by decide +kernel
theorem dX11_next_138 : decode cX11_next 138 = .ok (.ifCond .ge 9, 3) := by decide +kernel
theorem dX11_next_141 : decode cX11_next 141 = .ok (.iload 4, 2) := by decide +kernel
theorem dX11_next_143 : decode cX11_next 143 = .ok (.istore_n 1, 1) := by decide +kernel
theorem dX11_next_144 : decode cX11_next 144 = .ok (.lload 7, 2) := by decide +kernel
theorem dX11_next_146 : decode cX11_next 146 = .ok (.lstore_n 2, 1) := by decide +kernel
theorem dX11_next_147 : decode cX11_next 147 = .ok (.iinc 4 1, 3) := by decide +kernel
theorem dX11_next_150 : decode cX11_next 150 = .ok (.goto (-124), 3) := by decide +kernel
theorem dX11_next_153 : decode cX11_next 153 = .ok (.iload_n 1, 1) := by decide +kernel
theorem dX11_next_154 : decode cX11_next 154 = .ok (.ireturn, 1) := by decide +kernel
theorem dX11_once_0 : decode cX11_once 0 = .ok (.iconst 0, 1) := by decide +kernel
theorem dX11_once_1 : decode cX11_once 1 = .ok (.istore_n 1, 1) := by decide +kernel
theorem dX11_once_2 : decode cX11_once 2 = .ok (.bipush 99, 2) := by decide +kernel
theorem dX11_once_4 : decode cX11_once 4 = .ok (.istore_n 2, 1) := by decide +kernel
theorem dX11_once_5 : decode cX11_once 5 = .ok (.iconst 0, 1) := by decide +kernel
theorem dX11_once_6 : decode cX11_once 6 = .ok (.istore_n 3, 1) := by decide +kernel
theorem dX11_once_7 : decode cX11_once 7 = .ok (.iconst 0, 1) := by decide +kernel
theorem dX11_once_8 : decode cX11_once 8 = .ok (.istore 4, 2) := by decide +kernel
theorem dX11_once_10 : decode cX11_once 10 = .ok (.iload 4, 2) := by decide +kernel
theorem dX11_once_12 : decode cX11_once 12 = .ok (.aload_n 0, 1) := by decide +kernel
theorem dX11_once_13 : decode cX11_once 13 = .ok (.getfield 180, 3) := by decide +kernel
theorem dX11_once_16 : decode cX11_once 16 = .ok (.if_icmp .ge 87, 3) := by decide +kernel
theorem dX11_once_19 : decode cX11_once 19 = .ok (.aload_n 0, 1) := by decide +kernel
theorem dX11_once_20 : decode cX11_once 20 = .ok (.iload 4, 2) := by decide +kernel
theorem dX11_once_22 : decode cX11_once 22 = .ok (.invokevirtual 195, 3) := by decide +kernel
theorem dX11_once_25 : decode cX11_once 25 = .ok (.ifCond .eq 72, 3) := by decide +kernel
theorem dX11_once_28 : decode cX11_once 28 = .ok (.aload_n 0, 1) := by decide +kernel
theorem dX11_once_29 : decode cX11_once 29 = .ok (.getfield 37, 3) := by decide +kernel
theorem dX11_once_32 : decode cX11_once 32 = .ok (.bipush 6, 2) := by decide +kernel
theorem dX11_once_34 : decode cX11_once 34 = .ok (.iload 4, 2) := by decide +kernel
theorem dX11_once_36 : decode cX11_once 36 = .ok (.imul, 1) := by decide +kernel
theorem dX11_once_37 : decode cX11_once 37 = .ok (.iconst 2, 1) := by decide +kernel
theorem dX11_once_38 : decode cX11_once 38 = .ok (.iadd, 1) := by decide +kernel
theorem dX11_once_39 : decode cX11_once 39 = .ok (.iaload, 1) := by decide +kernel
theorem dX11_once_40 : decode cX11_once 40 = .ok (.iload_n 1, 1) := by decide +kernel
theorem dX11_once_41 : decode cX11_once 41 = .ok (.if_icmp .le 18, 3) := by decide +kernel
theorem dX11_once_44 : decode cX11_once 44 = .ok (.aload_n 0, 1) := by decide +kernel
theorem dX11_once_45 : decode cX11_once 45 = .ok (.getfield 37, 3) := by decide +kernel
theorem dX11_once_48 : decode cX11_once 48 = .ok (.bipush 6, 2) := by decide +kernel
theorem dX11_once_50 : decode cX11_once 50 = .ok (.iload 4, 2) := by decide +kernel
theorem dX11_once_52 : decode cX11_once 52 = .ok (.imul, 1) := by decide +kernel
theorem dX11_once_53 : decode cX11_once 53 = .ok (.iconst 2, 1) := by decide +kernel
theorem dX11_once_54 : decode cX11_once 54 = .ok (.iadd, 1) := by decide +kernel
theorem dX11_once_55 : decode cX11_once 55 = .ok (.iaload, 1) := by decide +kernel
theorem dX11_once_56 : decode cX11_once 56 = .ok (.goto 4, 3) := by decide +kernel
theorem dX11_once_59 : decode cX11_once 59 = .ok (.iload_n 1, 1) := by decide +kernel
theorem dX11_once_60 : decode cX11_once 60 = .ok (.istore_n 1, 1) := by decide +kernel
theorem dX11_once_61 : decode cX11_once 61 = .ok (.aload_n 0, 1) := by decide +kernel
theorem dX11_once_62 : decode cX11_once 62 = .ok (.getfield 37, 3) := by decide +kernel
theorem dX11_once_65 : decode cX11_once 65 = .ok (.bipush 6, 2) := by decide +kernel
theorem dX11_once_67 : decode cX11_once 67 = .ok (.iload 4, 2) := by decide +kernel
theorem dX11_once_69 : decode cX11_once 69 = .ok (.imul, 1) := by decide +kernel
theorem dX11_once_70 : decode cX11_once 70 = .ok (.iconst 3, 1) := by decide +kernel
theorem dX11_once_71 : decode cX11_once 71 = .ok (.iadd, 1) := by decide +kernel
theorem dX11_once_72 : decode cX11_once 72 = .ok (.iaload, 1) := by decide +kernel
theorem dX11_once_73 : decode cX11_once 73 = .ok (.iload_n 2, 1) := by decide +kernel
theorem dX11_once_74 : decode cX11_once 74 = .ok (.if_icmp .ge 18, 3) := by decide +kernel
theorem dX11_once_77 : decode cX11_once 77 = .ok (.aload_n 0, 1) := by decide +kernel
theorem dX11_once_78 : decode cX11_once 78 = .ok (.getfield 37, 3) := by decide +kernel
theorem dX11_once_81 : decode cX11_once 81 = .ok (.bipush 6, 2) := by decide +kernel
theorem dX11_once_83 : decode cX11_once 83 = .ok (.iload 4, 2) := by decide +kernel
theorem dX11_once_85 : decode cX11_once 85 = .ok (.imul, 1) := by decide +kernel
theorem dX11_once_86 : decode cX11_once 86 = .ok (.iconst 3, 1) := by decide +kernel
theorem dX11_once_87 : decode cX11_once 87 = .ok (.iadd, 1) := by decide +kernel
theorem dX11_once_88 : decode cX11_once 88 = .ok (.iaload, 1) := by decide +kernel
theorem dX11_once_89 : decode cX11_once 89 = .ok (.goto 4, 3) := by decide +kernel
theorem dX11_once_92 : decode cX11_once 92 = .ok (.iload_n 2, 1) := by decide +kernel
theorem dX11_once_93 : decode cX11_once 93 = .ok (.istore_n 2, 1) := by decide +kernel
theorem dX11_once_94 : decode cX11_once 94 = .ok (.iinc 3 1, 3) := by decide +kernel
theorem dX11_once_97 : decode cX11_once 97 = .ok (.iinc 4 1, 3) := by decide +kernel
theorem dX11_once_100 : decode cX11_once 100 = .ok (.goto (-90), 3) := by decide +kernel
theorem dX11_once_103 : decode cX11_once 103 = .ok (.iload_n 3, 1) := by decide +kernel
theorem dX11_once_104 : decode cX11_once 104 = .ok (.ifCond .eq 8, 3) := by decide +kernel
theorem dX11_once_107 : decode cX11_once 107 = .ok (.iload_n 1, 1) := by decide +kernel
theorem dX11_once_108 : decode cX11_once 108 = .ok (.iload_n 2, 1) := by decide +kernel
theorem dX11_once_109 : decode cX11_once 109 = .ok (.if_icmp .le 8, 3) := by decide +kernel
theorem dX11_once_112 : decode cX11_once 112 = .ok (.bipush (-9), 2) := by decide +kernel
theorem dX11_once_114 : decode cX11_once 114 = .ok (.goto 4, 3) := by decide +kernel
theorem dX11_once_117 : decode cX11_once 117 = .ok (.iload_n 1, 1) := by decide +kernel
theorem dX11_once_118 : decode cX11_once 118 = .ok (.ireturn, 1) := by decide +kernel
theorem dX11_firstEnd_0 : decode cX11_firstEnd 0 = .ok (.bipush (-9), 2) := by decide +kernel
theorem dX11_firstEnd_2 : decode cX11_firstEnd 2 = .ok (.istore_n 2, 1) := by decide +kernel
theorem dX11_firstEnd_3 : decode cX11_firstEnd 3 = .ok (.iconst 0, 1) := by decide +kernel
theorem dX11_firstEnd_4 : decode cX11_firstEnd 4 = .ok (.istore_n 3, 1) := by decide +kernel
theorem dX11_firstEnd_5 : decode cX11_firstEnd 5 = .ok (.iload_n 3, 1) := by decide +kernel
theorem dX11_firstEnd_6 : decode cX11_firstEnd 6 = .ok (.aload_n 0, 1) := by decide +kernel
theorem dX11_firstEnd_7 : decode cX11_firstEnd 7 = .ok (.getfield 180, 3) := by decide +kernel
theorem dX11_firstEnd_10 : decode cX11_firstEnd 10 = .ok (.if_icmp .ge 64, 3) := by decide +kernel
theorem dX11_firstEnd_13 : decode cX11_firstEnd 13 = .ok (.aload_n 0, 1) := by decide +kernel
theorem dX11_firstEnd_14 : decode cX11_firstEnd 14 = .ok (.getfield 37, 3) := by decide +kernel
theorem dX11_firstEnd_17 : decode cX11_firstEnd 17 = .ok (.bipush 6, 2) := by decide +kernel
theorem dX11_firstEnd_19 : decode cX11_firstEnd 19 = .ok (.iload_n 3, 1) := by decide +kernel
theorem dX11_firstEnd_20 : decode cX11_firstEnd 20 = .ok (.imul, 1) := by decide +kernel
theorem dX11_firstEnd_21 : decode cX11_firstEnd 21 = .ok (.iconst 3, 1) := by decide +kernel
theorem dX11_firstEnd_22 : decode cX11_firstEnd 22 = .ok (.iadd, 1) := by decide +kernel
theorem dX11_firstEnd_23 : decode cX11_firstEnd 23 = .ok (.iaload, 1) := by decide +kernel
theorem dX11_firstEnd_24 : decode cX11_firstEnd 24 = .ok (.istore 4, 2) := by decide +kernel
theorem dX11_firstEnd_26 : decode cX11_firstEnd 26 = .ok (.aload_n 0, 1) := by decide +kernel
theorem dX11_firstEnd_27 : decode cX11_firstEnd 27 = .ok (.iload_n 3, 1) := by decide +kernel
theorem dX11_firstEnd_28 : decode cX11_firstEnd 28 = .ok (.invokevirtual 195, 3) := by decide +kernel
theorem dX11_firstEnd_31 : decode cX11_firstEnd 31 = .ok (.ifCond .eq 35, 3) := by decide +kernel
theorem dX11_firstEnd_34 : decode cX11_firstEnd 34 = .ok (.aload_n 0, 1) := by decide +kernel
theorem dX11_firstEnd_35 : decode cX11_firstEnd 35 = .ok (.getfield 37, 3) := by decide +kernel
theorem dX11_firstEnd_38 : decode cX11_firstEnd 38 = .ok (.bipush 6, 2) := by decide +kernel
theorem dX11_firstEnd_40 : decode cX11_firstEnd 40 = .ok (.iload_n 3, 1) := by decide +kernel
theorem dX11_firstEnd_41 : decode cX11_firstEnd 41 = .ok (.imul, 1) := by decide +kernel
theorem dX11_firstEnd_42 : decode cX11_firstEnd 42 = .ok (.iconst 2, 1) := by decide +kernel
theorem dX11_firstEnd_43 : decode cX11_firstEnd 43 = .ok (.iadd, 1) := by decide +kernel
theorem dX11_firstEnd_44 : decode cX11_firstEnd 44 = .ok (.iaload, 1) := by decide +kernel
theorem dX11_firstEnd_45 : decode cX11_firstEnd 45 = .ok (.iload_n 1, 1) := by decide +kernel
theorem dX11_firstEnd_46 : decode cX11_firstEnd 46 = .ok (.if_icmp .le 20, 3) := by decide +kernel
theorem dX11_firstEnd_49 : decode cX11_firstEnd 49 = .ok (.iload_n 2, 1) := by decide +kernel
theorem dX11_firstEnd_50 : decode cX11_firstEnd 50 = .ok (.bipush (-9), 2) := by decide +kernel
theorem dX11_firstEnd_52 : decode cX11_firstEnd 52 = .ok (.if_icmp .eq 9, 3) := by decide +kernel
theorem dX11_firstEnd_55 : decode cX11_firstEnd 55 = .ok (.iload 4, 2) := by decide +kernel
theorem dX11_firstEnd_57 : decode cX11_firstEnd 57 = .ok (.iload_n 2, 1) := by decide +kernel
theorem dX11_firstEnd_58 : decode cX11_firstEnd 58 = .ok (.if_icmp .ge 8, 3) := by decide +kernel
theorem dX11_firstEnd_61 : decode cX11_firstEnd 61 = .ok (.iload 4, 2) := by decide +kernel
theorem dX11_firstEnd_63 : decode cX11_firstEnd 63 = .ok (.goto 4, 3) := by decide +kernel
theorem dX11_firstEnd_66 : decode cX11_firstEnd 66 = .ok (.iload_n 2, 1) := by decide +kernel
theorem dX11_firstEnd_67 : decode cX11_firstEnd 67 = .ok (.istore_n 2, 1) := by decide +kernel
theorem dX11_firstEnd_68 : decode cX11_firstEnd 68 = .ok (.iinc 3 1, 3) := by decide +kernel
theorem dX11_firstEnd_71 : decode cX11_firstEnd 71 = .ok (.goto (-66), 3) := by decide +kernel
theorem dX11_firstEnd_74 : decode cX11_firstEnd 74 = .ok (.iload_n 2, 1) := by decide +kernel
theorem dX11_firstEnd_75 : decode cX11_firstEnd 75 = .ok (.ireturn, 1) := by decide +kernel
theorem dX11_times_0 : decode cX11_times 0 = .ok (.iconst 0, 1) := by decide +kernel
theorem dX11_times_1 : decode cX11_times 1 = .ok (.istore_n 1, 1) := by decide +kernel
theorem dX11_times_2 : decode cX11_times 2 = .ok (.aload_n 0, 1) := by decide +kernel
theorem dX11_times_3 : decode cX11_times 3 = .ok (.iconst (-1), 1) := by decide +kernel
theorem dX11_times_4 : decode cX11_times 4 = .ok (.invokevirtual 230, 3) := by decide +kernel
theorem dX11_times_7 : decode cX11_times 7 = .ok (.istore_n 2, 1) := by decide +kernel
theorem dX11_times_8 : decode cX11_times 8 = .ok (.iload_n 2, 1) := by decide +kernel
theorem dX11_times_9 : decode cX11_times 9 = .ok (.bipush (-9), 2) := by decide +kernel
theorem dX11_times_11 : decode cX11_times 11 = .ok (.if_icmp .eq 15, 3) := by decide +kernel
theorem dX11_times_14 : decode cX11_times 14 = .ok (.iinc 1 1, 3) := by decide +kernel
theorem dX11_times_17 : decode cX11_times 17 = .ok (.aload_n 0, 1) := by decide +kernel
theorem dX11_times_18 : decode cX11_times 18 = .ok (.iload_n 2, 1) := by decide +kernel
theorem dX11_times_19 : decode cX11_times 19 = .ok (.invokevirtual 230, 3) := by decide +kernel
theorem dX11_times_22 : decode cX11_times 22 = .ok (.istore_n 2, 1) := by decide +kernel
theorem dX11_times_23 : decode cX11_times 23 = .ok (.goto (-15), 3) := by decide +kernel
theorem dX11_times_26 : decode cX11_times 26 = .ok (.iload_n 1, 1) := by decide +kernel
theorem dX11_times_27 : decode cX11_times 27 = .ok (.ireturn, 1) := by decide +kernel
theorem dX11_time_0 : decode cX11_time 0 = .ok (.iconst 0, 1) := by decide +kernel
theorem dX11_time_1 : decode cX11_time 1 = .ok (.istore_n 2, 1) := by decide +kernel
theorem dX11_time_2 : decode cX11_time 2 = .ok (.aload_n 0, 1) := by decide +kernel
theorem dX11_time_3 : decode cX11_time 3 = .ok (.iconst (-1), 1) := by decide +kernel
theorem dX11_time_4 : decode cX11_time 4 = .ok (.invokevirtual 230, 3) := by decide +kernel
theorem dX11_time_7 : decode cX11_time 7 = .ok (.istore_n 3, 1) := by decide +kernel
theorem dX11_time_8 : decode cX11_time 8 = .ok (.iload_n 3, 1) := by decide +kernel
theorem dX11_time_9 : decode cX11_time 9 = .ok (.bipush (-9), 2) := by decide +kernel
theorem dX11_time_11 : decode cX11_time 11 = .ok (.if_icmp .eq 22, 3) := by decide +kernel
theorem dX11_time_14 : decode cX11_time 14 = .ok (.iload_n 2, 1) := by decide +kernel
theorem dX11_time_15 : decode cX11_time 15 = .ok (.iload_n 1, 1) := by decide +kernel
theorem dX11_time_16 : decode cX11_time 16 = .ok (.if_icmp .ne 5, 3) := by decide +kernel
theorem dX11_time_19 : decode cX11_time 19 = .ok (.iload_n 3, 1) := by decide +kernel
theorem dX11_time_20 : decode cX11_time 20 = .ok (.ireturn, 1) := by decide +kernel
theorem dX11_time_21 : decode cX11_time 21 = .ok (.iinc 2 1, 3) := by decide +kernel
theorem dX11_time_24 : decode cX11_time 24 = .ok (.aload_n 0, 1) := by decide +kernel
theorem dX11_time_25 : decode cX11_time 25 = .ok (.iload_n 3, 1) := by decide +kernel
theorem dX11_time_26 : decode cX11_time 26 = .ok (.invokevirtual 230, 3) := by decide +kernel
theorem dX11_time_29 : decode cX11_time 29 = .ok (.istore_n 3, 1) := by decide +kernel
theorem dX11_time_30 : decode cX11_time 30 = .ok (.goto (-22), 3) := by decide +kernel
theorem dX11_time_33 : decode cX11_time 33 = .ok (.bipush (-9), 2) := by decide +kernel
theorem dX11_time_35 : decode cX11_time 35 = .ok (.ireturn, 1) := by decide +kernel
theorem dX11_layOrder_0 : decode cX11_layOrder 0 = .ok (.iconst 0, 1) := by decide +kernel
theorem dX11_layOrder_1 : decode cX11_layOrder 1 = .ok (.istore_n 2, 1) := by decide +kernel
theorem dX11_layOrder_2 : decode cX11_layOrder 2 = .ok (.iconst 1, 1) := by decide +kernel
theorem dX11_layOrder_3 : decode cX11_layOrder 3 = .ok (.istore_n 3, 1) := by decide +kernel
theorem dX11_layOrder_4 : decode cX11_layOrder 4 = .ok (.iconst 0, 1) := by decide +kernel
theorem dX11_layOrder_5 : decode cX11_layOrder 5 = .ok (.istore 4, 2) := by decide +kernel
theorem dX11_layOrder_7 : decode cX11_layOrder 7 = .ok (.iload 4, 2) := by decide +kernel
theorem dX11_layOrder_9 : decode cX11_layOrder 9 = .ok (.aload_n 0, 1) := by decide +kernel
theorem dX11_layOrder_10 : decode cX11_layOrder 10 = .ok (.getfield 180, 3) := by decide +kernel
theorem dX11_layOrder_13 : decode cX11_layOrder 13 = .ok (.if_icmp .ge 90, 3) := by decide +kernel
theorem dX11_layOrder_16 : decode cX11_layOrder 16 = .ok (.aload_n 0, 1) := by decide +kernel
theorem dX11_layOrder_17 : decode cX11_layOrder 17 = .ok (.getfield 37, 3) := by decide +kernel
theorem dX11_layOrder_20 : decode cX11_layOrder 20 = .ok (.bipush 6, 2) := by decide +kernel
theorem dX11_layOrder_22 : decode cX11_layOrder 22 = .ok (.iload 4, 2) := by decide +kernel
theorem dX11_layOrder_24 : decode cX11_layOrder 24 = .ok (.imul, 1) := by decide +kernel
theorem dX11_layOrder_25 : decode cX11_layOrder 25 = .ok (.iaload, 1) := by decide +kernel
theorem dX11_layOrder_26 : decode cX11_layOrder 26 = .ok (.iload_n 1, 1) := by decide +kernel
theorem dX11_layOrder_27 : decode cX11_layOrder 27 = .ok (.if_icmp .ne 70, 3) := by decide +kernel
theorem dX11_layOrder_30 : decode cX11_layOrder 30 = .ok (.aload_n 0, 1) := by decide +kernel
theorem dX11_layOrder_31 : decode cX11_layOrder 31 = .ok (.getfield 37, 3) := by decide +kernel
theorem dX11_layOrder_34 : decode cX11_layOrder 34 = .ok (.bipush 6, 2) := by decide +kernel
theorem dX11_layOrder_36 : decode cX11_layOrder 36 = .ok (.iload 4, 2) := by decide +kernel
theorem dX11_layOrder_38 : decode cX11_layOrder 38 = .ok (.imul, 1) := by decide +kernel
theorem dX11_layOrder_39 : decode cX11_layOrder 39 = .ok (.iconst 2, 1) := by decide +kernel
theorem dX11_layOrder_40 : decode cX11_layOrder 40 = .ok (.iadd, 1) := by decide +kernel
theorem dX11_layOrder_41 : decode cX11_layOrder 41 = .ok (.iaload, 1) := by decide +kernel
theorem dX11_layOrder_42 : decode cX11_layOrder 42 = .ok (.iload_n 2, 1) := by decide +kernel
theorem dX11_layOrder_43 : decode cX11_layOrder 43 = .ok (.if_icmp .le 18, 3) := by decide +kernel
theorem dX11_layOrder_46 : decode cX11_layOrder 46 = .ok (.aload_n 0, 1) := by decide +kernel
theorem dX11_layOrder_47 : decode cX11_layOrder 47 = .ok (.getfield 37, 3) := by decide +kernel
theorem dX11_layOrder_50 : decode cX11_layOrder 50 = .ok (.bipush 6, 2) := by decide +kernel
theorem dX11_layOrder_52 : decode cX11_layOrder 52 = .ok (.iload 4, 2) := by decide +kernel
theorem dX11_layOrder_54 : decode cX11_layOrder 54 = .ok (.imul, 1) := by decide +kernel
theorem dX11_layOrder_55 : decode cX11_layOrder 55 = .ok (.iconst 2, 1) := by decide +kernel
theorem dX11_layOrder_56 : decode cX11_layOrder 56 = .ok (.iadd, 1) := by decide +kernel
theorem dX11_layOrder_57 : decode cX11_layOrder 57 = .ok (.iaload, 1) := by decide +kernel
theorem dX11_layOrder_58 : decode cX11_layOrder 58 = .ok (.goto 4, 3) := by decide +kernel
theorem dX11_layOrder_61 : decode cX11_layOrder 61 = .ok (.iload_n 2, 1) := by decide +kernel
theorem dX11_layOrder_62 : decode cX11_layOrder 62 = .ok (.istore_n 2, 1) := by decide +kernel
theorem dX11_layOrder_63 : decode cX11_layOrder 63 = .ok (.aload_n 0, 1) := by decide +kernel
theorem dX11_layOrder_64 : decode cX11_layOrder 64 = .ok (.getfield 44, 3) := by decide +kernel
theorem dX11_layOrder_67 : decode cX11_layOrder 67 = .ok (.iload 4, 2) := by decide +kernel
theorem dX11_layOrder_69 : decode cX11_layOrder 69 = .ok (.iload_n 2, 1) := by decide +kernel
theorem dX11_layOrder_70 : decode cX11_layOrder 70 = .ok (.iastore, 1) := by decide +kernel
theorem dX11_layOrder_71 : decode cX11_layOrder 71 = .ok (.iload_n 3, 1) := by decide +kernel
theorem dX11_layOrder_72 : decode cX11_layOrder 72 = .ok (.ifCond .eq 23, 3) := by decide +kernel
theorem dX11_layOrder_75 : decode cX11_layOrder 75 = .ok (.iload_n 2, 1) := by decide +kernel
theorem dX11_layOrder_76 : decode cX11_layOrder 76 = .ok (.aload_n 0, 1) := by decide +kernel
theorem dX11_layOrder_77 : decode cX11_layOrder 77 = .ok (.getfield 37, 3) := by decide +kernel
theorem dX11_layOrder_80 : decode cX11_layOrder 80 = .ok (.bipush 6, 2) := by decide +kernel
theorem dX11_layOrder_82 : decode cX11_layOrder 82 = .ok (.iload 4, 2) := by decide +kernel
theorem dX11_layOrder_84 : decode cX11_layOrder 84 = .ok (.imul, 1) := by decide +kernel
theorem dX11_layOrder_85 : decode cX11_layOrder 85 = .ok (.iconst 3, 1) := by decide +kernel
theorem dX11_layOrder_86 : decode cX11_layOrder 86 = .ok (.iadd, 1) := by decide +kernel
theorem dX11_layOrder_87 : decode cX11_layOrder 87 = .ok (.iaload, 1) := by decide +kernel
theorem dX11_layOrder_88 : decode cX11_layOrder 88 = .ok (.if_icmp .gt 7, 3) := by decide +kernel
theorem dX11_layOrder_91 : decode cX11_layOrder 91 = .ok (.iconst 1, 1) := by decide +kernel
theorem dX11_layOrder_92 : decode cX11_layOrder 92 = .ok (.goto 4, 3) := by decide +kernel
theorem dX11_layOrder_95 : decode cX11_layOrder 95 = .ok (.iconst 0, 1) := by decide +kernel
theorem dX11_layOrder_96 : decode cX11_layOrder 96 = .ok (.istore_n 3, 1) := by decide +kernel
theorem dX11_layOrder_97 : decode cX11_layOrder 97 = .ok (.iinc 4 1, 3) := by decide +kernel
theorem dX11_layOrder_100 : decode cX11_layOrder 100 = .ok (.goto (-93), 3) := by decide +kernel
theorem dX11_layOrder_103 : decode cX11_layOrder 103 = .ok (.bipush 99, 2) := by decide +kernel
theorem dX11_layOrder_105 : decode cX11_layOrder 105 = .ok (.istore 4, 2) := by decide +kernel
theorem dX11_layOrder_107 : decode cX11_layOrder 107 = .ok (.aload_n 0, 1) := by decide +kernel
theorem dX11_layOrder_108 : decode cX11_layOrder 108 = .ok (.getfield 180, 3) := by decide +kernel
theorem dX11_layOrder_111 : decode cX11_layOrder 111 = .ok (.iconst 1, 1) := by decide +kernel
theorem dX11_layOrder_112 : decode cX11_layOrder 112 = .ok (.isub, 1) := by decide +kernel
theorem dX11_layOrder_113 : decode cX11_layOrder 113 = .ok (.istore 5, 2) := by decide +kernel
theorem dX11_layOrder_115 : decode cX11_layOrder 115 = .ok (.iload 5, 2) := by decide +kernel
theorem dX11_layOrder_117 : decode cX11_layOrder 117 = .ok (.ifCond .lt 68, 3) := by decide +kernel
theorem dX11_layOrder_120 : decode cX11_layOrder 120 = .ok (.aload_n 0, 1) := by decide +kernel
theorem dX11_layOrder_121 : decode cX11_layOrder 121 = .ok (.getfield 37, 3) := by decide +kernel
theorem dX11_layOrder_124 : decode cX11_layOrder 124 = .ok (.bipush 6, 2) := by decide +kernel
theorem dX11_layOrder_126 : decode cX11_layOrder 126 = .ok (.iload 5, 2) := by decide +kernel
theorem dX11_layOrder_128 : decode cX11_layOrder 128 = .ok (.imul, 1) := by decide +kernel
theorem dX11_layOrder_129 : decode cX11_layOrder 129 = .ok (.iaload, 1) := by decide +kernel
theorem dX11_layOrder_130 : decode cX11_layOrder 130 = .ok (.iload_n 1, 1) := by decide +kernel
theorem dX11_layOrder_131 : decode cX11_layOrder 131 = .ok (.if_icmp .ne 48, 3) := by decide +kernel
theorem dX11_layOrder_134 : decode cX11_layOrder 134 = .ok (.aload_n 0, 1) := by decide +kernel
theorem dX11_layOrder_135 : decode cX11_layOrder 135 = .ok (.getfield 37, 3) := by decide +kernel
theorem dX11_layOrder_138 : decode cX11_layOrder 138 = .ok (.bipush 6, 2) := by decide +kernel
theorem dX11_layOrder_140 : decode cX11_layOrder 140 = .ok (.iload 5, 2) := by decide +kernel
theorem dX11_layOrder_142 : decode cX11_layOrder 142 = .ok (.imul, 1) := by decide +kernel
theorem dX11_layOrder_143 : decode cX11_layOrder 143 = .ok (.iconst 3, 1) := by decide +kernel
theorem dX11_layOrder_144 : decode cX11_layOrder 144 = .ok (.iadd, 1) := by decide +kernel
theorem dX11_layOrder_145 : decode cX11_layOrder 145 = .ok (.iaload, 1) := by decide +kernel
theorem dX11_layOrder_146 : decode cX11_layOrder 146 = .ok (.iload 4, 2) := by decide +kernel
theorem dX11_layOrder_148 : decode cX11_layOrder 148 = .ok (.if_icmp .ge 18, 3) := by decide +kernel
theorem dX11_layOrder_151 : decode cX11_layOrder 151 = .ok (.aload_n 0, 1) := by decide +kernel
theorem dX11_layOrder_152 : decode cX11_layOrder 152 = .ok (.getfield 37, 3) := by decide +kernel
theorem dX11_layOrder_155 : decode cX11_layOrder 155 = .ok (.bipush 6, 2) := by decide +kernel
theorem dX11_layOrder_157 : decode cX11_layOrder 157 = .ok (.iload 5, 2) := by decide +kernel
theorem dX11_layOrder_159 : decode cX11_layOrder 159 = .ok (.imul, 1) := by decide +kernel
theorem dX11_layOrder_160 : decode cX11_layOrder 160 = .ok (.iconst 3, 1) := by decide +kernel
theorem dX11_layOrder_161 : decode cX11_layOrder 161 = .ok (.iadd, 1) := by decide +kernel
theorem dX11_layOrder_162 : decode cX11_layOrder 162 = .ok (.iaload, 1) := by decide +kernel
theorem dX11_layOrder_163 : decode cX11_layOrder 163 = .ok (.goto 5, 3) := by decide +kernel
theorem dX11_layOrder_166 : decode cX11_layOrder 166 = .ok (.iload 4, 2) := by decide +kernel
theorem dX11_layOrder_168 : decode cX11_layOrder 168 = .ok (.istore 4, 2) := by decide +kernel
theorem dX11_layOrder_170 : decode cX11_layOrder 170 = .ok (.aload_n 0, 1) := by decide +kernel
theorem dX11_layOrder_171 : decode cX11_layOrder 171 = .ok (.getfield 47, 3) := by decide +kernel
theorem dX11_layOrder_174 : decode cX11_layOrder 174 = .ok (.iload 5, 2) := by decide +kernel
theorem dX11_layOrder_176 : decode cX11_layOrder 176 = .ok (.iload 4, 2) := by decide +kernel
theorem dX11_layOrder_178 : decode cX11_layOrder 178 = .ok (.iastore, 1) := by decide +kernel
theorem dX11_layOrder_179 : decode cX11_layOrder 179 = .ok (.iinc 5 (-1), 3) := by decide +kernel
theorem dX11_layOrder_182 : decode cX11_layOrder 182 = .ok (.goto (-67), 3) := by decide +kernel
theorem dX11_layOrder_185 : decode cX11_layOrder 185 = .ok (.iload_n 3, 1) := by decide +kernel
theorem dX11_layOrder_186 : decode cX11_layOrder 186 = .ok (.ireturn, 1) := by decide +kernel
theorem dX11_order_0 : decode cX11_order 0 = .ok (.iload_n 1, 1) := by decide +kernel
theorem dX11_order_1 : decode cX11_order 1 = .ok (.i2l, 1) := by decide +kernel
theorem dX11_order_2 : decode cX11_order 2 = .ok (.lconst 0, 1) := by decide +kernel
theorem dX11_order_3 : decode cX11_order 3 = .ok (.ldc2_w 115, 3) := by decide +kernel
theorem dX11_order_6 : decode cX11_order 6 = .ok (.invokestatic 65, 3) := by decide +kernel
theorem dX11_order_9 : decode cX11_order 9 = .ok (.ifCond .ne 5, 3) := by decide +kernel
theorem dX11_order_12 : decode cX11_order 12 = .ok (.iconst (-1), 1) := by decide +kernel
theorem dX11_order_13 : decode cX11_order 13 = .ok (.ireturn, 1) := by decide +kernel
theorem dX11_order_14 : decode cX11_order 14 = .ok (.aload_n 0, 1) := by decide +kernel
theorem dX11_order_15 : decode cX11_order 15 = .ok (.iload_n 1, 1) := by decide +kernel
theorem dX11_order_16 : decode cX11_order 16 = .ok (.invokevirtual 233, 3) := by decide +kernel
theorem dX11_order_19 : decode cX11_order 19 = .ok (.ifCond .eq 7, 3) := by decide +kernel
theorem dX11_order_22 : decode cX11_order 22 = .ok (.iconst 1, 1) := by decide +kernel
theorem dX11_order_23 : decode cX11_order 23 = .ok (.goto 4, 3) := by decide +kernel
theorem dX11_order_26 : decode cX11_order 26 = .ok (.iconst 0, 1) := by decide +kernel
theorem dX11_order_27 : decode cX11_order 27 = .ok (.ireturn, 1) := by decide +kernel
theorem dX11_gap_0 : decode cX11_gap 0 = .ok (.aload_n 0, 1) := by decide +kernel
theorem dX11_gap_1 : decode cX11_gap 1 = .ok (.iload_n 1, 1) := by decide +kernel
theorem dX11_gap_2 : decode cX11_gap 2 = .ok (.invokevirtual 187, 3) := by decide +kernel
theorem dX11_gap_5 : decode cX11_gap 5 = .ok (.ifCond .ne 5, 3) := by decide +kernel
theorem dX11_gap_8 : decode cX11_gap 8 = .ok (.iconst (-1), 1) := by decide +kernel
theorem dX11_gap_9 : decode cX11_gap 9 = .ok (.ireturn, 1) := by decide +kernel
theorem dX11_gap_10 : decode cX11_gap 10 = .ok (.iload_n 1, 1) := by decide +kernel
theorem dX11_gap_11 : decode cX11_gap 11 = .ok (.iconst 1, 1) := by decide +kernel
theorem dX11_gap_12 : decode cX11_gap 12 = .ok (.isub, 1) := by decide +kernel
theorem dX11_gap_13 : decode cX11_gap 13 = .ok (.istore_n 2, 1) := by decide +kernel
theorem dX11_gap_14 : decode cX11_gap 14 = .ok (.iload_n 2, 1) := by decide +kernel
theorem dX11_gap_15 : decode cX11_gap 15 = .ok (.ifCond .lt 30, 3) := by decide +kernel
theorem dX11_gap_18 : decode cX11_gap 18 = .ok (.aload_n 0, 1) := by decide +kernel
theorem dX11_gap_19 : decode cX11_gap 19 = .ok (.getfield 37, 3) := by decide +kernel
theorem dX11_gap_22 : decode cX11_gap 22 = .ok (.bipush 6, 2) := by decide +kernel
theorem dX11_gap_24 : decode cX11_gap 24 = .ok (.iload_n 2, 1) := by decide +kernel
theorem dX11_gap_25 : decode cX11_gap 25 = .ok (.imul, 1) := by decide +kernel
theorem dX11_gap_26 : decode cX11_gap 26 = .ok (.iaload, 1) := by decide +kernel
theorem dX11_gap_27 : decode cX11_gap 27 = .ok (.aload_n 0, 1) := by decide +kernel
theorem dX11_gap_28 : decode cX11_gap 28 = .ok (.getfield 37, 3) := by decide +kernel
theorem dX11_gap_31 : decode cX11_gap 31 = .ok (.bipush 6, 2) := by decide +kernel
theorem dX11_gap_33 : decode cX11_gap 33 = .ok (.iload_n 1, 1) := by decide +kernel
theorem dX11_gap_34 : decode cX11_gap 34 = .ok (.imul, 1) := by decide +kernel
theorem dX11_gap_35 : decode cX11_gap 35 = .ok (.iaload, 1) := by decide +kernel
theorem dX11_gap_36 : decode cX11_gap 36 = .ok (.if_icmp .eq 9, 3) := by decide +kernel
theorem dX11_gap_39 : decode cX11_gap 39 = .ok (.iinc 2 (-1), 3) := by decide +kernel
theorem dX11_gap_42 : decode cX11_gap 42 = .ok (.goto (-28), 3) := by decide +kernel
theorem dX11_gap_45 : decode cX11_gap 45 = .ok (.iload_n 2, 1) := by decide +kernel
theorem dX11_gap_46 : decode cX11_gap 46 = .ok (.ifCond .lt 19, 3) := by decide +kernel
theorem dX11_gap_49 : decode cX11_gap 49 = .ok (.aload_n 0, 1) := by decide +kernel
theorem dX11_gap_50 : decode cX11_gap 50 = .ok (.aload_n 0, 1) := by decide +kernel
theorem dX11_gap_51 : decode cX11_gap 51 = .ok (.getfield 37, 3) := by decide +kernel
theorem dX11_gap_54 : decode cX11_gap 54 = .ok (.bipush 6, 2) := by decide +kernel
theorem dX11_gap_56 : decode cX11_gap 56 = .ok (.iload_n 1, 1) := by decide +kernel
theorem dX11_gap_57 : decode cX11_gap 57 = .ok (.imul, 1) := by decide +kernel
theorem dX11_gap_58 : decode cX11_gap 58 = .ok (.iaload, 1) := by decide +kernel
theorem dX11_gap_59 : decode cX11_gap 59 = .ok (.invokevirtual 233, 3) := by decide +kernel
theorem dX11_gap_62 : decode cX11_gap 62 = .ok (.ifCond .ne 6, 3) := by decide +kernel
theorem dX11_gap_65 : decode cX11_gap 65 = .ok (.bipush (-3), 2) := by decide +kernel
theorem dX11_gap_67 : decode cX11_gap 67 = .ok (.ireturn, 1) := by decide +kernel
theorem dX11_gap_68 : decode cX11_gap 68 = .ok (.aload_n 0, 1) := by decide +kernel
theorem dX11_gap_69 : decode cX11_gap 69 = .ok (.getfield 47, 3) := by decide +kernel
theorem dX11_gap_72 : decode cX11_gap 72 = .ok (.iload_n 1, 1) := by decide +kernel
theorem dX11_gap_73 : decode cX11_gap 73 = .ok (.iaload, 1) := by decide +kernel
theorem dX11_gap_74 : decode cX11_gap 74 = .ok (.aload_n 0, 1) := by decide +kernel
theorem dX11_gap_75 : decode cX11_gap 75 = .ok (.getfield 44, 3) := by decide +kernel
theorem dX11_gap_78 : decode cX11_gap 78 = .ok (.iload_n 2, 1) := by decide +kernel
theorem dX11_gap_79 : decode cX11_gap 79 = .ok (.iaload, 1) := by decide +kernel
theorem dX11_gap_80 : decode cX11_gap 80 = .ok (.isub, 1) := by decide +kernel
theorem dX11_gap_81 : decode cX11_gap 81 = .ok (.ireturn, 1) := by decide +kernel
theorem dX11_poleOf_0 : decode cX11_poleOf 0 = .ok (.iconst 0, 1) := by decide +kernel
theorem dX11_poleOf_1 : decode cX11_poleOf 1 = .ok (.istore_n 3, 1) := by decide +kernel
theorem dX11_poleOf_2 : decode cX11_poleOf 2 = .ok (.iconst 0, 1) := by decide +kernel
theorem dX11_poleOf_3 : decode cX11_poleOf 3 = .ok (.istore 4, 2) := by decide +kernel
theorem dX11_poleOf_5 : decode cX11_poleOf 5 = .ok (.iload 4, 2) := by decide +kernel
theorem dX11_poleOf_7 : decode cX11_poleOf 7 = .ok (.aload_n 0, 1) := by decide +kernel
theorem dX11_poleOf_8 : decode cX11_poleOf 8 = .ok (.getfield 180, 3) := by decide +kernel
theorem dX11_poleOf_11 : decode cX11_poleOf 11 = .ok (.if_icmp .ge 65, 3) := by decide +kernel
theorem dX11_poleOf_14 : decode cX11_poleOf 14 = .ok (.aload_n 0, 1) := by decide +kernel
theorem dX11_poleOf_15 : decode cX11_poleOf 15 = .ok (.getfield 37, 3) := by decide +kernel
theorem dX11_poleOf_18 : decode cX11_poleOf 18 = .ok (.bipush 6, 2) := by decide +kernel
theorem dX11_poleOf_20 : decode cX11_poleOf 20 = .ok (.iload 4, 2) := by decide +kernel
theorem dX11_poleOf_22 : decode cX11_poleOf 22 = .ok (.imul, 1) := by decide +kernel
theorem dX11_poleOf_23 : decode cX11_poleOf 23 = .ok (.iconst 4, 1) := by decide +kernel
theorem dX11_poleOf_24 : decode cX11_poleOf 24 = .ok (.iadd, 1) := by decide +kernel
theorem dX11_poleOf_25 : decode cX11_poleOf 25 = .ok (.iaload, 1) := by decide +kernel
theorem dX11_poleOf_26 : decode cX11_poleOf 26 = .ok (.iload_n 2, 1) := by decide +kernel
theorem dX11_poleOf_27 : decode cX11_poleOf 27 = .ok (.isub, 1) := by decide +kernel
theorem dX11_poleOf_28 : decode cX11_poleOf 28 = .ok (.istore 5, 2) := by decide +kernel
theorem dX11_poleOf_30 : decode cX11_poleOf 30 = .ok (.iload_n 3, 1) := by decide +kernel
theorem dX11_poleOf_31 : decode cX11_poleOf 31 = .ok (.aload_n 0, 1) := by decide +kernel
theorem dX11_poleOf_32 : decode cX11_poleOf 32 = .ok (.iload 4, 2) := by decide +kernel
theorem dX11_poleOf_34 : decode cX11_poleOf 34 = .ok (.invokevirtual 195, 3) := by decide +kernel
theorem dX11_poleOf_37 : decode cX11_poleOf 37 = .ok (.ifCond .eq 30, 3) := by decide +kernel
theorem dX11_poleOf_40 : decode cX11_poleOf 40 = .ok (.aload_n 0, 1) := by decide +kernel
theorem dX11_poleOf_41 : decode cX11_poleOf 41 = .ok (.iload_n 1, 1) := by decide +kernel
theorem dX11_poleOf_42 : decode cX11_poleOf 42 = .ok (.iload 4, 2) := by decide +kernel
theorem dX11_poleOf_44 : decode cX11_poleOf 44 = .ok (.iload 5, 2) := by decide +kernel
theorem dX11_poleOf_46 : decode cX11_poleOf 46 = .ok (.ifCond .ge 9, 3) := by decide +kernel
theorem dX11_poleOf_49 : decode cX11_poleOf 49 = .ok (.iload 5, 2) := by decide +kernel
theorem dX11_poleOf_51 : decode cX11_poleOf 51 = .ok (.ineg, 1) := by decide +kernel
theorem dX11_poleOf_52 : decode cX11_poleOf 52 = .ok (.goto 5, 3) := by decide +kernel
theorem dX11_poleOf_55 : decode cX11_poleOf 55 = .ok (.iload 5, 2) := by decide +kernel
theorem dX11_poleOf_57 : decode cX11_poleOf 57 = .ok (.invokevirtual 198, 3) := by decide +kernel
theorem dX11_poleOf_60 : decode cX11_poleOf 60 = .ok (.ifCond .le 7, 3) := by decide +kernel
theorem dX11_poleOf_63 : decode cX11_poleOf 63 = .ok (.iconst 1, 1) := by decide +kernel
theorem dX11_poleOf_64 : decode cX11_poleOf 64 = .ok (.goto 4, 3) := by decide +kernel
theorem dX11_poleOf_67 : decode cX11_poleOf 67 = .ok (.iconst 0, 1) := by decide +kernel
theorem dX11_poleOf_68 : decode cX11_poleOf 68 = .ok (.iadd, 1) := by decide +kernel
theorem dX11_poleOf_69 : decode cX11_poleOf 69 = .ok (.istore_n 3, 1) := by decide +kernel
theorem dX11_poleOf_70 : decode cX11_poleOf 70 = .ok (.iinc 4 1, 3) := by decide +kernel
theorem dX11_poleOf_73 : decode cX11_poleOf 73 = .ok (.goto (-68), 3) := by decide +kernel
theorem dX11_poleOf_76 : decode cX11_poleOf 76 = .ok (.iload_n 3, 1) := by decide +kernel
theorem dX11_poleOf_77 : decode cX11_poleOf 77 = .ok (.ireturn, 1) := by decide +kernel
theorem dX11_pole_0 : decode cX11_pole 0 = .ok (.iload_n 1, 1) := by decide +kernel
theorem dX11_pole_1 : decode cX11_pole 1 = .ok (.invokestatic 117, 3) := by decide +kernel
theorem dX11_pole_4 : decode cX11_pole 4 = .ok (.ifCond .ne 5, 3) := by decide +kernel
theorem dX11_pole_7 : decode cX11_pole 7 = .ok (.iconst (-1), 1) := by decide +kernel
theorem dX11_pole_8 : decode cX11_pole 8 = .ok (.ireturn, 1) := by decide +kernel
theorem dX11_pole_9 : decode cX11_pole 9 = .ok (.iload_n 2, 1) := by decide +kernel
theorem dX11_pole_10 : decode cX11_pole 10 = .ok (.i2l, 1) := by decide +kernel
theorem dX11_pole_11 : decode cX11_pole 11 = .ok (.lconst 0, 1) := by decide +kernel
theorem dX11_pole_12 : decode cX11_pole 12 = .ok (.ldc2_w 145, 3) := by decide +kernel
theorem dX11_pole_15 : decode cX11_pole 15 = .ok (.invokestatic 65, 3) := by decide +kernel
theorem dX11_pole_18 : decode cX11_pole 18 = .ok (.ifCond .eq 12, 3) := by decide +kernel
theorem dX11_pole_21 : decode cX11_pole 21 = .ok (.aload_n 0, 1) := by decide +kernel
theorem dX11_pole_22 : decode cX11_pole 22 = .ok (.iload_n 1, 1) := by decide +kernel
theorem dX11_pole_23 : decode cX11_pole 23 = .ok (.iload_n 2, 1) := by decide +kernel
theorem dX11_pole_24 : decode cX11_pole 24 = .ok (.invokevirtual 236, 3) := by decide +kernel
theorem dX11_pole_27 : decode cX11_pole 27 = .ok (.goto 5, 3) := by decide +kernel
theorem dX11_pole_30 : decode cX11_pole 30 = .ok (.bipush (-2), 2) := by decide +kernel
theorem dX11_pole_32 : decode cX11_pole 32 = .ok (.ireturn, 1) := by decide +kernel
theorem dX11_elsewhere_0 : decode cX11_elsewhere 0 = .ok (.iload_n 1, 1) := by decide +kernel
theorem dX11_elsewhere_1 : decode cX11_elsewhere 1 = .ok (.invokestatic 117, 3) := by decide +kernel
theorem dX11_elsewhere_4 : decode cX11_elsewhere 4 = .ok (.ifCond .ne 5, 3) := by decide +kernel
theorem dX11_elsewhere_7 : decode cX11_elsewhere 7 = .ok (.iconst (-1), 1) := by decide +kernel
theorem dX11_elsewhere_8 : decode cX11_elsewhere 8 = .ok (.ireturn, 1) := by decide +kernel
theorem dX11_elsewhere_9 : decode cX11_elsewhere 9 = .ok (.iconst 0, 1) := by decide +kernel
theorem dX11_elsewhere_10 : decode cX11_elsewhere 10 = .ok (.istore_n 2, 1) := by decide +kernel
theorem dX11_elsewhere_11 : decode cX11_elsewhere 11 = .ok (.iconst 1, 1) := by decide +kernel
theorem dX11_elsewhere_12 : decode cX11_elsewhere 12 = .ok (.istore_n 3, 1) := by decide +kernel
theorem dX11_elsewhere_13 : decode cX11_elsewhere 13 = .ok (.iload_n 3, 1) := by decide +kernel
theorem dX11_elsewhere_14 : decode cX11_elsewhere 14 = .ok (.bipush 6, 2) := by decide +kernel
theorem dX11_elsewhere_16 : decode cX11_elsewhere 16 = .ok (.if_icmp .ge 30, 3) := by decide +kernel
theorem dX11_elsewhere_19 : decode cX11_elsewhere 19 = .ok (.aload_n 0, 1) := by decide +kernel
theorem dX11_elsewhere_20 : decode cX11_elsewhere 20 = .ok (.iload_n 1, 1) := by decide +kernel
theorem dX11_elsewhere_21 : decode cX11_elsewhere 21 = .ok (.iload_n 3, 1) := by decide +kernel
theorem dX11_elsewhere_22 : decode cX11_elsewhere 22 = .ok (.invokevirtual 236, 3) := by decide +kernel
theorem dX11_elsewhere_25 : decode cX11_elsewhere 25 = .ok (.aload_n 0, 1) := by decide +kernel
theorem dX11_elsewhere_26 : decode cX11_elsewhere 26 = .ok (.iload_n 1, 1) := by decide +kernel
theorem dX11_elsewhere_27 : decode cX11_elsewhere 27 = .ok (.iload_n 2, 1) := by decide +kernel
theorem dX11_elsewhere_28 : decode cX11_elsewhere 28 = .ok (.invokevirtual 236, 3) := by decide +kernel
theorem dX11_elsewhere_31 : decode cX11_elsewhere 31 = .ok (.if_icmp .le 7, 3) := by decide +kernel
theorem dX11_elsewhere_34 : decode cX11_elsewhere 34 = .ok (.iload_n 3, 1) := by decide +kernel
theorem dX11_elsewhere_35 : decode cX11_elsewhere 35 = .ok (.goto 4, 3) := by decide +kernel
theorem dX11_elsewhere_38 : decode cX11_elsewhere 38 = .ok (.iload_n 2, 1) := by decide +kernel
theorem dX11_elsewhere_39 : decode cX11_elsewhere 39 = .ok (.istore_n 2, 1) := by decide +kernel
theorem dX11_elsewhere_40 : decode cX11_elsewhere 40 = .ok (.iinc 3 1, 3) := by decide +kernel
theorem dX11_elsewhere_43 : decode cX11_elsewhere 43 = .ok (.goto (-30), 3) := by decide +kernel
theorem dX11_elsewhere_46 : decode cX11_elsewhere 46 = .ok (.iload_n 2, 1) := by decide +kernel
theorem dX11_elsewhere_47 : decode cX11_elsewhere 47 = .ok (.ireturn, 1) := by decide +kernel
theorem dX11_keep_0 : decode cX11_keep 0 = .ok (.iload_n 1, 1) := by decide +kernel
theorem dX11_keep_1 : decode cX11_keep 1 = .ok (.i2l, 1) := by decide +kernel
theorem dX11_keep_2 : decode cX11_keep 2 = .ok (.lconst 0, 1) := by decide +kernel
theorem dX11_keep_3 : decode cX11_keep 3 = .ok (.lconst 1, 1) := by decide +kernel
theorem dX11_keep_4 : decode cX11_keep 4 = .ok (.invokestatic 65, 3) := by decide +kernel
theorem dX11_keep_7 : decode cX11_keep 7 = .ok (.ifCond .ne 5, 3) := by decide +kernel
theorem dX11_keep_10 : decode cX11_keep 10 = .ok (.iconst (-1), 1) := by decide +kernel
theorem dX11_keep_11 : decode cX11_keep 11 = .ok (.ireturn, 1) := by decide +kernel
theorem dX11_keep_12 : decode cX11_keep 12 = .ok (.aload_n 0, 1) := by decide +kernel
theorem dX11_keep_13 : decode cX11_keep 13 = .ok (.getfield 50, 3) := by decide +kernel
theorem dX11_keep_16 : decode cX11_keep 16 = .ok (.iload_n 1, 1) := by decide +kernel
theorem dX11_keep_17 : decode cX11_keep 17 = .ok (.iconst 1, 1) := by decide +kernel
theorem dX11_keep_18 : decode cX11_keep 18 = .ok (.bastore, 1) := by decide +kernel
theorem dX11_keep_19 : decode cX11_keep 19 = .ok (.aload_n 0, 1) := by decide +kernel
theorem dX11_keep_20 : decode cX11_keep 20 = .ok (.getfield 54, 3) := by decide +kernel
theorem dX11_keep_23 : decode cX11_keep 23 = .ok (.iload_n 1, 1) := by decide +kernel
theorem dX11_keep_24 : decode cX11_keep 24 = .ok (.aload_n 0, 1) := by decide +kernel
theorem dX11_keep_25 : decode cX11_keep 25 = .ok (.getfield 180, 3) := by decide +kernel
theorem dX11_keep_28 : decode cX11_keep 28 = .ok (.iastore, 1) := by decide +kernel
theorem dX11_keep_29 : decode cX11_keep 29 = .ok (.iconst 0, 1) := by decide +kernel
theorem dX11_keep_30 : decode cX11_keep 30 = .ok (.istore_n 2, 1) := by decide +kernel
theorem dX11_keep_31 : decode cX11_keep 31 = .ok (.iload_n 2, 1) := by decide +kernel
theorem dX11_keep_32 : decode cX11_keep 32 = .ok (.bipush 48, 2) := by decide +kernel
theorem dX11_keep_34 : decode cX11_keep 34 = .ok (.if_icmp .ge 26, 3) := by decide +kernel
theorem dX11_keep_37 : decode cX11_keep 37 = .ok (.aload_n 0, 1) := by decide +kernel
theorem dX11_keep_38 : decode cX11_keep 38 = .ok (.getfield 57, 3) := by decide +kernel
theorem dX11_keep_41 : decode cX11_keep 41 = .ok (.bipush 48, 2) := by decide +kernel
theorem dX11_keep_43 : decode cX11_keep 43 = .ok (.iload_n 1, 1) := by decide +kernel
theorem dX11_keep_44 : decode cX11_keep 44 = .ok (.imul, 1) := by decide +kernel
theorem dX11_keep_45 : decode cX11_keep 45 = .ok (.iload_n 2, 1) := by decide +kernel
theorem dX11_keep_46 : decode cX11_keep 46 = .ok (.iadd, 1) := by decide +kernel
theorem dX11_keep_47 : decode cX11_keep 47 = .ok (.aload_n 0, 1) := by decide +kernel
theorem dX11_keep_48 : decode cX11_keep 48 = .ok (.getfield 37, 3) := by decide +kernel
theorem dX11_keep_51 : decode cX11_keep 51 = .ok (.iload_n 2, 1) := by decide +kernel
theorem dX11_keep_52 : decode cX11_keep 52 = .ok (.iaload, 1) := by decide +kernel
theorem dX11_keep_53 : decode cX11_keep 53 = .ok (.iastore, 1) := by decide +kernel
theorem dX11_keep_54 : decode cX11_keep 54 = .ok (.iinc 2 1, 3) := by decide +kernel
theorem dX11_keep_57 : decode cX11_keep 57 = .ok (.goto (-26), 3) := by decide +kernel
theorem dX11_keep_60 : decode cX11_keep 60 = .ok (.iconst 0, 1) := by decide +kernel
theorem dX11_keep_61 : decode cX11_keep 61 = .ok (.istore_n 2, 1) := by decide +kernel
theorem dX11_keep_62 : decode cX11_keep 62 = .ok (.iload_n 2, 1) := by decide +kernel
theorem dX11_keep_63 : decode cX11_keep 63 = .ok (.iconst 4, 1) := by decide +kernel
theorem dX11_keep_64 : decode cX11_keep 64 = .ok (.if_icmp .ge 25, 3) := by decide +kernel
theorem dX11_keep_67 : decode cX11_keep 67 = .ok (.aload_n 0, 1) := by decide +kernel
theorem dX11_keep_68 : decode cX11_keep 68 = .ok (.getfield 60, 3) := by decide +kernel
theorem dX11_keep_71 : decode cX11_keep 71 = .ok (.iconst 4, 1) := by decide +kernel
theorem dX11_keep_72 : decode cX11_keep 72 = .ok (.iload_n 1, 1) := by decide +kernel
theorem dX11_keep_73 : decode cX11_keep 73 = .ok (.imul, 1) := by decide +kernel
theorem dX11_keep_74 : decode cX11_keep 74 = .ok (.iload_n 2, 1) := by decide +kernel
theorem dX11_keep_75 : decode cX11_keep 75 = .ok (.iadd, 1) := by decide +kernel
theorem dX11_keep_76 : decode cX11_keep 76 = .ok (.aload_n 0, 1) := by decide +kernel
theorem dX11_keep_77 : decode cX11_keep 77 = .ok (.getfield 28, 3) := by decide +kernel
theorem dX11_keep_80 : decode cX11_keep 80 = .ok (.iload_n 2, 1) := by decide +kernel
theorem dX11_keep_81 : decode cX11_keep 81 = .ok (.iaload, 1) := by decide +kernel
theorem dX11_keep_82 : decode cX11_keep 82 = .ok (.iastore, 1) := by decide +kernel
theorem dX11_keep_83 : decode cX11_keep 83 = .ok (.iinc 2 1, 3) := by decide +kernel
theorem dX11_keep_86 : decode cX11_keep 86 = .ok (.goto (-24), 3) := by decide +kernel
theorem dX11_keep_89 : decode cX11_keep 89 = .ok (.aload_n 0, 1) := by decide +kernel
theorem dX11_keep_90 : decode cX11_keep 90 = .ok (.getfield 180, 3) := by decide +kernel
theorem dX11_keep_93 : decode cX11_keep 93 = .ok (.ireturn, 1) := by decide +kernel
theorem dX11_again_0 : decode cX11_again 0 = .ok (.iload_n 1, 1) := by decide +kernel
theorem dX11_again_1 : decode cX11_again 1 = .ok (.i2l, 1) := by decide +kernel
theorem dX11_again_2 : decode cX11_again 2 = .ok (.lconst 0, 1) := by decide +kernel
theorem dX11_again_3 : decode cX11_again 3 = .ok (.lconst 1, 1) := by decide +kernel
theorem dX11_again_4 : decode cX11_again 4 = .ok (.invokestatic 65, 3) := by decide +kernel
theorem dX11_again_7 : decode cX11_again 7 = .ok (.ifCond .ne 5, 3) := by decide +kernel
theorem dX11_again_10 : decode cX11_again 10 = .ok (.iconst (-1), 1) := by decide +kernel
theorem dX11_again_11 : decode cX11_again 11 = .ok (.ireturn, 1) := by decide +kernel
theorem dX11_again_12 : decode cX11_again 12 = .ok (.aload_n 0, 1) := by decide +kernel
theorem dX11_again_13 : decode cX11_again 13 = .ok (.getfield 50, 3) := by decide +kernel
theorem dX11_again_16 : decode cX11_again 16 = .ok (.iload_n 1, 1) := by decide +kernel
theorem dX11_again_17 : decode cX11_again 17 = .ok (.baload, 1) := by decide +kernel
theorem dX11_again_18 : decode cX11_again 18 = .ok (.ifCond .ne 6, 3) := by decide +kernel
theorem dX11_again_21 : decode cX11_again 21 = .ok (.bipush (-3), 2) := by decide +kernel
theorem dX11_again_23 : decode cX11_again 23 = .ok (.ireturn, 1) := by decide +kernel
theorem dX11_again_24 : decode cX11_again 24 = .ok (.aload_n 0, 1) := by decide +kernel
theorem dX11_again_25 : decode cX11_again 25 = .ok (.aload_n 0, 1) := by decide +kernel
theorem dX11_again_26 : decode cX11_again 26 = .ok (.getfield 54, 3) := by decide +kernel
theorem dX11_again_29 : decode cX11_again 29 = .ok (.iload_n 1, 1) := by decide +kernel
theorem dX11_again_30 : decode cX11_again 30 = .ok (.iaload, 1) := by decide +kernel
theorem dX11_again_31 : decode cX11_again 31 = .ok (.putfield 180, 3) := by decide +kernel
theorem dX11_again_34 : decode cX11_again 34 = .ok (.iconst 0, 1) := by decide +kernel
theorem dX11_again_35 : decode cX11_again 35 = .ok (.istore_n 2, 1) := by decide +kernel
theorem dX11_again_36 : decode cX11_again 36 = .ok (.iload_n 2, 1) := by decide +kernel
theorem dX11_again_37 : decode cX11_again 37 = .ok (.bipush 48, 2) := by decide +kernel
theorem dX11_again_39 : decode cX11_again 39 = .ok (.if_icmp .ge 26, 3) := by decide +kernel
theorem dX11_again_42 : decode cX11_again 42 = .ok (.aload_n 0, 1) := by decide +kernel
theorem dX11_again_43 : decode cX11_again 43 = .ok (.getfield 37, 3) := by decide +kernel
theorem dX11_again_46 : decode cX11_again 46 = .ok (.iload_n 2, 1) := by decide +kernel
theorem dX11_again_47 : decode cX11_again 47 = .ok (.aload_n 0, 1) := by decide +kernel
theorem dX11_again_48 : decode cX11_again 48 = .ok (.getfield 57, 3) := by decide +kernel
theorem dX11_again_51 : decode cX11_again 51 = .ok (.bipush 48, 2) := by decide +kernel
theorem dX11_again_53 : decode cX11_again 53 = .ok (.iload_n 1, 1) := by decide +kernel
theorem dX11_again_54 : decode cX11_again 54 = .ok (.imul, 1) := by decide +kernel
theorem dX11_again_55 : decode cX11_again 55 = .ok (.iload_n 2, 1) := by decide +kernel
theorem dX11_again_56 : decode cX11_again 56 = .ok (.iadd, 1) := by decide +kernel
theorem dX11_again_57 : decode cX11_again 57 = .ok (.iaload, 1) := by decide +kernel
theorem dX11_again_58 : decode cX11_again 58 = .ok (.iastore, 1) := by decide +kernel
theorem dX11_again_59 : decode cX11_again 59 = .ok (.iinc 2 1, 3) := by decide +kernel
theorem dX11_again_62 : decode cX11_again 62 = .ok (.goto (-26), 3) := by decide +kernel
theorem dX11_again_65 : decode cX11_again 65 = .ok (.iconst 0, 1) := by decide +kernel
theorem dX11_again_66 : decode cX11_again 66 = .ok (.istore_n 2, 1) := by decide +kernel
theorem dX11_again_67 : decode cX11_again 67 = .ok (.iload_n 2, 1) := by decide +kernel
theorem dX11_again_68 : decode cX11_again 68 = .ok (.iconst 4, 1) := by decide +kernel
theorem dX11_again_69 : decode cX11_again 69 = .ok (.if_icmp .ge 25, 3) := by decide +kernel
theorem dX11_again_72 : decode cX11_again 72 = .ok (.aload_n 0, 1) := by decide +kernel
theorem dX11_again_73 : decode cX11_again 73 = .ok (.getfield 28, 3) := by decide +kernel
theorem dX11_again_76 : decode cX11_again 76 = .ok (.iload_n 2, 1) := by decide +kernel
theorem dX11_again_77 : decode cX11_again 77 = .ok (.aload_n 0, 1) := by decide +kernel
theorem dX11_again_78 : decode cX11_again 78 = .ok (.getfield 60, 3) := by decide +kernel
theorem dX11_again_81 : decode cX11_again 81 = .ok (.iconst 4, 1) := by decide +kernel
theorem dX11_again_82 : decode cX11_again 82 = .ok (.iload_n 1, 1) := by decide +kernel
theorem dX11_again_83 : decode cX11_again 83 = .ok (.imul, 1) := by decide +kernel
theorem dX11_again_84 : decode cX11_again 84 = .ok (.iload_n 2, 1) := by decide +kernel
theorem dX11_again_85 : decode cX11_again 85 = .ok (.iadd, 1) := by decide +kernel
theorem dX11_again_86 : decode cX11_again 86 = .ok (.iaload, 1) := by decide +kernel
theorem dX11_again_87 : decode cX11_again 87 = .ok (.iastore, 1) := by decide +kernel
theorem dX11_again_88 : decode cX11_again 88 = .ok (.iinc 2 1, 3) := by decide +kernel
theorem dX11_again_91 : decode cX11_again 91 = .ok (.goto (-24), 3) := by decide +kernel
theorem dX11_again_94 : decode cX11_again 94 = .ok (.aload_n 0, 1) := by decide +kernel
theorem dX11_again_95 : decode cX11_again 95 = .ok (.getfield 180, 3) := by decide +kernel
theorem dX11_again_98 : decode cX11_again 98 = .ok (.ireturn, 1) := by decide +kernel
theorem dX11_count_0 : decode cX11_count 0 = .ok (.iconst 0, 1) := by decide +kernel
theorem dX11_count_1 : decode cX11_count 1 = .ok (.istore_n 2, 1) := by decide +kernel
theorem dX11_count_2 : decode cX11_count 2 = .ok (.iconst 0, 1) := by decide +kernel
theorem dX11_count_3 : decode cX11_count 3 = .ok (.istore_n 3, 1) := by decide +kernel
theorem dX11_count_4 : decode cX11_count 4 = .ok (.iconst 0, 1) := by decide +kernel
theorem dX11_count_5 : decode cX11_count 5 = .ok (.istore 4, 2) := by decide +kernel
theorem dX11_count_7 : decode cX11_count 7 = .ok (.iload 4, 2) := by decide +kernel
theorem dX11_count_9 : decode cX11_count 9 = .ok (.aload_n 0, 1) := by decide +kernel
theorem dX11_count_10 : decode cX11_count 10 = .ok (.getfield 180, 3) := by decide +kernel
theorem dX11_count_13 : decode cX11_count 13 = .ok (.if_icmp .ge 26, 3) := by decide +kernel
theorem dX11_count_16 : decode cX11_count 16 = .ok (.iload_n 2, 1) := by decide +kernel
theorem dX11_count_17 : decode cX11_count 17 = .ok (.aload_n 0, 1) := by decide +kernel
theorem dX11_count_18 : decode cX11_count 18 = .ok (.iload 4, 2) := by decide +kernel
theorem dX11_count_20 : decode cX11_count 20 = .ok (.invokevirtual 195, 3) := by decide +kernel
theorem dX11_count_23 : decode cX11_count 23 = .ok (.ifCond .eq 7, 3) := by decide +kernel
theorem dX11_count_26 : decode cX11_count 26 = .ok (.iconst 1, 1) := by decide +kernel
theorem dX11_count_27 : decode cX11_count 27 = .ok (.goto 4, 3) := by decide +kernel
theorem dX11_count_30 : decode cX11_count 30 = .ok (.iconst 0, 1) := by decide +kernel
theorem dX11_count_31 : decode cX11_count 31 = .ok (.iadd, 1) := by decide +kernel
theorem dX11_count_32 : decode cX11_count 32 = .ok (.istore_n 2, 1) := by decide +kernel
theorem dX11_count_33 : decode cX11_count 33 = .ok (.iinc 4 1, 3) := by decide +kernel
theorem dX11_count_36 : decode cX11_count 36 = .ok (.goto (-29), 3) := by decide +kernel
theorem dX11_count_39 : decode cX11_count 39 = .ok (.iconst 0, 1) := by decide +kernel
theorem dX11_count_40 : decode cX11_count 40 = .ok (.istore 4, 2) := by decide +kernel
theorem dX11_count_42 : decode cX11_count 42 = .ok (.iload 4, 2) := by decide +kernel
theorem dX11_count_44 : decode cX11_count 44 = .ok (.iconst 4, 1) := by decide +kernel
theorem dX11_count_45 : decode cX11_count 45 = .ok (.if_icmp .ge 19, 3) := by decide +kernel
theorem dX11_count_48 : decode cX11_count 48 = .ok (.iload_n 3, 1) := by decide +kernel
theorem dX11_count_49 : decode cX11_count 49 = .ok (.aload_n 0, 1) := by decide +kernel
theorem dX11_count_50 : decode cX11_count 50 = .ok (.getfield 28, 3) := by decide +kernel
theorem dX11_count_53 : decode cX11_count 53 = .ok (.iload 4, 2) := by decide +kernel
theorem dX11_count_55 : decode cX11_count 55 = .ok (.iaload, 1) := by decide +kernel
theorem dX11_count_56 : decode cX11_count 56 = .ok (.iadd, 1) := by decide +kernel
theorem dX11_count_57 : decode cX11_count 57 = .ok (.istore_n 3, 1) := by decide +kernel
theorem dX11_count_58 : decode cX11_count 58 = .ok (.iinc 4 1, 3) := by decide +kernel
theorem dX11_count_61 : decode cX11_count 61 = .ok (.goto (-19), 3) := by decide +kernel
theorem dX11_count_64 : decode cX11_count 64 = .ok (.iload_n 1, 1) := by decide +kernel
theorem dX11_count_65 : decode cX11_count 65 = .ok (.tableswitch 45 0 3 #[31, 36, 41, 43], 31) := by decide +kernel
theorem dX11_count_96 : decode cX11_count 96 = .ok (.aload_n 0, 1) := by decide +kernel
theorem dX11_count_97 : decode cX11_count 97 = .ok (.getfield 69, 3) := by decide +kernel
theorem dX11_count_100 : decode cX11_count 100 = .ok (.ireturn, 1) := by decide +kernel
theorem dX11_count_101 : decode cX11_count 101 = .ok (.aload_n 0, 1) := by decide +kernel
theorem dX11_count_102 : decode cX11_count 102 = .ok (.getfield 180, 3) := by decide +kernel
theorem dX11_count_105 : decode cX11_count 105 = .ok (.ireturn, 1) := by decide +kernel
theorem dX11_count_106 : decode cX11_count 106 = .ok (.iload_n 2, 1) := by decide +kernel
theorem dX11_count_107 : decode cX11_count 107 = .ok (.ireturn, 1) := by decide +kernel
theorem dX11_count_108 : decode cX11_count 108 = .ok (.iload_n 3, 1) := by decide +kernel
theorem dX11_count_109 : decode cX11_count 109 = .ok (.ireturn, 1) := by decide +kernel
theorem dX11_count_110 : decode cX11_count 110 = .ok (.bipush (-2), 2) := by decide +kernel
theorem dX11_count_112 : decode cX11_count 112 = .ok (.ireturn, 1) := by decide +kernel
