theorem dX11_init_0 : decode cX11_init 0 = .ok (.aload_n 0, 1) := by decide +kernel
theorem dX11_init_1 : decode cX11_init 1 = .ok (.invokespecial 1, 3) := by decide +kernel
theorem dX11_init_4 : decode cX11_init 4 = .ok (.aload_n 0, 1) := by decide +kernel
theorem dX11_init_5 : decode cX11_init 5 = .ok (.bipush 12, 2) := by decide +kernel
theorem dX11_init_7 : decode cX11_init 7 = .ok (.newarray .int, 2) := by decide +kernel
theorem dX11_init_9 : decode cX11_init 9 = .ok (.putfield 7, 3) := by decide +kernel
theorem dX11_init_12 : decode cX11_init 12 = .ok (.aload_n 0, 1) := by decide +kernel
theorem dX11_init_13 : decode cX11_init 13 = .ok (.bipush 12, 2) := by decide +kernel
theorem dX11_init_15 : decode cX11_init 15 = .ok (.newarray .int, 2) := by decide +kernel
theorem dX11_init_17 : decode cX11_init 17 = .ok (.putfield 13, 3) := by decide +kernel
theorem dX11_init_20 : decode cX11_init 20 = .ok (.aload_n 0, 1) := by decide +kernel
theorem dX11_init_21 : decode cX11_init 21 = .ok (.bipush 48, 2) := by decide +kernel
theorem dX11_init_23 : decode cX11_init 23 = .ok (.newarray .int, 2) := by decide +kernel
theorem dX11_init_25 : decode cX11_init 25 = .ok (.putfield 16, 3) := by decide +kernel
theorem dX11_init_28 : decode cX11_init 28 = .ok (.aload_n 0, 1) := by decide +kernel
theorem dX11_init_29 : decode cX11_init 29 = .ok (.bipush 48, 2) := by decide +kernel
theorem dX11_init_31 : decode cX11_init 31 = .ok (.newarray .int, 2) := by decide +kernel
theorem dX11_init_33 : decode cX11_init 33 = .ok (.putfield 19, 3) := by decide +kernel
theorem dX11_init_36 : decode cX11_init 36 = .ok (.aload_n 0, 1) := by decide +kernel
theorem dX11_init_37 : decode cX11_init 37 = .ok (.bipush 48, 2) := by decide +kernel
theorem dX11_init_39 : decode cX11_init 39 = .ok (.newarray .int, 2) := by decide +kernel
theorem dX11_init_41 : decode cX11_init 41 = .ok (.putfield 22, 3) := by decide +kernel
theorem dX11_init_44 : decode cX11_init 44 = .ok (.aload_n 0, 1) := by decide +kernel
theorem dX11_init_45 : decode cX11_init 45 = .ok (.sipush 400, 3) := by decide +kernel
theorem dX11_init_48 : decode cX11_init 48 = .ok (.newarray .int, 2) := by decide +kernel
theorem dX11_init_50 : decode cX11_init 50 = .ok (.putfield 25, 3) := by decide +kernel
theorem dX11_init_53 : decode cX11_init 53 = .ok (.aload_n 0, 1) := by decide +kernel
theorem dX11_init_54 : decode cX11_init 54 = .ok (.iconst 4, 1) := by decide +kernel
theorem dX11_init_55 : decode cX11_init 55 = .ok (.newarray .int, 2) := by decide +kernel
theorem dX11_init_57 : decode cX11_init 57 = .ok (.putfield 28, 3) := by decide +kernel
theorem dX11_init_60 : decode cX11_init 60 = .ok (.aload_n 0, 1) := by decide +kernel
theorem dX11_init_61 : decode cX11_init 61 = .ok (.sipush 6400, 3) := by decide +kernel
theorem dX11_init_64 : decode cX11_init 64 = .ok (.newarray .int, 2) := by decide +kernel
theorem dX11_init_66 : decode cX11_init 66 = .ok (.putfield 31, 3) := by decide +kernel
theorem dX11_init_69 : decode cX11_init 69 = .ok (.aload_n 0, 1) := by decide +kernel
theorem dX11_init_70 : decode cX11_init 70 = .ok (.bipush 100, 2) := by decide +kernel
theorem dX11_init_72 : decode cX11_init 72 = .ok (.newarray .int, 2) := by decide +kernel
theorem dX11_init_74 : decode cX11_init 74 = .ok (.putfield 34, 3) := by decide +kernel
theorem dX11_init_77 : decode cX11_init 77 = .ok (.aload_n 0, 1) := by decide +kernel
theorem dX11_init_78 : decode cX11_init 78 = .ok (.bipush 48, 2) := by decide +kernel
theorem dX11_init_80 : decode cX11_init 80 = .ok (.newarray .int, 2) := by decide +kernel
theorem dX11_init_82 : decode cX11_init 82 = .ok (.putfield 37, 3) := by decide +kernel
theorem dX11_init_85 : decode cX11_init 85 = .ok (.aload_n 0, 1) := by decide +kernel
theorem dX11_init_86 : decode cX11_init 86 = .ok (.iconst 4, 1) := by decide +kernel
theorem dX11_init_87 : decode cX11_init 87 = .ok (.newarray .long, 2) := by decide +kernel
theorem dX11_init_89 : decode cX11_init 89 = .ok (.putfield 40, 3) := by decide +kernel
theorem dX11_init_92 : decode cX11_init 92 = .ok (.aload_n 0, 1) := by decide +kernel
theorem dX11_init_93 : decode cX11_init 93 = .ok (.bipush 8, 2) := by decide +kernel
theorem dX11_init_95 : decode cX11_init 95 = .ok (.newarray .int, 2) := by decide +kernel
theorem dX11_init_97 : decode cX11_init 97 = .ok (.putfield 44, 3) := by decide +kernel
theorem dX11_init_100 : decode cX11_init 100 = .ok (.aload_n 0, 1) := by decide +kernel
theorem dX11_init_101 : decode cX11_init 101 = .ok (.bipush 8, 2) := by decide +kernel
theorem dX11_init_103 : decode cX11_init 103 = .ok (.newarray .int, 2) := by decide +kernel
theorem dX11_init_105 : decode cX11_init 105 = .ok (.putfield 47, 3) := by decide +kernel
theorem dX11_init_108 : decode cX11_init 108 = .ok (.aload_n 0, 1) := by decide +kernel
theorem dX11_init_109 : decode cX11_init 109 = .ok (.iconst 2, 1) := by decide +kernel
theorem dX11_init_110 : decode cX11_init 110 = .ok (.newarray .boolean, 2) := by decide +kernel
theorem dX11_init_112 : decode cX11_init 112 = .ok (.putfield 50, 3) := by decide +kernel
theorem dX11_init_115 : decode cX11_init 115 = .ok (.aload_n 0, 1) := by decide +kernel
theorem dX11_init_116 : decode cX11_init 116 = .ok (.iconst 2, 1) := by decide +kernel
theorem dX11_init_117 : decode cX11_init 117 = .ok (.newarray .int, 2) := by decide +kernel
theorem dX11_init_119 : decode cX11_init 119 = .ok (.putfield 54, 3) := by decide +kernel
theorem dX11_init_122 : decode cX11_init 122 = .ok (.aload_n 0, 1) := by decide +kernel
theorem dX11_init_123 : decode cX11_init 123 = .ok (.bipush 96, 2) := by decide +kernel
theorem dX11_init_125 : decode cX11_init 125 = .ok (.newarray .int, 2) := by decide +kernel
theorem dX11_init_127 : decode cX11_init 127 = .ok (.putfield 57, 3) := by decide +kernel
theorem dX11_init_130 : decode cX11_init 130 = .ok (.aload_n 0, 1) := by decide +kernel
theorem dX11_init_131 : decode cX11_init 131 = .ok (.bipush 8, 2) := by decide +kernel
theorem dX11_init_133 : decode cX11_init 133 = .ok (.newarray .int, 2) := by decide +kernel
theorem dX11_init_135 : decode cX11_init 135 = .ok (.putfield 60, 3) := by decide +kernel
theorem dX11_init_138 : decode cX11_init 138 = .ok (.iconst 0, 1) := by decide +kernel
theorem dX11_init_139 : decode cX11_init 139 = .ok (.istore_n 1, 1) := by decide +kernel
theorem dX11_init_140 : decode cX11_init 140 = .ok (.iload_n 1, 1) := by decide +kernel
theorem dX11_init_141 : decode cX11_init 141 = .ok (.iconst 4, 1) := by decide +kernel
theorem dX11_init_142 : decode cX11_init 142 = .ok (.if_icmp .ge 16, 3) := by decide +kernel
theorem dX11_init_145 : decode cX11_init 145 = .ok (.aload_n 0, 1) := by decide +kernel
theorem dX11_init_146 : decode cX11_init 146 = .ok (.getfield 28, 3) := by decide +kernel
theorem dX11_init_149 : decode cX11_init 149 = .ok (.iload_n 1, 1) := by decide +kernel
theorem dX11_init_150 : decode cX11_init 150 = .ok (.iconst 1, 1) := by decide +kernel
theorem dX11_init_151 : decode cX11_init 151 = .ok (.iastore, 1) := by decide +kernel
theorem dX11_init_152 : decode cX11_init 152 = .ok (.iinc 1 1, 3) := by decide +kernel
theorem dX11_init_155 : decode cX11_init 155 = .ok (.goto (-15), 3) := by decide +kernel
theorem dX11_init_158 : decode cX11_init 158 = .ok (.return_, 1) := by decide +kernel
theorem dX11_in_0 : decode cX11_in 0 = .ok (.lload_n 0, 1) := by decide +kernel
theorem dX11_in_1 : decode cX11_in 1 = .ok (.lload_n 2, 1) := by decide +kernel
theorem dX11_in_2 : decode cX11_in 2 = .ok (.lcmp, 1) := by decide +kernel
theorem dX11_in_3 : decode cX11_in 3 = .ok (.ifCond .lt 14, 3) := by decide +kernel
theorem dX11_in_6 : decode cX11_in 6 = .ok (.lload_n 0, 1) := by decide +kernel
theorem dX11_in_7 : decode cX11_in 7 = .ok (.lload 4, 2) := by decide +kernel
theorem dX11_in_9 : decode cX11_in 9 = .ok (.lcmp, 1) := by decide +kernel
theorem dX11_in_10 : decode cX11_in 10 = .ok (.ifCond .gt 7, 3) := by decide +kernel
theorem dX11_in_13 : decode cX11_in 13 = .ok (.iconst 1, 1) := by decide +kernel
theorem dX11_in_14 : decode cX11_in 14 = .ok (.goto 4, 3) := by decide +kernel
theorem dX11_in_17 : decode cX11_in 17 = .ok (.iconst 0, 1) := by decide +kernel
theorem dX11_in_18 : decode cX11_in 18 = .ok (.ireturn, 1) := by decide +kernel
theorem dX11_ones_0 : decode cX11_ones 0 = .ok (.iconst 0, 1) := by decide +kernel
theorem dX11_ones_1 : decode cX11_ones 1 = .ok (.istore_n 1, 1) := by decide +kernel
theorem dX11_ones_2 : decode cX11_ones 2 = .ok (.iconst 0, 1) := by decide +kernel
theorem dX11_ones_3 : decode cX11_ones 3 = .ok (.istore_n 2, 1) := by decide +kernel
theorem dX11_ones_4 : decode cX11_ones 4 = .ok (.iload_n 2, 1) := by decide +kernel
theorem dX11_ones_5 : decode cX11_ones 5 = .ok (.bipush 6, 2) := by decide +kernel
theorem dX11_ones_7 : decode cX11_ones 7 = .ok (.if_icmp .ge 17, 3) := by decide +kernel
theorem dX11_ones_10 : decode cX11_ones 10 = .ok (.iload_n 1, 1) := by decide +kernel
theorem dX11_ones_11 : decode cX11_ones 11 = .ok (.iload_n 0, 1) := by decide +kernel
theorem dX11_ones_12 : decode cX11_ones 12 = .ok (.iload_n 2, 1) := by decide +kernel
theorem dX11_ones_13 : decode cX11_ones 13 = .ok (.ishr, 1) := by decide +kernel
theorem dX11_ones_14 : decode cX11_ones 14 = .ok (.iconst 1, 1) := by decide +kernel
theorem dX11_ones_15 : decode cX11_ones 15 = .ok (.iand, 1) := by decide +kernel
theorem dX11_ones_16 : decode cX11_ones 16 = .ok (.iadd, 1) := by decide +kernel
theorem dX11_ones_17 : decode cX11_ones 17 = .ok (.istore_n 1, 1) := by decide +kernel
theorem dX11_ones_18 : decode cX11_ones 18 = .ok (.iinc 2 1, 3) := by decide +kernel
theorem dX11_ones_21 : decode cX11_ones 21 = .ok (.goto (-17), 3) := by decide +kernel
theorem dX11_ones_24 : decode cX11_ones 24 = .ok (.iload_n 1, 1) := by decide +kernel
theorem dX11_ones_25 : decode cX11_ones 25 = .ok (.ireturn, 1) := by decide +kernel
theorem dX11_write_0 : decode cX11_write 0 = .ok (.iload_n 1, 1) := by decide +kernel
theorem dX11_write_1 : decode cX11_write 1 = .ok (.i2l, 1) := by decide +kernel
theorem dX11_write_2 : decode cX11_write 2 = .ok (.lconst 1, 1) := by decide +kernel
theorem dX11_write_3 : decode cX11_write 3 = .ok (.ldc2_w 63, 3) := by decide +kernel
theorem dX11_write_6 : decode cX11_write 6 = .ok (.invokestatic 65, 3) := by decide +kernel
theorem dX11_write_9 : decode cX11_write 9 = .ok (.ifCond .ne 6, 3) := by decide +kernel
theorem dX11_write_12 : decode cX11_write 12 = .ok (.bipush (-2), 2) := by decide +kernel
theorem dX11_write_14 : decode cX11_write 14 = .ok (.ireturn, 1) := by decide +kernel
theorem dX11_write_15 : decode cX11_write 15 = .ok (.aload_n 0, 1) := by decide +kernel
theorem dX11_write_16 : decode cX11_write 16 = .ok (.getfield 69, 3) := by decide +kernel
theorem dX11_write_19 : decode cX11_write 19 = .ok (.iload_n 1, 1) := by decide +kernel
theorem dX11_write_20 : decode cX11_write 20 = .ok (.iadd, 1) := by decide +kernel
theorem dX11_write_21 : decode cX11_write 21 = .ok (.bipush 48, 2) := by decide +kernel
theorem dX11_write_23 : decode cX11_write 23 = .ok (.if_icmp .le 6, 3) := by decide +kernel
theorem dX11_write_26 : decode cX11_write 26 = .ok (.bipush (-4), 2) := by decide +kernel
theorem dX11_write_28 : decode cX11_write 28 = .ok (.ireturn, 1) := by decide +kernel
theorem dX11_write_29 : decode cX11_write 29 = .ok (.iload_n 1, 1) := by decide +kernel
theorem dX11_write_30 : decode cX11_write 30 = .ok (.iconst 1, 1) := by decide +kernel
theorem dX11_write_31 : decode cX11_write 31 = .ok (.isub, 1) := by decide +kernel
theorem dX11_write_32 : decode cX11_write 32 = .ok (.istore 4, 2) := by decide +kernel
theorem dX11_write_34 : decode cX11_write 34 = .ok (.iload 4, 2) := by decide +kernel
theorem dX11_write_36 : decode cX11_write 36 = .ok (.ifCond .lt 40, 3) := by decide +kernel
theorem dX11_write_39 : decode cX11_write 39 = .ok (.aload_n 0, 1) := by decide +kernel
theorem dX11_write_40 : decode cX11_write 40 = .ok (.getfield 16, 3) := by decide +kernel
theorem dX11_write_43 : decode cX11_write 43 = .ok (.aload_n 0, 1) := by decide +kernel
theorem dX11_write_44 : decode cX11_write 44 = .ok (.getfield 69, 3) := by decide +kernel
theorem dX11_write_47 : decode cX11_write 47 = .ok (.lload_n 2, 1) := by decide +kernel
theorem dX11_write_48 : decode cX11_write 48 = .ok (.bipush 8, 2) := by decide +kernel
theorem dX11_write_50 : decode cX11_write 50 = .ok (.iload 4, 2) := by decide +kernel
theorem dX11_write_52 : decode cX11_write 52 = .ok (.imul, 1) := by decide +kernel
theorem dX11_write_53 : decode cX11_write 53 = .ok (.lshr, 1) := by decide +kernel
theorem dX11_write_54 : decode cX11_write 54 = .ok (.ldc2_w 73, 3) := by decide +kernel
theorem dX11_write_57 : decode cX11_write 57 = .ok (.land, 1) := by decide +kernel
theorem dX11_write_58 : decode cX11_write 58 = .ok (.l2i, 1) := by decide +kernel
theorem dX11_write_59 : decode cX11_write 59 = .ok (.iastore, 1) := by decide +kernel
theorem dX11_write_60 : decode cX11_write 60 = .ok (.aload_n 0, 1) := by decide +kernel
theorem dX11_write_61 : decode cX11_write 61 = .ok (.dup, 1) := by decide +kernel
theorem dX11_write_62 : decode cX11_write 62 = .ok (.getfield 69, 3) := by decide +kernel
theorem dX11_write_65 : decode cX11_write 65 = .ok (.iconst 1, 1) := by decide +kernel
theorem dX11_write_66 : decode cX11_write 66 = .ok (.iadd, 1) := by decide +kernel
theorem dX11_write_67 : decode cX11_write 67 = .ok (.putfield 69, 3) := by decide +kernel
theorem dX11_write_70 : decode cX11_write 70 = .ok (.iinc 4 (-1), 3) := by decide +kernel
theorem dX11_write_73 : decode cX11_write 73 = .ok (.goto (-39), 3) := by decide +kernel
theorem dX11_write_76 : decode cX11_write 76 = .ok (.aload_n 0, 1) := by decide +kernel
theorem dX11_write_77 : decode cX11_write 77 = .ok (.getfield 69, 3) := by decide +kernel
theorem dX11_write_80 : decode cX11_write 80 = .ok (.ireturn, 1) := by decide +kernel
theorem dX11_wipe_0 : decode cX11_wipe 0 = .ok (.aload_n 0, 1) := by decide +kernel
theorem dX11_wipe_1 : decode cX11_wipe 1 = .ok (.getfield 69, 3) := by decide +kernel
theorem dX11_wipe_4 : decode cX11_wipe 4 = .ok (.istore_n 1, 1) := by decide +kernel
theorem dX11_wipe_5 : decode cX11_wipe 5 = .ok (.aload_n 0, 1) := by decide +kernel
theorem dX11_wipe_6 : decode cX11_wipe 6 = .ok (.iconst 0, 1) := by decide +kernel
theorem dX11_wipe_7 : decode cX11_wipe 7 = .ok (.putfield 69, 3) := by decide +kernel
theorem dX11_wipe_10 : decode cX11_wipe 10 = .ok (.iload_n 1, 1) := by decide +kernel
theorem dX11_wipe_11 : decode cX11_wipe 11 = .ok (.ireturn, 1) := by decide +kernel
theorem dX11_fail_0 : decode cX11_fail 0 = .ok (.aload_n 0, 1) := by decide +kernel
theorem dX11_fail_1 : decode cX11_fail 1 = .ok (.aload_n 0, 1) := by decide +kernel
theorem dX11_fail_2 : decode cX11_fail 2 = .ok (.getfield 75, 3) := by decide +kernel
theorem dX11_fail_5 : decode cX11_fail 5 = .ok (.bipush (-9), 2) := by decide +kernel
theorem dX11_fail_7 : decode cX11_fail 7 = .ok (.if_icmp .ne 10, 3) := by decide +kernel
theorem dX11_fail_10 : decode cX11_fail 10 = .ok (.aload_n 0, 1) := by decide +kernel
theorem dX11_fail_11 : decode cX11_fail 11 = .ok (.getfield 78, 3) := by decide +kernel
theorem dX11_fail_14 : decode cX11_fail 14 = .ok (.goto 7, 3) := by decide +kernel
theorem dX11_fail_17 : decode cX11_fail 17 = .ok (.aload_n 0, 1) := by decide +kernel
theorem dX11_fail_18 : decode cX11_fail 18 = .ok (.getfield 75, 3) := by decide +kernel
theorem dX11_fail_21 : decode cX11_fail 21 = .ok (.putfield 75, 3) := by decide +kernel
theorem dX11_fail_24 : decode cX11_fail 24 = .ok (.return_, 1) := by decide +kernel
theorem dX11_isNext_0 : decode cX11_isNext 0 = .ok (.aload_n 0, 1) := by decide +kernel
theorem dX11_isNext_1 : decode cX11_isNext 1 = .ok (.getfield 75, 3) := by decide +kernel
theorem dX11_isNext_4 : decode cX11_isNext 4 = .ok (.bipush (-9), 2) := by decide +kernel
theorem dX11_isNext_6 : decode cX11_isNext 6 = .ok (.if_icmp .ne 31, 3) := by decide +kernel
theorem dX11_isNext_9 : decode cX11_isNext 9 = .ok (.aload_n 0, 1) := by decide +kernel
theorem dX11_isNext_10 : decode cX11_isNext 10 = .ok (.getfield 78, 3) := by decide +kernel
theorem dX11_isNext_13 : decode cX11_isNext 13 = .ok (.aload_n 0, 1) := by decide +kernel
theorem dX11_isNext_14 : decode cX11_isNext 14 = .ok (.getfield 69, 3) := by decide +kernel
theorem dX11_isNext_17 : decode cX11_isNext 17 = .ok (.if_icmp .ge 20, 3) := by decide +kernel
theorem dX11_isNext_20 : decode cX11_isNext 20 = .ok (.aload_n 0, 1) := by decide +kernel
theorem dX11_isNext_21 : decode cX11_isNext 21 = .ok (.getfield 16, 3) := by decide +kernel
theorem dX11_isNext_24 : decode cX11_isNext 24 = .ok (.aload_n 0, 1) := by decide +kernel
theorem dX11_isNext_25 : decode cX11_isNext 25 = .ok (.getfield 78, 3) := by decide +kernel
theorem dX11_isNext_28 : decode cX11_isNext 28 = .ok (.iaload, 1) := by decide +kernel
theorem dX11_isNext_29 : decode cX11_isNext 29 = .ok (.iload_n 1, 1) := by decide +kernel
theorem dX11_isNext_30 : decode cX11_isNext 30 = .ok (.if_icmp .ne 7, 3) := by decide +kernel
theorem dX11_isNext_33 : decode cX11_isNext 33 = .ok (.iconst 1, 1) := by decide +kernel
theorem dX11_isNext_34 : decode cX11_isNext 34 = .ok (.goto 4, 3) := by decide +kernel
theorem dX11_isNext_37 : decode cX11_isNext 37 = .ok (.iconst 0, 1) := by decide +kernel
theorem dX11_isNext_38 : decode cX11_isNext 38 = .ok (.ireturn, 1) := by decide +kernel
theorem dX11_figure_0 : decode cX11_figure 0 = .ok (.aload_n 0, 1) := by decide +kernel
theorem dX11_figure_1 : decode cX11_figure 1 = .ok (.getfield 75, 3) := by decide +kernel
theorem dX11_figure_4 : decode cX11_figure 4 = .ok (.bipush (-9), 2) := by decide +kernel
theorem dX11_figure_6 : decode cX11_figure 6 = .ok (.if_icmp .ne 29, 3) := by decide +kernel
theorem dX11_figure_9 : decode cX11_figure 9 = .ok (.aload_n 0, 1) := by decide +kernel
theorem dX11_figure_10 : decode cX11_figure 10 = .ok (.getfield 78, 3) := by decide +kernel
theorem dX11_figure_13 : decode cX11_figure 13 = .ok (.aload_n 0, 1) := by decide +kernel
theorem dX11_figure_14 : decode cX11_figure 14 = .ok (.getfield 69, 3) := by decide +kernel
theorem dX11_figure_17 : decode cX11_figure 17 = .ok (.if_icmp .ge 18, 3) := by decide +kernel
theorem dX11_figure_20 : decode cX11_figure 20 = .ok (.aload_n 0, 1) := by decide +kernel
theorem dX11_figure_21 : decode cX11_figure 21 = .ok (.getfield 16, 3) := by decide +kernel
theorem dX11_figure_24 : decode cX11_figure 24 = .ok (.aload_n 0, 1) := by decide +kernel
theorem dX11_figure_25 : decode cX11_figure 25 = .ok (.getfield 78, 3) := by decide +kernel
theorem dX11_figure_28 : decode cX11_figure 28 = .ok (.iaload, 1) := by decide +kernel
theorem dX11_figure_29 : decode cX11_figure 29 = .ok (.bipush 48, 2) := by decide +kernel
theorem dX11_figure_31 : decode cX11_figure 31 = .ok (.isub, 1) := by decide +kernel
theorem dX11_figure_32 : decode cX11_figure 32 = .ok (.goto 4, 3) := by decide +kernel
theorem dX11_figure_35 : decode cX11_figure 35 = .ok (.iconst (-1), 1) := by decide +kernel
theorem dX11_figure_36 : decode cX11_figure 36 = .ok (.istore_n 2, 1) := by decide +kernel
theorem dX11_figure_37 : decode cX11_figure 37 = .ok (.iload_n 2, 1) := by decide +kernel
theorem dX11_figure_38 : decode cX11_figure 38 = .ok (.i2l, 1) := by decide +kernel
theorem dX11_figure_39 : decode cX11_figure 39 = .ok (.lconst 0, 1) := by decide +kernel
theorem dX11_figure_40 : decode cX11_figure 40 = .ok (.ldc2_w 81, 3) := by decide +kernel
theorem dX11_figure_43 : decode cX11_figure 43 = .ok (.invokestatic 65, 3) := by decide +kernel
theorem dX11_figure_46 : decode cX11_figure 46 = .ok (.ifCond .eq 11, 3) := by decide +kernel
theorem dX11_figure_49 : decode cX11_figure 49 = .ok (.iload_n 1, 1) := by decide +kernel
theorem dX11_figure_50 : decode cX11_figure 50 = .ok (.iload_n 2, 1) := by decide +kernel
theorem dX11_figure_51 : decode cX11_figure 51 = .ok (.ishr, 1) := by decide +kernel
theorem dX11_figure_52 : decode cX11_figure 52 = .ok (.iconst 1, 1) := by decide +kernel
theorem dX11_figure_53 : decode cX11_figure 53 = .ok (.iand, 1) := by decide +kernel
theorem dX11_figure_54 : decode cX11_figure 54 = .ok (.ifCond .ne 9, 3) := by decide +kernel
theorem dX11_figure_57 : decode cX11_figure 57 = .ok (.aload_n 0, 1) := by decide +kernel
theorem dX11_figure_58 : decode cX11_figure 58 = .ok (.invokevirtual 83, 3) := by decide +kernel
theorem dX11_figure_61 : decode cX11_figure 61 = .ok (.iconst 0, 1) := by decide +kernel
theorem dX11_figure_62 : decode cX11_figure 62 = .ok (.ireturn, 1) := by decide +kernel
theorem dX11_figure_63 : decode cX11_figure 63 = .ok (.aload_n 0, 1) := by decide +kernel
theorem dX11_figure_64 : decode cX11_figure 64 = .ok (.dup, 1) := by decide +kernel
theorem dX11_figure_65 : decode cX11_figure 65 = .ok (.getfield 78, 3) := by decide +kernel
theorem dX11_figure_68 : decode cX11_figure 68 = .ok (.iconst 1, 1) := by decide +kernel
theorem dX11_figure_69 : decode cX11_figure 69 = .ok (.iadd, 1) := by decide +kernel
theorem dX11_figure_70 : decode cX11_figure 70 = .ok (.putfield 78, 3) := by decide +kernel
theorem dX11_figure_73 : decode cX11_figure 73 = .ok (.iload_n 2, 1) := by decide +kernel
theorem dX11_figure_74 : decode cX11_figure 74 = .ok (.ireturn, 1) := by decide +kernel
theorem dX11_placeOf_0 : decode cX11_placeOf 0 = .ok (.iload_n 0, 1) := by decide +kernel
theorem dX11_placeOf_1 : decode cX11_placeOf 1 = .ok (.bipush 82, 2) := by decide +kernel
theorem dX11_placeOf_3 : decode cX11_placeOf 3 = .ok (.if_icmp .ne 8, 3) := by decide +kernel
theorem dX11_placeOf_6 : decode cX11_placeOf 6 = .ok (.bipush 6, 2) := by decide +kernel
theorem dX11_placeOf_8 : decode cX11_placeOf 8 = .ok (.goto 60, 3) := by decide +kernel
theorem dX11_placeOf_11 : decode cX11_placeOf 11 = .ok (.iload_n 0, 1) := by decide +kernel
theorem dX11_placeOf_12 : decode cX11_placeOf 12 = .ok (.bipush 71, 2) := by decide +kernel
theorem dX11_placeOf_14 : decode cX11_placeOf 14 = .ok (.if_icmp .ne 8, 3) := by decide +kernel
theorem dX11_placeOf_17 : decode cX11_placeOf 17 = .ok (.bipush 7, 2) := by decide +kernel
theorem dX11_placeOf_19 : decode cX11_placeOf 19 = .ok (.goto 49, 3) := by decide +kernel
theorem dX11_placeOf_22 : decode cX11_placeOf 22 = .ok (.iload_n 0, 1) := by decide +kernel
theorem dX11_placeOf_23 : decode cX11_placeOf 23 = .ok (.bipush 70, 2) := by decide +kernel
theorem dX11_placeOf_25 : decode cX11_placeOf 25 = .ok (.if_icmp .ne 8, 3) := by decide +kernel
theorem dX11_placeOf_28 : decode cX11_placeOf 28 = .ok (.bipush 8, 2) := by decide +kernel
theorem dX11_placeOf_30 : decode cX11_placeOf 30 = .ok (.goto 38, 3) := by decide +kernel
theorem dX11_placeOf_33 : decode cX11_placeOf 33 = .ok (.iload_n 0, 1) := by decide +kernel
theorem dX11_placeOf_34 : decode cX11_placeOf 34 = .ok (.bipush 77, 2) := by decide +kernel
theorem dX11_placeOf_36 : decode cX11_placeOf 36 = .ok (.if_icmp .ne 8, 3) := by decide +kernel
theorem dX11_placeOf_39 : decode cX11_placeOf 39 = .ok (.bipush 9, 2) := by decide +kernel
theorem dX11_placeOf_41 : decode cX11_placeOf 41 = .ok (.goto 27, 3) := by decide +kernel
theorem dX11_placeOf_44 : decode cX11_placeOf 44 = .ok (.iload_n 0, 1) := by decide +kernel
theorem dX11_placeOf_45 : decode cX11_placeOf 45 = .ok (.bipush 86, 2) := by decide +kernel
theorem dX11_placeOf_47 : decode cX11_placeOf 47 = .ok (.if_icmp .ne 8, 3) := by decide +kernel
theorem dX11_placeOf_50 : decode cX11_placeOf 50 = .ok (.bipush 10, 2) := by decide +kernel
theorem dX11_placeOf_52 : decode cX11_placeOf 52 = .ok (.goto 16, 3) := by decide +kernel
theorem dX11_placeOf_55 : decode cX11_placeOf 55 = .ok (.iload_n 0, 1) := by decide +kernel
theorem dX11_placeOf_56 : decode cX11_placeOf 56 = .ok (.bipush 87, 2) := by decide +kernel
theorem dX11_placeOf_58 : decode cX11_placeOf 58 = .ok (.if_icmp .ne 8, 3) := by decide +kernel
theorem dX11_placeOf_61 : decode cX11_placeOf 61 = .ok (.bipush 11, 2) := by decide +kernel
theorem dX11_placeOf_63 : decode cX11_placeOf 63 = .ok (.goto 5, 3) := by decide +kernel
theorem dX11_placeOf_66 : decode cX11_placeOf 66 = .ok (.bipush (-9), 2) := by decide +kernel
theorem dX11_placeOf_68 : decode cX11_placeOf 68 = .ok (.ireturn, 1) := by decide +kernel
theorem dX11_readLaw_0 : decode cX11_readLaw 0 = .ok (.aload_n 0, 1) := by decide +kernel
theorem dX11_readLaw_1 : decode cX11_readLaw 1 = .ok (.iconst 0, 1) := by decide +kernel
theorem dX11_readLaw_2 : decode cX11_readLaw 2 = .ok (.putfield 78, 3) := by decide +kernel
theorem dX11_readLaw_5 : decode cX11_readLaw 5 = .ok (.aload_n 0, 1) := by decide +kernel
theorem dX11_readLaw_6 : decode cX11_readLaw 6 = .ok (.bipush (-9), 2) := by decide +kernel
theorem dX11_readLaw_8 : decode cX11_readLaw 8 = .ok (.putfield 75, 3) := by decide +kernel
theorem dX11_readLaw_11 : decode cX11_readLaw 11 = .ok (.aload_n 0, 1) := by decide +kernel
theorem dX11_readLaw_12 : decode cX11_readLaw 12 = .ok (.iconst 0, 1) := by decide +kernel
theorem dX11_readLaw_13 : decode cX11_readLaw 13 = .ok (.putfield 86, 3) := by decide +kernel
theorem dX11_readLaw_16 : decode cX11_readLaw 16 = .ok (.iconst 0, 1) := by decide +kernel
theorem dX11_readLaw_17 : decode cX11_readLaw 17 = .ok (.istore_n 1, 1) := by decide +kernel
theorem dX11_readLaw_18 : decode cX11_readLaw 18 = .ok (.iconst 0, 1) := by decide +kernel
theorem dX11_readLaw_19 : decode cX11_readLaw 19 = .ok (.istore_n 2, 1) := by decide +kernel
theorem dX11_readLaw_20 : decode cX11_readLaw 20 = .ok (.iload_n 2, 1) := by decide +kernel
theorem dX11_readLaw_21 : decode cX11_readLaw 21 = .ok (.bipush 12, 2) := by decide +kernel
theorem dX11_readLaw_23 : decode cX11_readLaw 23 = .ok (.if_icmp .ge 16, 3) := by decide +kernel
theorem dX11_readLaw_26 : decode cX11_readLaw 26 = .ok (.aload_n 0, 1) := by decide +kernel
theorem dX11_readLaw_27 : decode cX11_readLaw 27 = .ok (.getfield 7, 3) := by decide +kernel
theorem dX11_readLaw_30 : decode cX11_readLaw 30 = .ok (.iload_n 2, 1) := by decide +kernel
theorem dX11_readLaw_31 : decode cX11_readLaw 31 = .ok (.iconst 0, 1) := by decide +kernel
theorem dX11_readLaw_32 : decode cX11_readLaw 32 = .ok (.iastore, 1) := by decide +kernel
theorem dX11_readLaw_33 : decode cX11_readLaw 33 = .ok (.iinc 2 1, 3) := by decide +kernel
theorem dX11_readLaw_36 : decode cX11_readLaw 36 = .ok (.goto (-16), 3) := by decide +kernel
theorem dX11_readLaw_39 : decode cX11_readLaw 39 = .ok (.aload_n 0, 1) := by decide +kernel
theorem dX11_readLaw_40 : decode cX11_readLaw 40 = .ok (.getfield 75, 3) := by decide +kernel
theorem dX11_readLaw_43 : decode cX11_readLaw 43 = .ok (.bipush (-9), 2) := by decide +kernel
theorem dX11_readLaw_45 : decode cX11_readLaw 45 = .ok (.if_icmp .ne 191, 3) := by decide +kernel
theorem dX11_readLaw_48 : decode cX11_readLaw 48 = .ok (.aload_n 0, 1) := by decide +kernel
theorem dX11_readLaw_49 : decode cX11_readLaw 49 = .ok (.getfield 78, 3) := by decide +kernel
theorem dX11_readLaw_52 : decode cX11_readLaw 52 = .ok (.aload_n 0, 1) := by decide +kernel
theorem dX11_readLaw_53 : decode cX11_readLaw 53 = .ok (.getfield 69, 3) := by decide +kernel
theorem dX11_readLaw_56 : decode cX11_readLaw 56 = .ok (.if_icmp .ge 180, 3) := by decide +kernel
theorem dX11_readLaw_59 : decode cX11_readLaw 59 = .ok (.aload_n 0, 1) := by decide +kernel
theorem dX11_readLaw_60 : decode cX11_readLaw 60 = .ok (.getfield 16, 3) := by decide +kernel
theorem dX11_readLaw_63 : decode cX11_readLaw 63 = .ok (.aload_n 0, 1) := by decide +kernel
theorem dX11_readLaw_64 : decode cX11_readLaw 64 = .ok (.getfield 78, 3) := by decide +kernel
theorem dX11_readLaw_67 : decode cX11_readLaw 67 = .ok (.iaload, 1) := by decide +kernel
theorem dX11_readLaw_68 : decode cX11_readLaw 68 = .ok (.invokestatic 89, 3) := by decide +kernel
theorem dX11_readLaw_71 : decode cX11_readLaw 71 = .ok (.istore_n 2, 1) := by decide +kernel
theorem dX11_readLaw_72 : decode cX11_readLaw 72 = .ok (.aload_n 0, 1) := by decide +kernel
theorem dX11_readLaw_73 : decode cX11_readLaw 73 = .ok (.bipush 76, 2) := by decide +kernel
theorem dX11_readLaw_75 : decode cX11_readLaw 75 = .ok (.invokevirtual 93, 3) := by decide +kernel
theorem dX11_readLaw_78 : decode cX11_readLaw 78 = .ok (.ifCond .eq 62, 3) := by decide +kernel
theorem dX11_readLaw_81 : decode cX11_readLaw 81 = .ok (.iload_n 1, 1) := by decide +kernel
theorem dX11_readLaw_82 : decode cX11_readLaw 82 = .ok (.bipush 63, 2) := by decide +kernel
theorem dX11_readLaw_84 : decode cX11_readLaw 84 = .ok (.iand, 1) := by decide +kernel
theorem dX11_readLaw_85 : decode cX11_readLaw 85 = .ok (.bipush 63, 2) := by decide +kernel
theorem dX11_readLaw_87 : decode cX11_readLaw 87 = .ok (.if_icmp .eq 53, 3) := by decide +kernel
theorem dX11_readLaw_90 : decode cX11_readLaw 90 = .ok (.aload_n 0, 1) := by decide +kernel
theorem dX11_readLaw_91 : decode cX11_readLaw 91 = .ok (.dup, 1) := by decide +kernel
theorem dX11_readLaw_92 : decode cX11_readLaw 92 = .ok (.getfield 78, 3) := by decide +kernel
theorem dX11_readLaw_95 : decode cX11_readLaw 95 = .ok (.iconst 1, 1) := by decide +kernel
theorem dX11_readLaw_96 : decode cX11_readLaw 96 = .ok (.iadd, 1) := by decide +kernel
theorem dX11_readLaw_97 : decode cX11_readLaw 97 = .ok (.putfield 78, 3) := by decide +kernel
theorem dX11_readLaw_100 : decode cX11_readLaw 100 = .ok (.aload_n 0, 1) := by decide +kernel
theorem dX11_readLaw_101 : decode cX11_readLaw 101 = .ok (.bipush 63, 2) := by decide +kernel
theorem dX11_readLaw_103 : decode cX11_readLaw 103 = .ok (.iload_n 1, 1) := by decide +kernel
theorem dX11_readLaw_104 : decode cX11_readLaw 104 = .ok (.iconst (-1), 1) := by decide +kernel
theorem dX11_readLaw_105 : decode cX11_readLaw 105 = .ok (.ixor, 1) := by decide +kernel
theorem dX11_readLaw_106 : decode cX11_readLaw 106 = .ok (.iand, 1) := by decide +kernel
theorem dX11_readLaw_107 : decode cX11_readLaw 107 = .ok (.invokevirtual 97, 3) := by decide +kernel
theorem dX11_readLaw_110 : decode cX11_readLaw 110 = .ok (.istore_n 2, 1) := by decide +kernel
theorem dX11_readLaw_111 : decode cX11_readLaw 111 = .ok (.aload_n 0, 1) := by decide +kernel
theorem dX11_readLaw_112 : decode cX11_readLaw 112 = .ok (.sipush 1023, 3) := by decide +kernel
theorem dX11_readLaw_115 : decode cX11_readLaw 115 = .ok (.invokevirtual 97, 3) := by decide +kernel
theorem dX11_readLaw_118 : decode cX11_readLaw 118 = .ok (.istore_n 3, 1) := by decide +kernel
theorem dX11_readLaw_119 : decode cX11_readLaw 119 = .ok (.aload_n 0, 1) := by decide +kernel
theorem dX11_readLaw_120 : decode cX11_readLaw 120 = .ok (.getfield 7, 3) := by decide +kernel
theorem dX11_readLaw_123 : decode cX11_readLaw 123 = .ok (.iload_n 2, 1) := by decide +kernel
theorem dX11_readLaw_124 : decode cX11_readLaw 124 = .ok (.bipush 10, 2) := by decide +kernel
theorem dX11_readLaw_126 : decode cX11_readLaw 126 = .ok (.iload_n 3, 1) := by decide +kernel
theorem dX11_readLaw_127 : decode cX11_readLaw 127 = .ok (.imul, 1) := by decide +kernel
theorem dX11_readLaw_128 : decode cX11_readLaw 128 = .ok (.aload_n 0, 1) := by decide +kernel
theorem dX11_readLaw_129 : decode cX11_readLaw 129 = .ok (.sipush 1023, 3) := by decide +kernel
theorem dX11_readLaw_132 : decode cX11_readLaw 132 = .ok (.invokevirtual 97, 3) := by decide +kernel
theorem dX11_readLaw_135 : decode cX11_readLaw 135 = .ok (.iadd, 1) := by decide +kernel
theorem dX11_readLaw_136 : decode cX11_readLaw 136 = .ok (.iastore, 1) := by decide +kernel
theorem dX11_readLaw_137 : decode cX11_readLaw 137 = .ok (.goto 70, 3) := by decide +kernel
theorem dX11_readLaw_140 : decode cX11_readLaw 140 = .ok (.iload_n 2, 1) := by decide +kernel
theorem dX11_readLaw_141 : decode cX11_readLaw 141 = .ok (.bipush (-9), 2) := by decide +kernel
theorem dX11_readLaw_143 : decode cX11_readLaw 143 = .ok (.if_icmp .eq 60, 3) := by decide +kernel
theorem dX11_readLaw_146 : decode cX11_readLaw 146 = .ok (.iload_n 1, 1) := by decide +kernel
theorem dX11_readLaw_147 : decode cX11_readLaw 147 = .ok (.iload_n 2, 1) := by decide +kernel
theorem dX11_readLaw_148 : decode cX11_readLaw 148 = .ok (.ishr, 1) := by decide +kernel
theorem dX11_readLaw_149 : decode cX11_readLaw 149 = .ok (.iconst 1, 1) := by decide +kernel
theorem dX11_readLaw_150 : decode cX11_readLaw 150 = .ok (.iand, 1) := by decide +kernel
theorem dX11_readLaw_151 : decode cX11_readLaw 151 = .ok (.ifCond .ne 52, 3) := by decide +kernel
theorem dX11_readLaw_154 : decode cX11_readLaw 154 = .ok (.aload_n 0, 1) := by decide +kernel
theorem dX11_readLaw_155 : decode cX11_readLaw 155 = .ok (.dup, 1) := by decide +kernel
theorem dX11_readLaw_156 : decode cX11_readLaw 156 = .ok (.getfield 78, 3) := by decide +kernel
theorem dX11_readLaw_159 : decode cX11_readLaw 159 = .ok (.iconst 1, 1) := by decide +kernel
theorem dX11_readLaw_160 : decode cX11_readLaw 160 = .ok (.iadd, 1) := by decide +kernel
theorem dX11_readLaw_161 : decode cX11_readLaw 161 = .ok (.putfield 78, 3) := by decide +kernel
theorem dX11_readLaw_164 : decode cX11_readLaw 164 = .ok (.aload_n 0, 1) := by decide +kernel
theorem dX11_readLaw_165 : decode cX11_readLaw 165 = .ok (.sipush 1023, 3) := by decide +kernel
theorem dX11_readLaw_168 : decode cX11_readLaw 168 = .ok (.invokevirtual 97, 3) := by decide +kernel
theorem dX11_readLaw_171 : decode cX11_readLaw 171 = .ok (.istore_n 3, 1) := by decide +kernel
theorem dX11_readLaw_172 : decode cX11_readLaw 172 = .ok (.aload_n 0, 1) := by decide +kernel
theorem dX11_readLaw_173 : decode cX11_readLaw 173 = .ok (.getfield 7, 3) := by decide +kernel
theorem dX11_readLaw_176 : decode cX11_readLaw 176 = .ok (.iload_n 2, 1) := by decide +kernel
theorem dX11_readLaw_177 : decode cX11_readLaw 177 = .ok (.iload_n 2, 1) := by decide +kernel
theorem dX11_readLaw_178 : decode cX11_readLaw 178 = .ok (.bipush 8, 2) := by decide +kernel
theorem dX11_readLaw_180 : decode cX11_readLaw 180 = .ok (.if_icmp .ne 18, 3) := by decide +kernel
theorem dX11_readLaw_183 : decode cX11_readLaw 183 = .ok (.bipush 10, 2) := by decide +kernel
theorem dX11_readLaw_185 : decode cX11_readLaw 185 = .ok (.iload_n 3, 1) := by decide +kernel
theorem dX11_readLaw_186 : decode cX11_readLaw 186 = .ok (.imul, 1) := by decide +kernel
theorem dX11_readLaw_187 : decode cX11_readLaw 187 = .ok (.aload_n 0, 1) := by decide +kernel
theorem dX11_readLaw_188 : decode cX11_readLaw 188 = .ok (.sipush 1023, 3) := by decide +kernel
theorem dX11_readLaw_191 : decode cX11_readLaw 191 = .ok (.invokevirtual 97, 3) := by decide +kernel
theorem dX11_readLaw_194 : decode cX11_readLaw 194 = .ok (.iadd, 1) := by decide +kernel
theorem dX11_readLaw_195 : decode cX11_readLaw 195 = .ok (.goto 4, 3) := by decide +kernel
theorem dX11_readLaw_198 : decode cX11_readLaw 198 = .ok (.iload_n 3, 1) := by decide +kernel
theorem dX11_readLaw_199 : decode cX11_readLaw 199 = .ok (.iastore, 1) := by decide +kernel
theorem dX11_readLaw_200 : decode cX11_readLaw 200 = .ok (.goto 7, 3) := by decide +kernel
theorem dX11_readLaw_203 : decode cX11_readLaw 203 = .ok (.aload_n 0, 1) := by decide +kernel
theorem dX11_readLaw_204 : decode cX11_readLaw 204 = .ok (.invokevirtual 83, 3) := by decide +kernel
theorem dX11_readLaw_207 : decode cX11_readLaw 207 = .ok (.iload_n 1, 1) := by decide +kernel
theorem dX11_readLaw_208 : decode cX11_readLaw 208 = .ok (.iload_n 2, 1) := by decide +kernel
theorem dX11_readLaw_209 : decode cX11_readLaw 209 = .ok (.bipush (-9), 2) := by decide +kernel
theorem dX11_readLaw_211 : decode cX11_readLaw 211 = .ok (.if_icmp .ne 7, 3) := by decide +kernel
theorem dX11_readLaw_214 : decode cX11_readLaw 214 = .ok (.iconst 0, 1) := by decide +kernel
theorem dX11_readLaw_215 : decode cX11_readLaw 215 = .ok (.goto 6, 3) := by decide +kernel
theorem dX11_readLaw_218 : decode cX11_readLaw 218 = .ok (.iconst 1, 1) := by decide +kernel
theorem dX11_readLaw_219 : decode cX11_readLaw 219 = .ok (.iload_n 2, 1) := by decide +kernel
theorem dX11_readLaw_220 : decode cX11_readLaw 220 = .ok (.ishl, 1) := by decide +kernel
theorem dX11_readLaw_221 : decode cX11_readLaw 221 = .ok (.ior, 1) := by decide +kernel
theorem dX11_readLaw_222 : decode cX11_readLaw 222 = .ok (.istore_n 1, 1) := by decide +kernel
theorem dX11_readLaw_223 : decode cX11_readLaw 223 = .ok (.aload_n 0, 1) := by decide +kernel
theorem dX11_readLaw_224 : decode cX11_readLaw 224 = .ok (.dup, 1) := by decide +kernel
theorem dX11_readLaw_225 : decode cX11_readLaw 225 = .ok (.getfield 86, 3) := by decide +kernel
theorem dX11_readLaw_228 : decode cX11_readLaw 228 = .ok (.iconst 1, 1) := by decide +kernel
theorem dX11_readLaw_229 : decode cX11_readLaw 229 = .ok (.iadd, 1) := by decide +kernel
theorem dX11_readLaw_230 : decode cX11_readLaw 230 = .ok (.putfield 86, 3) := by decide +kernel
theorem dX11_readLaw_233 : decode cX11_readLaw 233 = .ok (.goto (-194), 3) := by decide +kernel
theorem dX11_readLaw_236 : decode cX11_readLaw 236 = .ok (.aload_n 0, 1) := by decide +kernel
theorem dX11_readLaw_237 : decode cX11_readLaw 237 = .ok (.getfield 75, 3) := by decide +kernel
theorem dX11_readLaw_240 : decode cX11_readLaw 240 = .ok (.ireturn, 1) := by decide +kernel
theorem dX11_readStory_0 : decode cX11_readStory 0 = .ok (.aload_n 0, 1) := by decide +kernel
theorem dX11_readStory_1 : decode cX11_readStory 1 = .ok (.iconst 0, 1) := by decide +kernel
theorem dX11_readStory_2 : decode cX11_readStory 2 = .ok (.putfield 78, 3) := by decide +kernel
theorem dX11_readStory_5 : decode cX11_readStory 5 = .ok (.aload_n 0, 1) := by decide +kernel
theorem dX11_readStory_6 : decode cX11_readStory 6 = .ok (.bipush (-9), 2) := by decide +kernel
theorem dX11_readStory_8 : decode cX11_readStory 8 = .ok (.putfield 75, 3) := by decide +kernel
theorem dX11_readStory_11 : decode cX11_readStory 11 = .ok (.aload_n 0, 1) := by decide +kernel
theorem dX11_readStory_12 : decode cX11_readStory 12 = .ok (.iconst 0, 1) := by decide +kernel
theorem dX11_readStory_13 : decode cX11_readStory 13 = .ok (.putfield 100, 3) := by decide +kernel
theorem dX11_readStory_16 : decode cX11_readStory 16 = .ok (.iconst (-1), 1) := by decide +kernel
theorem dX11_readStory_17 : decode cX11_readStory 17 = .ok (.istore_n 1, 1) := by decide +kernel
theorem dX11_readStory_18 : decode cX11_readStory 18 = .ok (.iconst 1, 1) := by decide +kernel
theorem dX11_readStory_19 : decode cX11_readStory 19 = .ok (.istore_n 2, 1) := by decide +kernel
theorem dX11_readStory_20 : decode cX11_readStory 20 = .ok (.iload_n 2, 1) := by decide +kernel
theorem dX11_readStory_21 : decode cX11_readStory 21 = .ok (.ifCond .eq 51, 3) := by decide +kernel
theorem dX11_readStory_24 : decode cX11_readStory 24 = .ok (.aload_n 0, 1) := by decide +kernel
theorem dX11_readStory_25 : decode cX11_readStory 25 = .ok (.iload_n 1, 1) := by decide +kernel
theorem dX11_readStory_26 : decode cX11_readStory 26 = .ok (.invokevirtual 103, 3) := by decide +kernel
theorem dX11_readStory_29 : decode cX11_readStory 29 = .ok (.istore_n 1, 1) := by decide +kernel
theorem dX11_readStory_30 : decode cX11_readStory 30 = .ok (.aload_n 0, 1) := by decide +kernel
theorem dX11_readStory_31 : decode cX11_readStory 31 = .ok (.bipush 59, 2) := by decide +kernel
theorem dX11_readStory_33 : decode cX11_readStory 33 = .ok (.invokevirtual 93, 3) := by decide +kernel
theorem dX11_readStory_36 : decode cX11_readStory 36 = .ok (.ifCond .eq 13, 3) := by decide +kernel
theorem dX11_readStory_39 : decode cX11_readStory 39 = .ok (.iload_n 1, 1) := by decide +kernel
theorem dX11_readStory_40 : decode cX11_readStory 40 = .ok (.bipush 99, 2) := by decide +kernel
theorem dX11_readStory_42 : decode cX11_readStory 42 = .ok (.if_icmp .ge 7, 3) := by decide +kernel
theorem dX11_readStory_45 : decode cX11_readStory 45 = .ok (.iconst 1, 1) := by decide +kernel
theorem dX11_readStory_46 : decode cX11_readStory 46 = .ok (.goto 4, 3) := by decide +kernel
theorem dX11_readStory_49 : decode cX11_readStory 49 = .ok (.iconst 0, 1) := by decide +kernel
theorem dX11_readStory_50 : decode cX11_readStory 50 = .ok (.istore_n 2, 1) := by decide +kernel
theorem dX11_readStory_51 : decode cX11_readStory 51 = .ok (.aload_n 0, 1) := by decide +kernel
theorem dX11_readStory_52 : decode cX11_readStory 52 = .ok (.dup, 1) := by decide +kernel
theorem dX11_readStory_53 : decode cX11_readStory 53 = .ok (.getfield 78, 3) := by decide +kernel
theorem dX11_readStory_56 : decode cX11_readStory 56 = .ok (.iload_n 2, 1) := by decide +kernel
theorem dX11_readStory_57 : decode cX11_readStory 57 = .ok (.ifCond .eq 7, 3) := by decide +kernel
theorem dX11_readStory_60 : decode cX11_readStory 60 = .ok (.iconst 1, 1) := by decide +kernel
theorem dX11_readStory_61 : decode cX11_readStory 61 = .ok (.goto 4, 3) := by decide +kernel
theorem dX11_readStory_64 : decode cX11_readStory 64 = .ok (.iconst 0, 1) := by decide +kernel
theorem dX11_readStory_65 : decode cX11_readStory 65 = .ok (.iadd, 1) := by decide +kernel
theorem dX11_readStory_66 : decode cX11_readStory 66 = .ok (.putfield 78, 3) := by decide +kernel
theorem dX11_readStory_69 : decode cX11_readStory 69 = .ok (.goto (-49), 3) := by decide +kernel
theorem dX11_readStory_72 : decode cX11_readStory 72 = .ok (.aload_n 0, 1) := by decide +kernel
theorem dX11_readStory_73 : decode cX11_readStory 73 = .ok (.getfield 75, 3) := by decide +kernel
theorem dX11_readStory_76 : decode cX11_readStory 76 = .ok (.bipush (-9), 2) := by decide +kernel
theorem dX11_readStory_78 : decode cX11_readStory 78 = .ok (.if_icmp .ne 18, 3) := by decide +kernel
theorem dX11_readStory_81 : decode cX11_readStory 81 = .ok (.aload_n 0, 1) := by decide +kernel
theorem dX11_readStory_82 : decode cX11_readStory 82 = .ok (.getfield 78, 3) := by decide +kernel
theorem dX11_readStory_85 : decode cX11_readStory 85 = .ok (.aload_n 0, 1) := by decide +kernel
theorem dX11_readStory_86 : decode cX11_readStory 86 = .ok (.getfield 69, 3) := by decide +kernel
theorem dX11_readStory_89 : decode cX11_readStory 89 = .ok (.if_icmp .ge 7, 3) := by decide +kernel
theorem dX11_readStory_92 : decode cX11_readStory 92 = .ok (.aload_n 0, 1) := by decide +kernel
theorem dX11_readStory_93 : decode cX11_readStory 93 = .ok (.invokevirtual 83, 3) := by decide +kernel
theorem dX11_readStory_96 : decode cX11_readStory 96 = .ok (.aload_n 0, 1) := by decide +kernel
theorem dX11_readStory_97 : decode cX11_readStory 97 = .ok (.getfield 75, 3) := by decide +kernel
theorem dX11_readStory_100 : decode cX11_readStory 100 = .ok (.ireturn, 1) := by decide +kernel
theorem dX11_readEntry_0 : decode cX11_readEntry 0 = .ok (.iconst 0, 1) := by decide +kernel
theorem dX11_readEntry_1 : decode cX11_readEntry 1 = .ok (.istore_n 2, 1) := by decide +kernel
theorem dX11_readEntry_2 : decode cX11_readEntry 2 = .ok (.iconst 0, 1) := by decide +kernel
theorem dX11_readEntry_3 : decode cX11_readEntry 3 = .ok (.istore_n 3, 1) := by decide +kernel
theorem dX11_readEntry_4 : decode cX11_readEntry 4 = .ok (.iload_n 3, 1) := by decide +kernel
theorem dX11_readEntry_5 : decode cX11_readEntry 5 = .ok (.bipush 10, 2) := by decide +kernel
theorem dX11_readEntry_7 : decode cX11_readEntry 7 = .ok (.if_icmp .ge 30, 3) := by decide +kernel
theorem dX11_readEntry_10 : decode cX11_readEntry 10 = .ok (.iload_n 2, 1) := by decide +kernel
theorem dX11_readEntry_11 : decode cX11_readEntry 11 = .ok (.bipush 10, 2) := by decide +kernel
theorem dX11_readEntry_13 : decode cX11_readEntry 13 = .ok (.iload_n 3, 1) := by decide +kernel
theorem dX11_readEntry_14 : decode cX11_readEntry 14 = .ok (.imul, 1) := by decide +kernel
theorem dX11_readEntry_15 : decode cX11_readEntry 15 = .ok (.bipush 9, 2) := by decide +kernel
theorem dX11_readEntry_17 : decode cX11_readEntry 17 = .ok (.iadd, 1) := by decide +kernel
theorem dX11_readEntry_18 : decode cX11_readEntry 18 = .ok (.iload_n 1, 1) := by decide +kernel
theorem dX11_readEntry_19 : decode cX11_readEntry 19 = .ok (.if_icmp .le 9, 3) := by decide +kernel
theorem dX11_readEntry_22 : decode cX11_readEntry 22 = .ok (.iconst 1, 1) := by decide +kernel
theorem dX11_readEntry_23 : decode cX11_readEntry 23 = .ok (.iload_n 3, 1) := by decide +kernel
theorem dX11_readEntry_24 : decode cX11_readEntry 24 = .ok (.ishl, 1) := by decide +kernel
theorem dX11_readEntry_25 : decode cX11_readEntry 25 = .ok (.goto 4, 3) := by decide +kernel
theorem dX11_readEntry_28 : decode cX11_readEntry 28 = .ok (.iconst 0, 1) := by decide +kernel
theorem dX11_readEntry_29 : decode cX11_readEntry 29 = .ok (.ior, 1) := by decide +kernel
theorem dX11_readEntry_30 : decode cX11_readEntry 30 = .ok (.istore_n 2, 1) := by decide +kernel
theorem dX11_readEntry_31 : decode cX11_readEntry 31 = .ok (.iinc 3 1, 3) := by decide +kernel
theorem dX11_readEntry_34 : decode cX11_readEntry 34 = .ok (.goto (-30), 3) := by decide +kernel
theorem dX11_readEntry_37 : decode cX11_readEntry 37 = .ok (.aload_n 0, 1) := by decide +kernel
theorem dX11_readEntry_38 : decode cX11_readEntry 38 = .ok (.iload_n 2, 1) := by decide +kernel
theorem dX11_readEntry_39 : decode cX11_readEntry 39 = .ok (.invokevirtual 97, 3) := by decide +kernel
theorem dX11_readEntry_42 : decode cX11_readEntry 42 = .ok (.istore_n 3, 1) := by decide +kernel
theorem dX11_readEntry_43 : decode cX11_readEntry 43 = .ok (.iconst 0, 1) := by decide +kernel
theorem dX11_readEntry_44 : decode cX11_readEntry 44 = .ok (.istore 4, 2) := by decide +kernel
theorem dX11_readEntry_46 : decode cX11_readEntry 46 = .ok (.iconst 0, 1) := by decide +kernel
theorem dX11_readEntry_47 : decode cX11_readEntry 47 = .ok (.istore 5, 2) := by decide +kernel
theorem dX11_readEntry_49 : decode cX11_readEntry 49 = .ok (.iload 5, 2) := by decide +kernel
theorem dX11_readEntry_51 : decode cX11_readEntry 51 = .ok (.bipush 10, 2) := by decide +kernel
theorem dX11_readEntry_53 : decode cX11_readEntry 53 = .ok (.if_icmp .ge 33, 3) := by decide +kernel
theorem dX11_readEntry_56 : decode cX11_readEntry 56 = .ok (.iload 4, 2) := by decide +kernel
theorem dX11_readEntry_58 : decode cX11_readEntry 58 = .ok (.bipush 10, 2) := by decide +kernel
theorem dX11_readEntry_60 : decode cX11_readEntry 60 = .ok (.iload_n 3, 1) := by decide +kernel
theorem dX11_readEntry_61 : decode cX11_readEntry 61 = .ok (.imul, 1) := by decide +kernel
theorem dX11_readEntry_62 : decode cX11_readEntry 62 = .ok (.iload 5, 2) := by decide +kernel
theorem dX11_readEntry_64 : decode cX11_readEntry 64 = .ok (.iadd, 1) := by decide +kernel
theorem dX11_readEntry_65 : decode cX11_readEntry 65 = .ok (.iload_n 1, 1) := by decide +kernel
theorem dX11_readEntry_66 : decode cX11_readEntry 66 = .ok (.if_icmp .le 10, 3) := by decide +kernel
theorem dX11_readEntry_69 : decode cX11_readEntry 69 = .ok (.iconst 1, 1) := by decide +kernel
theorem dX11_readEntry_70 : decode cX11_readEntry 70 = .ok (.iload 5, 2) := by decide +kernel
theorem dX11_readEntry_72 : decode cX11_readEntry 72 = .ok (.ishl, 1) := by decide +kernel
theorem dX11_readEntry_73 : decode cX11_readEntry 73 = .ok (.goto 4, 3) := by decide +kernel
theorem dX11_readEntry_76 : decode cX11_readEntry 76 = .ok (.iconst 0, 1) := by decide +kernel
theorem dX11_readEntry_77 : decode cX11_readEntry 77 = .ok (.ior, 1) := by decide +kernel
theorem dX11_readEntry_78 : decode cX11_readEntry 78 = .ok (.istore 4, 2) := by decide +kernel
theorem dX11_readEntry_80 : decode cX11_readEntry 80 = .ok (.iinc 5 1, 3) := by decide +kernel
theorem dX11_readEntry_83 : decode cX11_readEntry 83 = .ok (.goto (-34), 3) := by decide +kernel
theorem dX11_readEntry_86 : decode cX11_readEntry 86 = .ok (.bipush 10, 2) := by decide +kernel
theorem dX11_readEntry_88 : decode cX11_readEntry 88 = .ok (.iload_n 3, 1) := by decide +kernel
theorem dX11_readEntry_89 : decode cX11_readEntry 89 = .ok (.imul, 1) := by decide +kernel
theorem dX11_readEntry_90 : decode cX11_readEntry 90 = .ok (.aload_n 0, 1) := by decide +kernel
theorem dX11_readEntry_91 : decode cX11_readEntry 91 = .ok (.iload 4, 2) := by decide +kernel
theorem dX11_readEntry_93 : decode cX11_readEntry 93 = .ok (.invokevirtual 97, 3) := by decide +kernel
theorem dX11_readEntry_96 : decode cX11_readEntry 96 = .ok (.iadd, 1) := by decide +kernel
theorem dX11_readEntry_97 : decode cX11_readEntry 97 = .ok (.istore 5, 2) := by decide +kernel
theorem dX11_readEntry_99 : decode cX11_readEntry 99 = .ok (.aload_n 0, 1) := by decide +kernel
theorem dX11_readEntry_100 : decode cX11_readEntry 100 = .ok (.bipush 58, 2) := by decide +kernel
theorem dX11_readEntry_102 : decode cX11_readEntry 102 = .ok (.invokevirtual 93, 3) := by decide +kernel
theorem dX11_readEntry_105 : decode cX11_readEntry 105 = .ok (.ifCond .eq 16, 3) := by decide +kernel
theorem dX11_readEntry_108 : decode cX11_readEntry 108 = .ok (.aload_n 0, 1) := by decide +kernel
theorem dX11_readEntry_109 : decode cX11_readEntry 109 = .ok (.dup, 1) := by decide +kernel
theorem dX11_readEntry_110 : decode cX11_readEntry 110 = .ok (.getfield 78, 3) := by decide +kernel
theorem dX11_readEntry_113 : decode cX11_readEntry 113 = .ok (.iconst 1, 1) := by decide +kernel
theorem dX11_readEntry_114 : decode cX11_readEntry 114 = .ok (.iadd, 1) := by decide +kernel
theorem dX11_readEntry_115 : decode cX11_readEntry 115 = .ok (.putfield 78, 3) := by decide +kernel
theorem dX11_readEntry_118 : decode cX11_readEntry 118 = .ok (.goto 7, 3) := by decide +kernel
theorem dX11_readEntry_121 : decode cX11_readEntry 121 = .ok (.aload_n 0, 1) := by decide +kernel
theorem dX11_readEntry_122 : decode cX11_readEntry 122 = .ok (.invokevirtual 83, 3) := by decide +kernel
theorem dX11_readEntry_125 : decode cX11_readEntry 125 = .ok (.iconst 0, 1) := by decide +kernel
theorem dX11_readEntry_126 : decode cX11_readEntry 126 = .ok (.istore 6, 2) := by decide +kernel
theorem dX11_readEntry_128 : decode cX11_readEntry 128 = .ok (.iconst 0, 1) := by decide +kernel
theorem dX11_readEntry_129 : decode cX11_readEntry 129 = .ok (.istore 7, 2) := by decide +kernel
theorem dX11_readEntry_131 : decode cX11_readEntry 131 = .ok (.aload_n 0, 1) := by decide +kernel
theorem dX11_readEntry_132 : decode cX11_readEntry 132 = .ok (.getfield 75, 3) := by decide +kernel
theorem dX11_readEntry_135 : decode cX11_readEntry 135 = .ok (.bipush (-9), 2) := by decide +kernel
theorem dX11_readEntry_137 : decode cX11_readEntry 137 = .ok (.if_icmp .ne 73, 3) := by decide +kernel
theorem dX11_readEntry_140 : decode cX11_readEntry 140 = .ok (.aload_n 0, 1) := by decide +kernel
theorem dX11_readEntry_141 : decode cX11_readEntry 141 = .ok (.getfield 78, 3) := by decide +kernel
theorem dX11_readEntry_144 : decode cX11_readEntry 144 = .ok (.aload_n 0, 1) := by decide +kernel
theorem dX11_readEntry_145 : decode cX11_readEntry 145 = .ok (.getfield 69, 3) := by decide +kernel
theorem dX11_readEntry_148 : decode cX11_readEntry 148 = .ok (.if_icmp .ge 62, 3) := by decide +kernel
theorem dX11_readEntry_151 : decode cX11_readEntry 151 = .ok (.aload_n 0, 1) := by decide +kernel
theorem dX11_readEntry_152 : decode cX11_readEntry 152 = .ok (.getfield 16, 3) := by decide +kernel
theorem dX11_readEntry_155 : decode cX11_readEntry 155 = .ok (.aload_n 0, 1) := by decide +kernel
theorem dX11_readEntry_156 : decode cX11_readEntry 156 = .ok (.getfield 78, 3) := by decide +kernel
theorem dX11_readEntry_159 : decode cX11_readEntry 159 = .ok (.iaload, 1) := by decide +kernel
theorem dX11_readEntry_160 : decode cX11_readEntry 160 = .ok (.bipush 59, 2) := by decide +kernel
theorem dX11_readEntry_162 : decode cX11_readEntry 162 = .ok (.if_icmp .eq 48, 3) := by decide +kernel
theorem dX11_readEntry_165 : decode cX11_readEntry 165 = .ok (.aload_n 0, 1) := by decide +kernel
theorem dX11_readEntry_166 : decode cX11_readEntry 166 = .ok (.bipush 63, 2) := by decide +kernel
theorem dX11_readEntry_168 : decode cX11_readEntry 168 = .ok (.iload 7, 2) := by decide +kernel
theorem dX11_readEntry_170 : decode cX11_readEntry 170 = .ok (.ishr, 1) := by decide +kernel
theorem dX11_readEntry_171 : decode cX11_readEntry 171 = .ok (.iload 7, 2) := by decide +kernel
theorem dX11_readEntry_173 : decode cX11_readEntry 173 = .ok (.ishl, 1) := by decide +kernel
theorem dX11_readEntry_174 : decode cX11_readEntry 174 = .ok (.invokevirtual 97, 3) := by decide +kernel
theorem dX11_readEntry_177 : decode cX11_readEntry 177 = .ok (.istore 8, 2) := by decide +kernel
theorem dX11_readEntry_179 : decode cX11_readEntry 179 = .ok (.iload 6, 2) := by decide +kernel
theorem dX11_readEntry_181 : decode cX11_readEntry 181 = .ok (.aload_n 0, 1) := by decide +kernel
theorem dX11_readEntry_182 : decode cX11_readEntry 182 = .ok (.getfield 75, 3) := by decide +kernel
theorem dX11_readEntry_185 : decode cX11_readEntry 185 = .ok (.bipush (-9), 2) := by decide +kernel
theorem dX11_readEntry_187 : decode cX11_readEntry 187 = .ok (.if_icmp .ne 10, 3) := by decide +kernel
theorem dX11_readEntry_190 : decode cX11_readEntry 190 = .ok (.iconst 1, 1) := by decide +kernel
theorem dX11_readEntry_191 : decode cX11_readEntry 191 = .ok (.iload 8, 2) := by decide +kernel
theorem dX11_readEntry_193 : decode cX11_readEntry 193 = .ok (.ishl, 1) := by decide +kernel
theorem dX11_readEntry_194 : decode cX11_readEntry 194 = .ok (.goto 4, 3) := by decide +kernel
theorem dX11_readEntry_197 : decode cX11_readEntry 197 = .ok (.iconst 0, 1) := by decide +kernel
theorem dX11_readEntry_198 : decode cX11_readEntry 198 = .ok (.ior, 1) := by decide +kernel
theorem dX11_readEntry_199 : decode cX11_readEntry 199 = .ok (.istore 6, 2) := by decide +kernel
theorem dX11_readEntry_201 : decode cX11_readEntry 201 = .ok (.iload 8, 2) := by decide +kernel
theorem dX11_readEntry_203 : decode cX11_readEntry 203 = .ok (.iconst 1, 1) := by decide +kernel
theorem dX11_readEntry_204 : decode cX11_readEntry 204 = .ok (.iadd, 1) := by decide +kernel
theorem dX11_readEntry_205 : decode cX11_readEntry 205 = .ok (.istore 7, 2) := by decide +kernel
theorem dX11_readEntry_207 : decode cX11_readEntry 207 = .ok (.goto (-76), 3) := by decide +kernel
theorem dX11_readEntry_210 : decode cX11_readEntry 210 = .ok (.aload_n 0, 1) := by decide +kernel
theorem dX11_readEntry_211 : decode cX11_readEntry 211 = .ok (.getfield 19, 3) := by decide +kernel
theorem dX11_readEntry_214 : decode cX11_readEntry 214 = .ok (.aload_n 0, 1) := by decide +kernel
theorem dX11_readEntry_215 : decode cX11_readEntry 215 = .ok (.getfield 100, 3) := by decide +kernel
theorem dX11_readEntry_218 : decode cX11_readEntry 218 = .ok (.iload 5, 2) := by decide +kernel
theorem dX11_readEntry_220 : decode cX11_readEntry 220 = .ok (.iastore, 1) := by decide +kernel
theorem dX11_readEntry_221 : decode cX11_readEntry 221 = .ok (.aload_n 0, 1) := by decide +kernel
theorem dX11_readEntry_222 : decode cX11_readEntry 222 = .ok (.getfield 22, 3) := by decide +kernel
theorem dX11_readEntry_225 : decode cX11_readEntry 225 = .ok (.aload_n 0, 1) := by decide +kernel
theorem dX11_readEntry_226 : decode cX11_readEntry 226 = .ok (.getfield 100, 3) := by decide +kernel
theorem dX11_readEntry_229 : decode cX11_readEntry 229 = .ok (.iload 6, 2) := by decide +kernel
theorem dX11_readEntry_231 : decode cX11_readEntry 231 = .ok (.iastore, 1) := by decide +kernel
theorem dX11_readEntry_232 : decode cX11_readEntry 232 = .ok (.aload_n 0, 1) := by decide +kernel
theorem dX11_readEntry_233 : decode cX11_readEntry 233 = .ok (.dup, 1) := by decide +kernel
theorem dX11_readEntry_234 : decode cX11_readEntry 234 = .ok (.getfield 100, 3) := by decide +kernel
theorem dX11_readEntry_237 : decode cX11_readEntry 237 = .ok (.iconst 1, 1) := by decide +kernel
theorem dX11_readEntry_238 : decode cX11_readEntry 238 = .ok (.iadd, 1) := by decide +kernel
theorem dX11_readEntry_239 : decode cX11_readEntry 239 = .ok (.putfield 100, 3) := by decide +kernel
theorem dX11_readEntry_242 : decode cX11_readEntry 242 = .ok (.aload_n 0, 1) := by decide +kernel
theorem dX11_readEntry_243 : decode cX11_readEntry 243 = .ok (.getfield 75, 3) := by decide +kernel
theorem dX11_readEntry_246 : decode cX11_readEntry 246 = .ok (.bipush (-9), 2) := by decide +kernel
theorem dX11_readEntry_248 : decode cX11_readEntry 248 = .ok (.if_icmp .ne 8, 3) := by decide +kernel
theorem dX11_readEntry_251 : decode cX11_readEntry 251 = .ok (.iload 5, 2) := by decide +kernel
theorem dX11_readEntry_253 : decode cX11_readEntry 253 = .ok (.goto 5, 3) := by decide +kernel
theorem dX11_readEntry_256 : decode cX11_readEntry 256 = .ok (.bipush 99, 2) := by decide +kernel
theorem dX11_readEntry_258 : decode cX11_readEntry 258 = .ok (.ireturn, 1) := by decide +kernel
theorem dX11_fault_0 : decode cX11_fault 0 = .ok (.iload_n 1, 1) := by decide +kernel
theorem dX11_fault_1 : decode cX11_fault 1 = .ok (.ifCond .eq 10, 3) := by decide +kernel
theorem dX11_fault_4 : decode cX11_fault 4 = .ok (.aload_n 0, 1) := by decide +kernel
theorem dX11_fault_5 : decode cX11_fault 5 = .ok (.invokevirtual 106, 3) := by decide +kernel
theorem dX11_fault_8 : decode cX11_fault 8 = .ok (.goto 7, 3) := by decide +kernel
theorem dX11_fault_11 : decode cX11_fault 11 = .ok (.aload_n 0, 1) := by decide +kernel
theorem dX11_fault_12 : decode cX11_fault 12 = .ok (.invokevirtual 110, 3) := by decide +kernel
theorem dX11_fault_15 : decode cX11_fault 15 = .ok (.ireturn, 1) := by decide +kernel
theorem dX11_law_0 : decode cX11_law 0 = .ok (.aload_n 0, 1) := by decide +kernel
theorem dX11_law_1 : decode cX11_law 1 = .ok (.invokevirtual 110, 3) := by decide +kernel
theorem dX11_law_4 : decode cX11_law 4 = .ok (.bipush (-9), 2) := by decide +kernel
theorem dX11_law_6 : decode cX11_law 6 = .ok (.if_icmp .eq 6, 3) := by decide +kernel
theorem dX11_law_9 : decode cX11_law 9 = .ok (.bipush (-3), 2) := by decide +kernel
theorem dX11_law_11 : decode cX11_law 11 = .ok (.ireturn, 1) := by decide +kernel
theorem dX11_law_12 : decode cX11_law 12 = .ok (.iconst 0, 1) := by decide +kernel
theorem dX11_law_13 : decode cX11_law 13 = .ok (.istore_n 1, 1) := by decide +kernel
theorem dX11_law_14 : decode cX11_law 14 = .ok (.iload_n 1, 1) := by decide +kernel
theorem dX11_law_15 : decode cX11_law 15 = .ok (.bipush 12, 2) := by decide +kernel
theorem dX11_law_17 : decode cX11_law 17 = .ok (.if_icmp .ge 21, 3) := by decide +kernel
theorem dX11_law_20 : decode cX11_law 20 = .ok (.aload_n 0, 1) := by decide +kernel
theorem dX11_law_21 : decode cX11_law 21 = .ok (.getfield 13, 3) := by decide +kernel
theorem dX11_law_24 : decode cX11_law 24 = .ok (.iload_n 1, 1) := by decide +kernel
theorem dX11_law_25 : decode cX11_law 25 = .ok (.aload_n 0, 1) := by decide +kernel
theorem dX11_law_26 : decode cX11_law 26 = .ok (.getfield 7, 3) := by decide +kernel
theorem dX11_law_29 : decode cX11_law 29 = .ok (.iload_n 1, 1) := by decide +kernel
theorem dX11_law_30 : decode cX11_law 30 = .ok (.iaload, 1) := by decide +kernel
theorem dX11_law_31 : decode cX11_law 31 = .ok (.iastore, 1) := by decide +kernel
theorem dX11_law_32 : decode cX11_law 32 = .ok (.iinc 1 1, 3) := by decide +kernel
theorem dX11_law_35 : decode cX11_law 35 = .ok (.goto (-21), 3) := by decide +kernel
theorem dX11_law_38 : decode cX11_law 38 = .ok (.aload_n 0, 1) := by decide +kernel
theorem dX11_law_39 : decode cX11_law 39 = .ok (.getfield 86, 3) := by decide +kernel
theorem dX11_law_42 : decode cX11_law 42 = .ok (.ireturn, 1) := by decide +kernel
theorem dX11_lawful_0 : decode cX11_lawful 0 = .ok (.iload_n 1, 1) := by decide +kernel
theorem dX11_lawful_1 : decode cX11_lawful 1 = .ok (.i2l, 1) := by decide +kernel
theorem dX11_lawful_2 : decode cX11_lawful 2 = .ok (.lconst 0, 1) := by decide +kernel
theorem dX11_lawful_3 : decode cX11_lawful 3 = .ok (.ldc2_w 113, 3) := by decide +kernel
theorem dX11_lawful_6 : decode cX11_lawful 6 = .ok (.invokestatic 65, 3) := by decide +kernel
theorem dX11_lawful_9 : decode cX11_lawful 9 = .ok (.ifCond .eq 12, 3) := by decide +kernel
theorem dX11_lawful_12 : decode cX11_lawful 12 = .ok (.aload_n 0, 1) := by decide +kernel
theorem dX11_lawful_13 : decode cX11_lawful 13 = .ok (.getfield 13, 3) := by decide +kernel
theorem dX11_lawful_16 : decode cX11_lawful 16 = .ok (.iload_n 1, 1) := by decide +kernel
theorem dX11_lawful_17 : decode cX11_lawful 17 = .ok (.iaload, 1) := by decide +kernel
theorem dX11_lawful_18 : decode cX11_lawful 18 = .ok (.goto 5, 3) := by decide +kernel
theorem dX11_lawful_21 : decode cX11_lawful 21 = .ok (.bipush (-2), 2) := by decide +kernel
theorem dX11_lawful_23 : decode cX11_lawful 23 = .ok (.ireturn, 1) := by decide +kernel
theorem dX11_isStory_0 : decode cX11_isStory 0 = .ok (.iload_n 0, 1) := by decide +kernel
theorem dX11_isStory_1 : decode cX11_isStory 1 = .ok (.i2l, 1) := by decide +kernel
theorem dX11_isStory_2 : decode cX11_isStory 2 = .ok (.lconst 0, 1) := by decide +kernel
theorem dX11_isStory_3 : decode cX11_isStory 3 = .ok (.ldc2_w 115, 3) := by decide +kernel
theorem dX11_isStory_6 : decode cX11_isStory 6 = .ok (.invokestatic 65, 3) := by decide +kernel
theorem dX11_isStory_9 : decode cX11_isStory 9 = .ok (.ireturn, 1) := by decide +kernel
theorem dX11_story_0 : decode cX11_story 0 = .ok (.iload_n 1, 1) := by decide +kernel
theorem dX11_story_1 : decode cX11_story 1 = .ok (.invokestatic 117, 3) := by decide +kernel
theorem dX11_story_4 : decode cX11_story 4 = .ok (.ifCond .ne 5, 3) := by decide +kernel
theorem dX11_story_7 : decode cX11_story 7 = .ok (.iconst (-1), 1) := by decide +kernel
theorem dX11_story_8 : decode cX11_story 8 = .ok (.ireturn, 1) := by decide +kernel
theorem dX11_story_9 : decode cX11_story 9 = .ok (.aload_n 0, 1) := by decide +kernel
theorem dX11_story_10 : decode cX11_story 10 = .ok (.invokevirtual 106, 3) := by decide +kernel
theorem dX11_story_13 : decode cX11_story 13 = .ok (.bipush (-9), 2) := by decide +kernel
theorem dX11_story_15 : decode cX11_story 15 = .ok (.if_icmp .eq 6, 3) := by decide +kernel
theorem dX11_story_18 : decode cX11_story 18 = .ok (.bipush (-3), 2) := by decide +kernel
theorem dX11_story_20 : decode cX11_story 20 = .ok (.ireturn, 1) := by decide +kernel
theorem dX11_story_21 : decode cX11_story 21 = .ok (.iconst 0, 1) := by decide +kernel
theorem dX11_story_22 : decode cX11_story 22 = .ok (.istore_n 2, 1) := by decide +kernel
theorem dX11_story_23 : decode cX11_story 23 = .ok (.iconst 0, 1) := by decide +kernel
theorem dX11_story_24 : decode cX11_story 24 = .ok (.istore_n 3, 1) := by decide +kernel
theorem dX11_story_25 : decode cX11_story 25 = .ok (.iconst 0, 1) := by decide +kernel
theorem dX11_story_26 : decode cX11_story 26 = .ok (.istore 4, 2) := by decide +kernel
theorem dX11_story_28 : decode cX11_story 28 = .ok (.iload 4, 2) := by decide +kernel
theorem dX11_story_30 : decode cX11_story 30 = .ok (.bipush 100, 2) := by decide +kernel
theorem dX11_story_32 : decode cX11_story 32 = .ok (.if_icmp .ge 51, 3) := by decide +kernel
theorem dX11_story_35 : decode cX11_story 35 = .ok (.iload_n 3, 1) := by decide +kernel
theorem dX11_story_36 : decode cX11_story 36 = .ok (.aload_n 0, 1) := by decide +kernel
theorem dX11_story_37 : decode cX11_story 37 = .ok (.getfield 100, 3) := by decide +kernel
theorem dX11_story_40 : decode cX11_story 40 = .ok (.if_icmp .ge 24, 3) := by decide +kernel
theorem dX11_story_43 : decode cX11_story 43 = .ok (.aload_n 0, 1) := by decide +kernel
theorem dX11_story_44 : decode cX11_story 44 = .ok (.getfield 19, 3) := by decide +kernel
theorem dX11_story_47 : decode cX11_story 47 = .ok (.iload_n 3, 1) := by decide +kernel
theorem dX11_story_48 : decode cX11_story 48 = .ok (.iaload, 1) := by decide +kernel
theorem dX11_story_49 : decode cX11_story 49 = .ok (.iload 4, 2) := by decide +kernel
theorem dX11_story_51 : decode cX11_story 51 = .ok (.if_icmp .ne 13, 3) := by decide +kernel
theorem dX11_story_54 : decode cX11_story 54 = .ok (.aload_n 0, 1) := by decide +kernel
theorem dX11_story_55 : decode cX11_story 55 = .ok (.getfield 22, 3) := by decide +kernel
theorem dX11_story_58 : decode cX11_story 58 = .ok (.iload_n 3, 1) := by decide +kernel
theorem dX11_story_59 : decode cX11_story 59 = .ok (.iaload, 1) := by decide +kernel
theorem dX11_story_60 : decode cX11_story 60 = .ok (.istore_n 2, 1) := by decide +kernel
theorem dX11_story_61 : decode cX11_story 61 = .ok (.iinc 3 1, 3) := by decide +kernel
theorem dX11_story_64 : decode cX11_story 64 = .ok (.aload_n 0, 1) := by decide +kernel
theorem dX11_story_65 : decode cX11_story 65 = .ok (.getfield 25, 3) := by decide +kernel
theorem dX11_story_68 : decode cX11_story 68 = .ok (.bipush 100, 2) := by decide +kernel
theorem dX11_story_70 : decode cX11_story 70 = .ok (.iload_n 1, 1) := by decide +kernel
theorem dX11_story_71 : decode cX11_story 71 = .ok (.imul, 1) := by decide +kernel
theorem dX11_story_72 : decode cX11_story 72 = .ok (.iload 4, 2) := by decide +kernel
theorem dX11_story_74 : decode cX11_story 74 = .ok (.iadd, 1) := by decide +kernel
theorem dX11_story_75 : decode cX11_story 75 = .ok (.iload_n 2, 1) := by decide +kernel
theorem dX11_story_76 : decode cX11_story 76 = .ok (.iastore, 1) := by decide +kernel
theorem dX11_story_77 : decode cX11_story 77 = .ok (.iinc 4 1, 3) := by decide +kernel
theorem dX11_story_80 : decode cX11_story 80 = .ok (.goto (-52), 3) := by decide +kernel
theorem dX11_story_83 : decode cX11_story 83 = .ok (.aload_n 0, 1) := by decide +kernel
theorem dX11_story_84 : decode cX11_story 84 = .ok (.getfield 100, 3) := by decide +kernel
theorem dX11_story_87 : decode cX11_story 87 = .ok (.ireturn, 1) := by decide +kernel
theorem dX11_isEarth_0 : decode cX11_isEarth 0 = .ok (.iload_n 0, 1) := by decide +kernel
theorem dX11_isEarth_1 : decode cX11_isEarth 1 = .ok (.i2l, 1) := by decide +kernel
theorem dX11_isEarth_2 : decode cX11_isEarth 2 = .ok (.lconst 0, 1) := by decide +kernel
theorem dX11_isEarth_3 : decode cX11_isEarth 3 = .ok (.ldc2_w 120, 3) := by decide +kernel
theorem dX11_isEarth_6 : decode cX11_isEarth 6 = .ok (.invokestatic 65, 3) := by decide +kernel
theorem dX11_isEarth_9 : decode cX11_isEarth 9 = .ok (.ifCond .eq 19, 3) := by decide +kernel
theorem dX11_isEarth_12 : decode cX11_isEarth 12 = .ok (.iload_n 1, 1) := by decide +kernel
theorem dX11_isEarth_13 : decode cX11_isEarth 13 = .ok (.i2l, 1) := by decide +kernel
theorem dX11_isEarth_14 : decode cX11_isEarth 14 = .ok (.lconst 0, 1) := by decide +kernel
theorem dX11_isEarth_15 : decode cX11_isEarth 15 = .ok (.ldc2_w 122, 3) := by decide +kernel
theorem dX11_isEarth_18 : decode cX11_isEarth 18 = .ok (.invokestatic 65, 3) := by decide +kernel
theorem dX11_isEarth_21 : decode cX11_isEarth 21 = .ok (.ifCond .eq 7, 3) := by decide +kernel
theorem dX11_isEarth_24 : decode cX11_isEarth 24 = .ok (.iconst 1, 1) := by decide +kernel
theorem dX11_isEarth_25 : decode cX11_isEarth 25 = .ok (.goto 4, 3) := by decide +kernel
theorem dX11_isEarth_28 : decode cX11_isEarth 28 = .ok (.iconst 0, 1) := by decide +kernel
theorem dX11_isEarth_29 : decode cX11_isEarth 29 = .ok (.ireturn, 1) := by decide +kernel
theorem dX11_lived_0 : decode cX11_lived 0 = .ok (.iload_n 1, 1) := by decide +kernel
theorem dX11_lived_1 : decode cX11_lived 1 = .ok (.invokestatic 117, 3) := by decide +kernel
theorem dX11_lived_4 : decode cX11_lived 4 = .ok (.ifCond .ne 5, 3) := by decide +kernel
theorem dX11_lived_7 : decode cX11_lived 7 = .ok (.iconst (-1), 1) := by decide +kernel
theorem dX11_lived_8 : decode cX11_lived 8 = .ok (.ireturn, 1) := by decide +kernel
theorem dX11_lived_9 : decode cX11_lived 9 = .ok (.iload_n 2, 1) := by decide +kernel
theorem dX11_lived_10 : decode cX11_lived 10 = .ok (.iload_n 3, 1) := by decide +kernel
theorem dX11_lived_11 : decode cX11_lived 11 = .ok (.invokestatic 124, 3) := by decide +kernel
theorem dX11_lived_14 : decode cX11_lived 14 = .ok (.ifCond .ne 6, 3) := by decide +kernel
theorem dX11_lived_17 : decode cX11_lived 17 = .ok (.bipush (-2), 2) := by decide +kernel
theorem dX11_lived_19 : decode cX11_lived 19 = .ok (.ireturn, 1) := by decide +kernel
theorem dX11_lived_20 : decode cX11_lived 20 = .ok (.bipush 100, 2) := by decide +kernel
theorem dX11_lived_22 : decode cX11_lived 22 = .ok (.iload_n 2, 1) := by decide +kernel
theorem dX11_lived_23 : decode cX11_lived 23 = .ok (.imul, 1) := by decide +kernel
theorem dX11_lived_24 : decode cX11_lived 24 = .ok (.iload_n 3, 1) := by decide +kernel
theorem dX11_lived_25 : decode cX11_lived 25 = .ok (.iadd, 1) := by decide +kernel
theorem dX11_lived_26 : decode cX11_lived 26 = .ok (.istore 4, 2) := by decide +kernel
theorem dX11_lived_28 : decode cX11_lived 28 = .ok (.iconst 0, 1) := by decide +kernel
theorem dX11_lived_29 : decode cX11_lived 29 = .ok (.istore 5, 2) := by decide +kernel
theorem dX11_lived_31 : decode cX11_lived 31 = .ok (.iconst 0, 1) := by decide +kernel
theorem dX11_lived_32 : decode cX11_lived 32 = .ok (.istore 6, 2) := by decide +kernel
theorem dX11_lived_34 : decode cX11_lived 34 = .ok (.iload 6, 2) := by decide +kernel
theorem dX11_lived_36 : decode cX11_lived 36 = .ok (.bipush 100, 2) := by decide +kernel
theorem dX11_lived_38 : decode cX11_lived 38 = .ok (.if_icmp .ge 54, 3) := by decide +kernel
theorem dX11_lived_41 : decode cX11_lived 41 = .ok (.aload_n 0, 1) := by decide +kernel
theorem dX11_lived_42 : decode cX11_lived 42 = .ok (.getfield 25, 3) := by decide +kernel
theorem dX11_lived_45 : decode cX11_lived 45 = .ok (.bipush 100, 2) := by decide +kernel
theorem dX11_lived_47 : decode cX11_lived 47 = .ok (.iload_n 1, 1) := by decide +kernel
theorem dX11_lived_48 : decode cX11_lived 48 = .ok (.imul, 1) := by decide +kernel
theorem dX11_lived_49 : decode cX11_lived 49 = .ok (.iload 6, 2) := by decide +kernel
theorem dX11_lived_51 : decode cX11_lived 51 = .ok (.iadd, 1) := by decide +kernel
theorem dX11_lived_52 : decode cX11_lived 52 = .ok (.iload 4, 2) := by decide +kernel
theorem dX11_lived_54 : decode cX11_lived 54 = .ok (.bipush 100, 2) := by decide +kernel
theorem dX11_lived_56 : decode cX11_lived 56 = .ok (.idiv, 1) := by decide +kernel
theorem dX11_lived_57 : decode cX11_lived 57 = .ok (.iastore, 1) := by decide +kernel
theorem dX11_lived_58 : decode cX11_lived 58 = .ok (.iload 5, 2) := by decide +kernel
theorem dX11_lived_60 : decode cX11_lived 60 = .ok (.iload 4, 2) := by decide +kernel
theorem dX11_lived_62 : decode cX11_lived 62 = .ok (.bipush 100, 2) := by decide +kernel
theorem dX11_lived_64 : decode cX11_lived 64 = .ok (.idiv, 1) := by decide +kernel
theorem dX11_lived_65 : decode cX11_lived 65 = .ok (.bipush 63, 2) := by decide +kernel
theorem dX11_lived_67 : decode cX11_lived 67 = .ok (.if_icmp .ne 7, 3) := by decide +kernel
theorem dX11_lived_70 : decode cX11_lived 70 = .ok (.iconst 1, 1) := by decide +kernel
theorem dX11_lived_71 : decode cX11_lived 71 = .ok (.goto 4, 3) := by decide +kernel
theorem dX11_lived_74 : decode cX11_lived 74 = .ok (.iconst 0, 1) := by decide +kernel
theorem dX11_lived_75 : decode cX11_lived 75 = .ok (.iadd, 1) := by decide +kernel
theorem dX11_lived_76 : decode cX11_lived 76 = .ok (.istore 5, 2) := by decide +kernel
theorem dX11_lived_78 : decode cX11_lived 78 = .ok (.aload_n 0, 1) := by decide +kernel
theorem dX11_lived_79 : decode cX11_lived 79 = .ok (.iload 4, 2) := by decide +kernel
theorem dX11_lived_81 : decode cX11_lived 81 = .ok (.invokevirtual 128, 3) := by decide +kernel
theorem dX11_lived_84 : decode cX11_lived 84 = .ok (.istore 4, 2) := by decide +kernel
theorem dX11_lived_86 : decode cX11_lived 86 = .ok (.iinc 6 1, 3) := by decide +kernel
theorem dX11_lived_89 : decode cX11_lived 89 = .ok (.goto (-55), 3) := by decide +kernel
theorem dX11_lived_92 : decode cX11_lived 92 = .ok (.iload 5, 2) := by decide +kernel
theorem dX11_lived_94 : decode cX11_lived 94 = .ok (.ireturn, 1) := by decide +kernel
theorem dX11_at_0 : decode cX11_at 0 = .ok (.iload_n 1, 1) := by decide +kernel
theorem dX11_at_1 : decode cX11_at 1 = .ok (.invokestatic 117, 3) := by decide +kernel
theorem dX11_at_4 : decode cX11_at 4 = .ok (.ifCond .ne 5, 3) := by decide +kernel
theorem dX11_at_7 : decode cX11_at 7 = .ok (.iconst (-1), 1) := by decide +kernel
theorem dX11_at_8 : decode cX11_at 8 = .ok (.ireturn, 1) := by decide +kernel
theorem dX11_at_9 : decode cX11_at 9 = .ok (.iload_n 2, 1) := by decide +kernel
theorem dX11_at_10 : decode cX11_at 10 = .ok (.i2l, 1) := by decide +kernel
theorem dX11_at_11 : decode cX11_at 11 = .ok (.lconst 0, 1) := by decide +kernel
theorem dX11_at_12 : decode cX11_at 12 = .ok (.ldc2_w 122, 3) := by decide +kernel
theorem dX11_at_15 : decode cX11_at 15 = .ok (.invokestatic 65, 3) := by decide +kernel
theorem dX11_at_18 : decode cX11_at 18 = .ok (.ifCond .eq 17, 3) := by decide +kernel
theorem dX11_at_21 : decode cX11_at 21 = .ok (.aload_n 0, 1) := by decide +kernel
theorem dX11_at_22 : decode cX11_at 22 = .ok (.getfield 25, 3) := by decide +kernel
theorem dX11_at_25 : decode cX11_at 25 = .ok (.bipush 100, 2) := by decide +kernel
theorem dX11_at_27 : decode cX11_at 27 = .ok (.iload_n 1, 1) := by decide +kernel
theorem dX11_at_28 : decode cX11_at 28 = .ok (.imul, 1) := by decide +kernel
theorem dX11_at_29 : decode cX11_at 29 = .ok (.iload_n 2, 1) := by decide +kernel
theorem dX11_at_30 : decode cX11_at 30 = .ok (.iadd, 1) := by decide +kernel
theorem dX11_at_31 : decode cX11_at 31 = .ok (.iaload, 1) := by decide +kernel
theorem dX11_at_32 : decode cX11_at 32 = .ok (.goto 5, 3) := by decide +kernel
theorem dX11_at_35 : decode cX11_at 35 = .ok (.bipush (-2), 2) := by decide +kernel
theorem dX11_at_37 : decode cX11_at 37 = .ok (.ireturn, 1) := by decide +kernel
theorem dX11_taken_0 : decode cX11_taken 0 = .ok (.iload_n 1, 1) := by decide +kernel
theorem dX11_taken_1 : decode cX11_taken 1 = .ok (.ifCond .ge 7, 3) := by decide +kernel
theorem dX11_taken_4 : decode cX11_taken 4 = .ok (.iconst 0, 1) := by decide +kernel
theorem dX11_taken_5 : decode cX11_taken 5 = .ok (.goto 13, 3) := by decide +kernel
theorem dX11_taken_8 : decode cX11_taken 8 = .ok (.iload_n 1, 1) := by decide +kernel
theorem dX11_taken_9 : decode cX11_taken 9 = .ok (.iconst 5, 1) := by decide +kernel
theorem dX11_taken_10 : decode cX11_taken 10 = .ok (.if_icmp .le 7, 3) := by decide +kernel
theorem dX11_taken_13 : decode cX11_taken 13 = .ok (.iconst 5, 1) := by decide +kernel
theorem dX11_taken_14 : decode cX11_taken 14 = .ok (.goto 4, 3) := by decide +kernel
theorem dX11_taken_17 : decode cX11_taken 17 = .ok (.iload_n 1, 1) := by decide +kernel
theorem dX11_taken_18 : decode cX11_taken 18 = .ok (.istore_n 3, 1) := by decide +kernel
theorem dX11_taken_19 : decode cX11_taken 19 = .ok (.aload_n 0, 1) := by decide +kernel
theorem dX11_taken_20 : decode cX11_taken 20 = .ok (.getfield 13, 3) := by decide +kernel
theorem dX11_taken_23 : decode cX11_taken 23 = .ok (.iload_n 3, 1) := by decide +kernel
theorem dX11_taken_24 : decode cX11_taken 24 = .ok (.iaload, 1) := by decide +kernel
theorem dX11_taken_25 : decode cX11_taken 25 = .ok (.iload_n 2, 1) := by decide +kernel
theorem dX11_taken_26 : decode cX11_taken 26 = .ok (.iload_n 3, 1) := by decide +kernel
theorem dX11_taken_27 : decode cX11_taken 27 = .ok (.ishr, 1) := by decide +kernel
theorem dX11_taken_28 : decode cX11_taken 28 = .ok (.iconst 1, 1) := by decide +kernel
theorem dX11_taken_29 : decode cX11_taken 29 = .ok (.iand, 1) := by decide +kernel
theorem dX11_taken_30 : decode cX11_taken 30 = .ok (.iconst 1, 1) := by decide +kernel
theorem dX11_taken_31 : decode cX11_taken 31 = .ok (.if_icmp .ne 16, 3) := by decide +kernel
theorem dX11_taken_34 : decode cX11_taken 34 = .ok (.bipush 10, 2) := by decide +kernel
theorem dX11_taken_36 : decode cX11_taken 36 = .ok (.aload_n 0, 1) := by decide +kernel
theorem dX11_taken_37 : decode cX11_taken 37 = .ok (.getfield 13, 3) := by decide +kernel
theorem dX11_taken_40 : decode cX11_taken 40 = .ok (.bipush 6, 2) := by decide +kernel
theorem dX11_taken_42 : decode cX11_taken 42 = .ok (.iaload, 1) := by decide +kernel
theorem dX11_taken_43 : decode cX11_taken 43 = .ok (.isub, 1) := by decide +kernel
theorem dX11_taken_44 : decode cX11_taken 44 = .ok (.goto 5, 3) := by decide +kernel
theorem dX11_taken_47 : decode cX11_taken 47 = .ok (.bipush 10, 2) := by decide +kernel
theorem dX11_taken_49 : decode cX11_taken 49 = .ok (.imul, 1) := by decide +kernel
theorem dX11_taken_50 : decode cX11_taken 50 = .ok (.ireturn, 1) := by decide +kernel
theorem dX11_warmthOf_0 : decode cX11_warmthOf 0 = .ok (.iconst 2, 1) := by decide +kernel
theorem dX11_warmthOf_1 : decode cX11_warmthOf 1 = .ok (.aload_n 0, 1) := by decide +kernel
theorem dX11_warmthOf_2 : decode cX11_warmthOf 2 = .ok (.iload_n 1, 1) := by decide +kernel
theorem dX11_warmthOf_3 : decode cX11_warmthOf 3 = .ok (.iload_n 2, 1) := by decide +kernel
theorem dX11_warmthOf_4 : decode cX11_warmthOf 4 = .ok (.invokevirtual 131, 3) := by decide +kernel
theorem dX11_warmthOf_7 : decode cX11_warmthOf 7 = .ok (.imul, 1) := by decide +kernel
theorem dX11_warmthOf_8 : decode cX11_warmthOf 8 = .ok (.aload_n 0, 1) := by decide +kernel
theorem dX11_warmthOf_9 : decode cX11_warmthOf 9 = .ok (.iload_n 1, 1) := by decide +kernel
theorem dX11_warmthOf_10 : decode cX11_warmthOf 10 = .ok (.iconst 1, 1) := by decide +kernel
theorem dX11_warmthOf_11 : decode cX11_warmthOf 11 = .ok (.isub, 1) := by decide +kernel
theorem dX11_warmthOf_12 : decode cX11_warmthOf 12 = .ok (.iload_n 2, 1) := by decide +kernel
theorem dX11_warmthOf_13 : decode cX11_warmthOf 13 = .ok (.invokevirtual 131, 3) := by decide +kernel
theorem dX11_warmthOf_16 : decode cX11_warmthOf 16 = .ok (.iadd, 1) := by decide +kernel
theorem dX11_warmthOf_17 : decode cX11_warmthOf 17 = .ok (.aload_n 0, 1) := by decide +kernel
theorem dX11_warmthOf_18 : decode cX11_warmthOf 18 = .ok (.iload_n 1, 1) := by decide +kernel
theorem dX11_warmthOf_19 : decode cX11_warmthOf 19 = .ok (.iconst 1, 1) := by decide +kernel
theorem dX11_warmthOf_20 : decode cX11_warmthOf 20 = .ok (.iadd, 1) := by decide +kernel
theorem dX11_warmthOf_21 : decode cX11_warmthOf 21 = .ok (.iload_n 2, 1) := by decide +kernel
theorem dX11_warmthOf_22 : decode cX11_warmthOf 22 = .ok (.invokevirtual 131, 3) := by decide +kernel
theorem dX11_warmthOf_25 : decode cX11_warmthOf 25 = .ok (.iadd, 1) := by decide +kernel
theorem dX11_warmthOf_26 : decode cX11_warmthOf 26 = .ok (.bipush 40, 2) := by decide +kernel
theorem dX11_warmthOf_28 : decode cX11_warmthOf 28 = .ok (.aload_n 0, 1) := by decide +kernel
theorem dX11_warmthOf_29 : decode cX11_warmthOf 29 = .ok (.getfield 13, 3) := by decide +kernel
theorem dX11_warmthOf_32 : decode cX11_warmthOf 32 = .ok (.bipush 7, 2) := by decide +kernel
theorem dX11_warmthOf_34 : decode cX11_warmthOf 34 = .ok (.iaload, 1) := by decide +kernel
theorem dX11_warmthOf_35 : decode cX11_warmthOf 35 = .ok (.imul, 1) := by decide +kernel
theorem dX11_warmthOf_36 : decode cX11_warmthOf 36 = .ok (.iload_n 3, 1) := by decide +kernel
theorem dX11_warmthOf_37 : decode cX11_warmthOf 37 = .ok (.imul, 1) := by decide +kernel
theorem dX11_warmthOf_38 : decode cX11_warmthOf 38 = .ok (.iadd, 1) := by decide +kernel
theorem dX11_warmthOf_39 : decode cX11_warmthOf 39 = .ok (.ireturn, 1) := by decide +kernel
theorem dX11_iceThen_0 : decode cX11_iceThen 0 = .ok (.iconst 0, 1) := by decide +kernel
theorem dX11_iceThen_1 : decode cX11_iceThen 1 = .ok (.istore_n 3, 1) := by decide +kernel
theorem dX11_iceThen_2 : decode cX11_iceThen 2 = .ok (.iconst 0, 1) := by decide +kernel
theorem dX11_iceThen_3 : decode cX11_iceThen 3 = .ok (.istore 4, 2) := by decide +kernel
theorem dX11_iceThen_5 : decode cX11_iceThen 5 = .ok (.iload 4, 2) := by decide +kernel
theorem dX11_iceThen_7 : decode cX11_iceThen 7 = .ok (.bipush 6, 2) := by decide +kernel
theorem dX11_iceThen_9 : decode cX11_iceThen 9 = .ok (.if_icmp .ge 90, 3) := by decide +kernel
theorem dX11_iceThen_12 : decode cX11_iceThen 12 = .ok (.aload_n 0, 1) := by decide +kernel
theorem dX11_iceThen_13 : decode cX11_iceThen 13 = .ok (.iload 4, 2) := by decide +kernel
theorem dX11_iceThen_15 : decode cX11_iceThen 15 = .ok (.iload_n 1, 1) := by decide +kernel
theorem dX11_iceThen_16 : decode cX11_iceThen 16 = .ok (.iload_n 2, 1) := by decide +kernel
theorem dX11_iceThen_17 : decode cX11_iceThen 17 = .ok (.invokevirtual 135, 3) := by decide +kernel
theorem dX11_iceThen_20 : decode cX11_iceThen 20 = .ok (.istore 5, 2) := by decide +kernel
theorem dX11_iceThen_22 : decode cX11_iceThen 22 = .ok (.iload 5, 2) := by decide +kernel
theorem dX11_iceThen_24 : decode cX11_iceThen 24 = .ok (.bipush 40, 2) := by decide +kernel
theorem dX11_iceThen_26 : decode cX11_iceThen 26 = .ok (.aload_n 0, 1) := by decide +kernel
theorem dX11_iceThen_27 : decode cX11_iceThen 27 = .ok (.getfield 13, 3) := by decide +kernel
theorem dX11_iceThen_30 : decode cX11_iceThen 30 = .ok (.bipush 8, 2) := by decide +kernel
theorem dX11_iceThen_32 : decode cX11_iceThen 32 = .ok (.iaload, 1) := by decide +kernel
theorem dX11_iceThen_33 : decode cX11_iceThen 33 = .ok (.imul, 1) := by decide +kernel
theorem dX11_iceThen_34 : decode cX11_iceThen 34 = .ok (.if_icmp .lt 36, 3) := by decide +kernel
theorem dX11_iceThen_37 : decode cX11_iceThen 37 = .ok (.iload 5, 2) := by decide +kernel
theorem dX11_iceThen_39 : decode cX11_iceThen 39 = .ok (.bipush 40, 2) := by decide +kernel
theorem dX11_iceThen_41 : decode cX11_iceThen 41 = .ok (.aload_n 0, 1) := by decide +kernel
theorem dX11_iceThen_42 : decode cX11_iceThen 42 = .ok (.getfield 13, 3) := by decide +kernel
theorem dX11_iceThen_45 : decode cX11_iceThen 45 = .ok (.bipush 8, 2) := by decide +kernel
theorem dX11_iceThen_47 : decode cX11_iceThen 47 = .ok (.iaload, 1) := by decide +kernel
theorem dX11_iceThen_48 : decode cX11_iceThen 48 = .ok (.aload_n 0, 1) := by decide +kernel
theorem dX11_iceThen_49 : decode cX11_iceThen 49 = .ok (.getfield 13, 3) := by decide +kernel
theorem dX11_iceThen_52 : decode cX11_iceThen 52 = .ok (.bipush 9, 2) := by decide +kernel
theorem dX11_iceThen_54 : decode cX11_iceThen 54 = .ok (.iaload, 1) := by decide +kernel
theorem dX11_iceThen_55 : decode cX11_iceThen 55 = .ok (.iadd, 1) := by decide +kernel
theorem dX11_iceThen_56 : decode cX11_iceThen 56 = .ok (.imul, 1) := by decide +kernel
theorem dX11_iceThen_57 : decode cX11_iceThen 57 = .ok (.if_icmp .ge 17, 3) := by decide +kernel
theorem dX11_iceThen_60 : decode cX11_iceThen 60 = .ok (.iload_n 1, 1) := by decide +kernel
theorem dX11_iceThen_61 : decode cX11_iceThen 61 = .ok (.iload 4, 2) := by decide +kernel
theorem dX11_iceThen_63 : decode cX11_iceThen 63 = .ok (.ishr, 1) := by decide +kernel
theorem dX11_iceThen_64 : decode cX11_iceThen 64 = .ok (.iconst 1, 1) := by decide +kernel
theorem dX11_iceThen_65 : decode cX11_iceThen 65 = .ok (.iand, 1) := by decide +kernel
theorem dX11_iceThen_66 : decode cX11_iceThen 66 = .ok (.iconst 1, 1) := by decide +kernel
theorem dX11_iceThen_67 : decode cX11_iceThen 67 = .ok (.if_icmp .ne 7, 3) := by decide +kernel
theorem dX11_iceThen_70 : decode cX11_iceThen 70 = .ok (.iconst 1, 1) := by decide +kernel
theorem dX11_iceThen_71 : decode cX11_iceThen 71 = .ok (.goto 4, 3) := by decide +kernel
theorem dX11_iceThen_74 : decode cX11_iceThen 74 = .ok (.iconst 0, 1) := by decide +kernel
theorem dX11_iceThen_75 : decode cX11_iceThen 75 = .ok (.istore 6, 2) := by decide +kernel
theorem dX11_iceThen_77 : decode cX11_iceThen 77 = .ok (.iload_n 3, 1) := by decide +kernel
theorem dX11_iceThen_78 : decode cX11_iceThen 78 = .ok (.iload 6, 2) := by decide +kernel
theorem dX11_iceThen_80 : decode cX11_iceThen 80 = .ok (.ifCond .eq 10, 3) := by decide +kernel
theorem dX11_iceThen_83 : decode cX11_iceThen 83 = .ok (.iconst 1, 1) := by decide +kernel
theorem dX11_iceThen_84 : decode cX11_iceThen 84 = .ok (.iload 4, 2) := by decide +kernel
theorem dX11_iceThen_86 : decode cX11_iceThen 86 = .ok (.ishl, 1) := by decide +kernel
theorem dX11_iceThen_87 : decode cX11_iceThen 87 = .ok (.goto 4, 3) := by decide +kernel
theorem dX11_iceThen_90 : decode cX11_iceThen 90 = .ok (.iconst 0, 1) := by decide +kernel
theorem dX11_iceThen_91 : decode cX11_iceThen 91 = .ok (.ior, 1) := by decide +kernel
theorem dX11_iceThen_92 : decode cX11_iceThen 92 = .ok (.istore_n 3, 1) := by decide +kernel
theorem dX11_iceThen_93 : decode cX11_iceThen 93 = .ok (.iinc 4 1, 3) := by decide +kernel
theorem dX11_iceThen_96 : decode cX11_iceThen 96 = .ok (.goto (-91), 3) := by decide +kernel
theorem dX11_iceThen_99 : decode cX11_iceThen 99 = .ok (.iload_n 3, 1) := by decide +kernel
theorem dX11_iceThen_100 : decode cX11_iceThen 100 = .ok (.ireturn, 1) := by decide +kernel
theorem dX11_roundOf_0 : decode cX11_roundOf 0 = .ok (.iload_n 1, 1) := by decide +kernel
theorem dX11_roundOf_1 : decode cX11_roundOf 1 = .ok (.bipush 100, 2) := by decide +kernel
theorem dX11_roundOf_3 : decode cX11_roundOf 3 = .ok (.idiv, 1) := by decide +kernel
theorem dX11_roundOf_4 : decode cX11_roundOf 4 = .ok (.istore_n 2, 1) := by decide +kernel
theorem dX11_roundOf_5 : decode cX11_roundOf 5 = .ok (.iload_n 1, 1) := by decide +kernel
theorem dX11_roundOf_6 : decode cX11_roundOf 6 = .ok (.bipush 100, 2) := by decide +kernel
theorem dX11_roundOf_8 : decode cX11_roundOf 8 = .ok (.irem, 1) := by decide +kernel
theorem dX11_roundOf_9 : decode cX11_roundOf 9 = .ok (.istore_n 3, 1) := by decide +kernel
theorem dX11_roundOf_10 : decode cX11_roundOf 10 = .ok (.iload_n 3, 1) := by decide +kernel
theorem dX11_roundOf_11 : decode cX11_roundOf 11 = .ok (.aload_n 0, 1) := by decide +kernel
theorem dX11_roundOf_12 : decode cX11_roundOf 12 = .ok (.getfield 13, 3) := by decide +kernel
theorem dX11_roundOf_15 : decode cX11_roundOf 15 = .ok (.bipush 10, 2) := by decide +kernel
theorem dX11_roundOf_17 : decode cX11_roundOf 17 = .ok (.iaload, 1) := by decide +kernel
theorem dX11_roundOf_18 : decode cX11_roundOf 18 = .ok (.iadd, 1) := by decide +kernel
theorem dX11_roundOf_19 : decode cX11_roundOf 19 = .ok (.aload_n 0, 1) := by decide +kernel
theorem dX11_roundOf_20 : decode cX11_roundOf 20 = .ok (.getfield 13, 3) := by decide +kernel
theorem dX11_roundOf_23 : decode cX11_roundOf 23 = .ok (.bipush 11, 2) := by decide +kernel
theorem dX11_roundOf_25 : decode cX11_roundOf 25 = .ok (.iaload, 1) := by decide +kernel
theorem dX11_roundOf_26 : decode cX11_roundOf 26 = .ok (.bipush 6, 2) := by decide +kernel
theorem dX11_roundOf_28 : decode cX11_roundOf 28 = .ok (.iload_n 2, 1) := by decide +kernel
theorem dX11_roundOf_29 : decode cX11_roundOf 29 = .ok (.invokestatic 139, 3) := by decide +kernel
theorem dX11_roundOf_32 : decode cX11_roundOf 32 = .ok (.isub, 1) := by decide +kernel
theorem dX11_roundOf_33 : decode cX11_roundOf 33 = .ok (.imul, 1) := by decide +kernel
theorem dX11_roundOf_34 : decode cX11_roundOf 34 = .ok (.isub, 1) := by decide +kernel
theorem dX11_roundOf_35 : decode cX11_roundOf 35 = .ok (.istore 4, 2) := by decide +kernel
theorem dX11_roundOf_37 : decode cX11_roundOf 37 = .ok (.iload 4, 2) := by decide +kernel
theorem dX11_roundOf_39 : decode cX11_roundOf 39 = .ok (.ifCond .ge 7, 3) := by decide +kernel
theorem dX11_roundOf_42 : decode cX11_roundOf 42 = .ok (.iconst 0, 1) := by decide +kernel
theorem dX11_roundOf_43 : decode cX11_roundOf 43 = .ok (.goto 17, 3) := by decide +kernel
theorem dX11_roundOf_46 : decode cX11_roundOf 46 = .ok (.iload 4, 2) := by decide +kernel
theorem dX11_roundOf_48 : decode cX11_roundOf 48 = .ok (.bipush 99, 2) := by decide +kernel
theorem dX11_roundOf_50 : decode cX11_roundOf 50 = .ok (.if_icmp .le 8, 3) := by decide +kernel
theorem dX11_roundOf_53 : decode cX11_roundOf 53 = .ok (.bipush 99, 2) := by decide +kernel
theorem dX11_roundOf_55 : decode cX11_roundOf 55 = .ok (.goto 5, 3) := by decide +kernel
theorem dX11_roundOf_58 : decode cX11_roundOf 58 = .ok (.iload 4, 2) := by decide +kernel
theorem dX11_roundOf_60 : decode cX11_roundOf 60 = .ok (.istore 4, 2) := by decide +kernel
theorem dX11_roundOf_62 : decode cX11_roundOf 62 = .ok (.bipush 100, 2) := by decide +kernel
theorem dX11_roundOf_64 : decode cX11_roundOf 64 = .ok (.aload_n 0, 1) := by decide +kernel
theorem dX11_roundOf_65 : decode cX11_roundOf 65 = .ok (.iload_n 2, 1) := by decide +kernel
theorem dX11_roundOf_66 : decode cX11_roundOf 66 = .ok (.iload_n 3, 1) := by decide +kernel
theorem dX11_roundOf_67 : decode cX11_roundOf 67 = .ok (.invokevirtual 142, 3) := by decide +kernel
theorem dX11_roundOf_70 : decode cX11_roundOf 70 = .ok (.imul, 1) := by decide +kernel
theorem dX11_roundOf_71 : decode cX11_roundOf 71 = .ok (.iload 4, 2) := by decide +kernel
theorem dX11_roundOf_73 : decode cX11_roundOf 73 = .ok (.iadd, 1) := by decide +kernel
theorem dX11_roundOf_74 : decode cX11_roundOf 74 = .ok (.ireturn, 1) := by decide +kernel
theorem dX11_warmth_0 : decode cX11_warmth 0 = .ok (.iload_n 1, 1) := by decide +kernel
theorem dX11_warmth_1 : decode cX11_warmth 1 = .ok (.i2l, 1) := by decide +kernel
theorem dX11_warmth_2 : decode cX11_warmth 2 = .ok (.lconst 0, 1) := by decide +kernel
theorem dX11_warmth_3 : decode cX11_warmth 3 = .ok (.ldc2_w 145, 3) := by decide +kernel
theorem dX11_warmth_6 : decode cX11_warmth 6 = .ok (.invokestatic 65, 3) := by decide +kernel
theorem dX11_warmth_9 : decode cX11_warmth 9 = .ok (.ifCond .ne 5, 3) := by decide +kernel
theorem dX11_warmth_12 : decode cX11_warmth 12 = .ok (.iconst (-1), 1) := by decide +kernel
theorem dX11_warmth_13 : decode cX11_warmth 13 = .ok (.ireturn, 1) := by decide +kernel
theorem dX11_warmth_14 : decode cX11_warmth 14 = .ok (.iload_n 2, 1) := by decide +kernel
theorem dX11_warmth_15 : decode cX11_warmth 15 = .ok (.iload_n 3, 1) := by decide +kernel
theorem dX11_warmth_16 : decode cX11_warmth 16 = .ok (.invokestatic 124, 3) := by decide +kernel
theorem dX11_warmth_19 : decode cX11_warmth 19 = .ok (.ifCond .eq 13, 3) := by decide +kernel
theorem dX11_warmth_22 : decode cX11_warmth 22 = .ok (.aload_n 0, 1) := by decide +kernel
theorem dX11_warmth_23 : decode cX11_warmth 23 = .ok (.iload_n 1, 1) := by decide +kernel
theorem dX11_warmth_24 : decode cX11_warmth 24 = .ok (.iload_n 2, 1) := by decide +kernel
theorem dX11_warmth_25 : decode cX11_warmth 25 = .ok (.iload_n 3, 1) := by decide +kernel
theorem dX11_warmth_26 : decode cX11_warmth 26 = .ok (.invokevirtual 135, 3) := by decide +kernel
theorem dX11_warmth_29 : decode cX11_warmth 29 = .ok (.goto 5, 3) := by decide +kernel
theorem dX11_warmth_32 : decode cX11_warmth 32 = .ok (.bipush (-2), 2) := by decide +kernel
theorem dX11_warmth_34 : decode cX11_warmth 34 = .ok (.ireturn, 1) := by decide +kernel
theorem dX11_round_0 : decode cX11_round 0 = .ok (.iload_n 1, 1) := by decide +kernel
theorem dX11_round_1 : decode cX11_round 1 = .ok (.iload_n 2, 1) := by decide +kernel
theorem dX11_round_2 : decode cX11_round 2 = .ok (.invokestatic 124, 3) := by decide +kernel
theorem dX11_round_5 : decode cX11_round 5 = .ok (.ifCond .eq 16, 3) := by decide +kernel
theorem dX11_round_8 : decode cX11_round 8 = .ok (.aload_n 0, 1) := by decide +kernel
theorem dX11_round_9 : decode cX11_round 9 = .ok (.bipush 100, 2) := by decide +kernel
theorem dX11_round_11 : decode cX11_round 11 = .ok (.iload_n 1, 1) := by decide +kernel
theorem dX11_round_12 : decode cX11_round 12 = .ok (.imul, 1) := by decide +kernel
theorem dX11_round_13 : decode cX11_round 13 = .ok (.iload_n 2, 1) := by decide +kernel
theorem dX11_round_14 : decode cX11_round 14 = .ok (.iadd, 1) := by decide +kernel
theorem dX11_round_15 : decode cX11_round 15 = .ok (.invokevirtual 128, 3) := by decide +kernel
theorem dX11_round_18 : decode cX11_round 18 = .ok (.goto 5, 3) := by decide +kernel
theorem dX11_round_21 : decode cX11_round 21 = .ok (.bipush (-2), 2) := by decide +kernel
theorem dX11_round_23 : decode cX11_round 23 = .ok (.ireturn, 1) := by decide +kernel
theorem dX11_after_0 : decode cX11_after 0 = .ok (.iload_n 1, 1) := by decide +kernel
theorem dX11_after_1 : decode cX11_after 1 = .ok (.iload_n 2, 1) := by decide +kernel
theorem dX11_after_2 : decode cX11_after 2 = .ok (.invokestatic 124, 3) := by decide +kernel
theorem dX11_after_5 : decode cX11_after 5 = .ok (.ifCond .eq 15, 3) := by decide +kernel
theorem dX11_after_8 : decode cX11_after 8 = .ok (.iload_n 3, 1) := by decide +kernel
theorem dX11_after_9 : decode cX11_after 9 = .ok (.i2l, 1) := by decide +kernel
theorem dX11_after_10 : decode cX11_after 10 = .ok (.lconst 0, 1) := by decide +kernel
theorem dX11_after_11 : decode cX11_after 11 = .ok (.ldc2_w 147, 3) := by decide +kernel
theorem dX11_after_14 : decode cX11_after 14 = .ok (.invokestatic 65, 3) := by decide +kernel
theorem dX11_after_17 : decode cX11_after 17 = .ok (.ifCond .ne 6, 3) := by decide +kernel
theorem dX11_after_20 : decode cX11_after 20 = .ok (.bipush (-2), 2) := by decide +kernel
theorem dX11_after_22 : decode cX11_after 22 = .ok (.ireturn, 1) := by decide +kernel
theorem dX11_after_23 : decode cX11_after 23 = .ok (.bipush 100, 2) := by decide +kernel
theorem dX11_after_25 : decode cX11_after 25 = .ok (.iload_n 1, 1) := by decide +kernel
theorem dX11_after_26 : decode cX11_after 26 = .ok (.imul, 1) := by decide +kernel
theorem dX11_after_27 : decode cX11_after 27 = .ok (.iload_n 2, 1) := by decide +kernel
theorem dX11_after_28 : decode cX11_after 28 = .ok (.iadd, 1) := by decide +kernel
theorem dX11_after_29 : decode cX11_after 29 = .ok (.istore 4, 2) := by decide +kernel
theorem dX11_after_31 : decode cX11_after 31 = .ok (.iconst 0, 1) := by decide +kernel
theorem dX11_after_32 : decode cX11_after 32 = .ok (.istore 5, 2) := by decide +kernel
theorem dX11_after_34 : decode cX11_after 34 = .ok (.iload 5, 2) := by decide +kernel
theorem dX11_after_36 : decode cX11_after 36 = .ok (.iload_n 3, 1) := by decide +kernel
theorem dX11_after_37 : decode cX11_after 37 = .ok (.if_icmp .ge 17, 3) := by decide +kernel
theorem dX11_after_40 : decode cX11_after 40 = .ok (.aload_n 0, 1) := by decide +kernel
theorem dX11_after_41 : decode cX11_after 41 = .ok (.iload 4, 2) := by decide +kernel
theorem dX11_after_43 : decode cX11_after 43 = .ok (.invokevirtual 128, 3) := by decide +kernel
theorem dX11_after_46 : decode cX11_after 46 = .ok (.istore 4, 2) := by decide +kernel
theorem dX11_after_48 : decode cX11_after 48 = .ok (.iinc 5 1, 3) := by decide +kernel
theorem dX11_after_51 : decode cX11_after 51 = .ok (.goto (-17), 3) := by decide +kernel
theorem dX11_after_54 : decode cX11_after 54 = .ok (.iload 4, 2) := by decide +kernel
theorem dX11_after_56 : decode cX11_after 56 = .ok (.ireturn, 1) := by decide +kernel
theorem dX11_layRun_0 : decode cX11_layRun 0 = .ok (.iconst 0, 1) := by decide +kernel
theorem dX11_layRun_1 : decode cX11_layRun 1 = .ok (.istore_n 3, 1) := by decide +kernel
theorem dX11_layRun_2 : decode cX11_layRun 2 = .ok (.iload_n 3, 1) := by decide +kernel
theorem dX11_layRun_3 : decode cX11_layRun 3 = .ok (.sipush 6400, 3) := by decide +kernel
theorem dX11_layRun_6 : decode cX11_layRun 6 = .ok (.if_icmp .ge 17, 3) := by decide +kernel
theorem dX11_layRun_9 : decode cX11_layRun 9 = .ok (.aload_n 0, 1) := by decide +kernel
theorem dX11_layRun_10 : decode cX11_layRun 10 = .ok (.getfield 31, 3) := by decide +kernel
theorem dX11_layRun_13 : decode cX11_layRun 13 = .ok (.iload_n 3, 1) := by decide +kernel
theorem dX11_layRun_14 : decode cX11_layRun 14 = .ok (.bipush (-9), 2) := by decide +kernel
theorem dX11_layRun_16 : decode cX11_layRun 16 = .ok (.iastore, 1) := by decide +kernel
theorem dX11_layRun_17 : decode cX11_layRun 17 = .ok (.iinc 3 1, 3) := by decide +kernel
theorem dX11_layRun_20 : decode cX11_layRun 20 = .ok (.goto (-18), 3) := by decide +kernel
theorem dX11_layRun_23 : decode cX11_layRun 23 = .ok (.bipush 100, 2) := by decide +kernel
theorem dX11_layRun_25 : decode cX11_layRun 25 = .ok (.iload_n 1, 1) := by decide +kernel
theorem dX11_layRun_26 : decode cX11_layRun 26 = .ok (.imul, 1) := by decide +kernel
theorem dX11_layRun_27 : decode cX11_layRun 27 = .ok (.iload_n 2, 1) := by decide +kernel
theorem dX11_layRun_28 : decode cX11_layRun 28 = .ok (.iadd, 1) := by decide +kernel
theorem dX11_layRun_29 : decode cX11_layRun 29 = .ok (.istore_n 3, 1) := by decide +kernel
theorem dX11_layRun_30 : decode cX11_layRun 30 = .ok (.iconst 0, 1) := by decide +kernel
theorem dX11_layRun_31 : decode cX11_layRun 31 = .ok (.istore 4, 2) := by decide +kernel
theorem dX11_layRun_33 : decode cX11_layRun 33 = .ok (.aload_n 0, 1) := by decide +kernel
theorem dX11_layRun_34 : decode cX11_layRun 34 = .ok (.getfield 31, 3) := by decide +kernel
theorem dX11_layRun_37 : decode cX11_layRun 37 = .ok (.iload_n 3, 1) := by decide +kernel
theorem dX11_layRun_38 : decode cX11_layRun 38 = .ok (.iaload, 1) := by decide +kernel
theorem dX11_layRun_39 : decode cX11_layRun 39 = .ok (.bipush (-9), 2) := by decide +kernel
theorem dX11_layRun_41 : decode cX11_layRun 41 = .ok (.if_icmp .ne 23, 3) := by decide +kernel
theorem dX11_layRun_44 : decode cX11_layRun 44 = .ok (.aload_n 0, 1) := by decide +kernel
theorem dX11_layRun_45 : decode cX11_layRun 45 = .ok (.getfield 31, 3) := by decide +kernel
theorem dX11_layRun_48 : decode cX11_layRun 48 = .ok (.iload_n 3, 1) := by decide +kernel
theorem dX11_layRun_49 : decode cX11_layRun 49 = .ok (.iload 4, 2) := by decide +kernel
theorem dX11_layRun_51 : decode cX11_layRun 51 = .ok (.iastore, 1) := by decide +kernel
theorem dX11_layRun_52 : decode cX11_layRun 52 = .ok (.aload_n 0, 1) := by decide +kernel
theorem dX11_layRun_53 : decode cX11_layRun 53 = .ok (.iload_n 3, 1) := by decide +kernel
theorem dX11_layRun_54 : decode cX11_layRun 54 = .ok (.invokevirtual 128, 3) := by decide +kernel
theorem dX11_layRun_57 : decode cX11_layRun 57 = .ok (.istore_n 3, 1) := by decide +kernel
theorem dX11_layRun_58 : decode cX11_layRun 58 = .ok (.iinc 4 1, 3) := by decide +kernel
theorem dX11_layRun_61 : decode cX11_layRun 61 = .ok (.goto (-28), 3) := by decide +kernel
theorem dX11_layRun_64 : decode cX11_layRun 64 = .ok (.aload_n 0, 1) := by decide +kernel
theorem dX11_layRun_65 : decode cX11_layRun 65 = .ok (.iload_n 3, 1) := by decide +kernel
theorem dX11_layRun_66 : decode cX11_layRun 66 = .ok (.putfield 149, 3) := by decide +kernel
theorem dX11_layRun_69 : decode cX11_layRun 69 = .ok (.aload_n 0, 1) := by decide +kernel
theorem dX11_layRun_70 : decode cX11_layRun 70 = .ok (.aload_n 0, 1) := by decide +kernel
theorem dX11_layRun_71 : decode cX11_layRun 71 = .ok (.getfield 31, 3) := by decide +kernel
theorem dX11_layRun_74 : decode cX11_layRun 74 = .ok (.iload_n 3, 1) := by decide +kernel
theorem dX11_layRun_75 : decode cX11_layRun 75 = .ok (.iaload, 1) := by decide +kernel
theorem dX11_layRun_76 : decode cX11_layRun 76 = .ok (.putfield 152, 3) := by decide +kernel
theorem dX11_layRun_79 : decode cX11_layRun 79 = .ok (.aload_n 0, 1) := by decide +kernel
theorem dX11_layRun_80 : decode cX11_layRun 80 = .ok (.iload 4, 2) := by decide +kernel
theorem dX11_layRun_82 : decode cX11_layRun 82 = .ok (.aload_n 0, 1) := by decide +kernel
theorem dX11_layRun_83 : decode cX11_layRun 83 = .ok (.getfield 152, 3) := by decide +kernel
theorem dX11_layRun_86 : decode cX11_layRun 86 = .ok (.isub, 1) := by decide +kernel
theorem dX11_layRun_87 : decode cX11_layRun 87 = .ok (.putfield 155, 3) := by decide +kernel
theorem dX11_layRun_90 : decode cX11_layRun 90 = .ok (.return_, 1) := by decide +kernel
theorem dX11_run_0 : decode cX11_run 0 = .ok (.iload_n 1, 1) := by decide +kernel
theorem dX11_run_1 : decode cX11_run 1 = .ok (.iload_n 2, 1) := by decide +kernel
theorem dX11_run_2 : decode cX11_run 2 = .ok (.invokestatic 124, 3) := by decide +kernel
theorem dX11_run_5 : decode cX11_run 5 = .ok (.ifCond .eq 15, 3) := by decide +kernel
theorem dX11_run_8 : decode cX11_run 8 = .ok (.iload_n 3, 1) := by decide +kernel
theorem dX11_run_9 : decode cX11_run 9 = .ok (.i2l, 1) := by decide +kernel
theorem dX11_run_10 : decode cX11_run 10 = .ok (.lconst 0, 1) := by decide +kernel
theorem dX11_run_11 : decode cX11_run 11 = .ok (.ldc2_w 158, 3) := by decide +kernel
theorem dX11_run_14 : decode cX11_run 14 = .ok (.invokestatic 65, 3) := by decide +kernel
theorem dX11_run_17 : decode cX11_run 17 = .ok (.ifCond .ne 6, 3) := by decide +kernel
theorem dX11_run_20 : decode cX11_run 20 = .ok (.bipush (-2), 2) := by decide +kernel
theorem dX11_run_22 : decode cX11_run 22 = .ok (.ireturn, 1) := by decide +kernel
theorem dX11_run_23 : decode cX11_run 23 = .ok (.aload_n 0, 1) := by decide +kernel
theorem dX11_run_24 : decode cX11_run 24 = .ok (.iload_n 1, 1) := by decide +kernel
theorem dX11_run_25 : decode cX11_run 25 = .ok (.iload_n 2, 1) := by decide +kernel
theorem dX11_run_26 : decode cX11_run 26 = .ok (.invokevirtual 160, 3) := by decide +kernel
theorem dX11_run_29 : decode cX11_run 29 = .ok (.iconst 0, 1) := by decide +kernel
theorem dX11_run_30 : decode cX11_run 30 = .ok (.istore 4, 2) := by decide +kernel
theorem dX11_run_32 : decode cX11_run 32 = .ok (.bipush 99, 2) := by decide +kernel
theorem dX11_run_34 : decode cX11_run 34 = .ok (.istore 5, 2) := by decide +kernel
theorem dX11_run_36 : decode cX11_run 36 = .ok (.iconst 0, 1) := by decide +kernel
theorem dX11_run_37 : decode cX11_run 37 = .ok (.istore 6, 2) := by decide +kernel
theorem dX11_run_39 : decode cX11_run 39 = .ok (.aload_n 0, 1) := by decide +kernel
theorem dX11_run_40 : decode cX11_run 40 = .ok (.getfield 149, 3) := by decide +kernel
theorem dX11_run_43 : decode cX11_run 43 = .ok (.istore 7, 2) := by decide +kernel
theorem dX11_run_45 : decode cX11_run 45 = .ok (.iconst 0, 1) := by decide +kernel
theorem dX11_run_46 : decode cX11_run 46 = .ok (.istore 8, 2) := by decide +kernel
theorem dX11_run_48 : decode cX11_run 48 = .ok (.iload 8, 2) := by decide +kernel
theorem dX11_run_50 : decode cX11_run 50 = .ok (.aload_n 0, 1) := by decide +kernel
theorem dX11_run_51 : decode cX11_run 51 = .ok (.getfield 155, 3) := by decide +kernel
theorem dX11_run_54 : decode cX11_run 54 = .ok (.if_icmp .ge 81, 3) := by decide +kernel
theorem dX11_run_57 : decode cX11_run 57 = .ok (.iload 4, 2) := by decide +kernel
theorem dX11_run_59 : decode cX11_run 59 = .ok (.iload 7, 2) := by decide +kernel
theorem dX11_run_61 : decode cX11_run 61 = .ok (.bipush 100, 2) := by decide +kernel
theorem dX11_run_63 : decode cX11_run 63 = .ok (.idiv, 1) := by decide +kernel
theorem dX11_run_64 : decode cX11_run 64 = .ok (.bipush 63, 2) := by decide +kernel
theorem dX11_run_66 : decode cX11_run 66 = .ok (.if_icmp .ne 7, 3) := by decide +kernel
theorem dX11_run_69 : decode cX11_run 69 = .ok (.iconst 1, 1) := by decide +kernel
theorem dX11_run_70 : decode cX11_run 70 = .ok (.goto 4, 3) := by decide +kernel
theorem dX11_run_73 : decode cX11_run 73 = .ok (.iconst 0, 1) := by decide +kernel
theorem dX11_run_74 : decode cX11_run 74 = .ok (.iadd, 1) := by decide +kernel
theorem dX11_run_75 : decode cX11_run 75 = .ok (.istore 4, 2) := by decide +kernel
theorem dX11_run_77 : decode cX11_run 77 = .ok (.iload 7, 2) := by decide +kernel
theorem dX11_run_79 : decode cX11_run 79 = .ok (.bipush 100, 2) := by decide +kernel
theorem dX11_run_81 : decode cX11_run 81 = .ok (.irem, 1) := by decide +kernel
theorem dX11_run_82 : decode cX11_run 82 = .ok (.iload 5, 2) := by decide +kernel
theorem dX11_run_84 : decode cX11_run 84 = .ok (.if_icmp .ge 11, 3) := by decide +kernel
theorem dX11_run_87 : decode cX11_run 87 = .ok (.iload 7, 2) := by decide +kernel
theorem dX11_run_89 : decode cX11_run 89 = .ok (.bipush 100, 2) := by decide +kernel
theorem dX11_run_91 : decode cX11_run 91 = .ok (.irem, 1) := by decide +kernel
theorem dX11_run_92 : decode cX11_run 92 = .ok (.goto 5, 3) := by decide +kernel
theorem dX11_run_95 : decode cX11_run 95 = .ok (.iload 5, 2) := by decide +kernel
theorem dX11_run_97 : decode cX11_run 97 = .ok (.istore 5, 2) := by decide +kernel
theorem dX11_run_99 : decode cX11_run 99 = .ok (.iload 7, 2) := by decide +kernel
theorem dX11_run_101 : decode cX11_run 101 = .ok (.bipush 100, 2) := by decide +kernel
theorem dX11_run_103 : decode cX11_run 103 = .ok (.irem, 1) := by decide +kernel
theorem dX11_run_104 : decode cX11_run 104 = .ok (.iload 6, 2) := by decide +kernel
theorem dX11_run_106 : decode cX11_run 106 = .ok (.if_icmp .le 11, 3) := by decide +kernel
theorem dX11_run_109 : decode cX11_run 109 = .ok (.iload 7, 2) := by decide +kernel
theorem dX11_run_111 : decode cX11_run 111 = .ok (.bipush 100, 2) := by decide +kernel
theorem dX11_run_113 : decode cX11_run 113 = .ok (.irem, 1) := by decide +kernel
theorem dX11_run_114 : decode cX11_run 114 = .ok (.goto 5, 3) := by decide +kernel
theorem dX11_run_117 : decode cX11_run 117 = .ok (.iload 6, 2) := by decide +kernel
theorem dX11_run_119 : decode cX11_run 119 = .ok (.istore 6, 2) := by decide +kernel
theorem dX11_run_121 : decode cX11_run 121 = .ok (.aload_n 0, 1) := by decide +kernel
theorem dX11_run_122 : decode cX11_run 122 = .ok (.iload 7, 2) := by decide +kernel
theorem dX11_run_124 : decode cX11_run 124 = .ok (.invokevirtual 128, 3) := by decide +kernel
theorem dX11_run_127 : decode cX11_run 127 = .ok (.istore 7, 2) := by decide +kernel
theorem dX11_run_129 : decode cX11_run 129 = .ok (.iinc 8 1, 3) := by decide +kernel
theorem dX11_run_132 : decode cX11_run 132 = .ok (.goto (-84), 3) := by decide +kernel
theorem dX11_run_135 : decode cX11_run 135 = .ok (.iload_n 3, 1) := by decide +kernel
theorem dX11_run_136 : decode cX11_run 136 = .ok (.ifCond .ne 10, 3) := by decide +kernel
theorem dX11_run_139 : decode cX11_run 139 = .ok (.aload_n 0, 1) := by decide +kernel
theorem dX11_run_140 : decode cX11_run 140 = .ok (.getfield 152, 3) := by decide +kernel
theorem dX11_run_143 : decode cX11_run 143 = .ok (.goto 37, 3) := by decide +kernel
theorem dX11_run_146 : decode cX11_run 146 = .ok (.iload_n 3, 1) := by decide +kernel
theorem dX11_run_147 : decode cX11_run 147 = .ok (.iconst 1, 1) := by decide +kernel
theorem dX11_run_148 : decode cX11_run 148 = .ok (.if_icmp .ne 10, 3) := by decide +kernel
theorem dX11_run_151 : decode cX11_run 151 = .ok (.aload_n 0, 1) := by decide +kernel
theorem dX11_run_152 : decode cX11_run 152 = .ok (.getfield 155, 3) := by decide +kernel
theorem dX11_run_155 : decode cX11_run 155 = .ok (.goto 25, 3) := by decide +kernel
theorem dX11_run_158 : decode cX11_run 158 = .ok (.iload_n 3, 1) := by decide +kernel
theorem dX11_run_159 : decode cX11_run 159 = .ok (.iconst 2, 1) := by decide +kernel
theorem dX11_run_160 : decode cX11_run 160 = .ok (.if_icmp .ne 8, 3) := by decide +kernel
theorem dX11_run_163 : decode cX11_run 163 = .ok (.iload 4, 2) := by decide +kernel
theorem dX11_run_165 : decode cX11_run 165 = .ok (.goto 15, 3) := by decide +kernel
theorem dX11_run_168 : decode cX11_run 168 = .ok (.iload_n 3, 1) := by decide +kernel
theorem dX11_run_169 : decode cX11_run 169 = .ok (.iconst 3, 1) := by decide +kernel
theorem dX11_run_170 : decode cX11_run 170 = .ok (.if_icmp .ne 8, 3) := by decide +kernel
theorem dX11_run_173 : decode cX11_run 173 = .ok (.iload 5, 2) := by decide +kernel
theorem dX11_run_175 : decode cX11_run 175 = .ok (.goto 5, 3) := by decide +kernel
theorem dX11_run_178 : decode cX11_run 178 = .ok (.iload 6, 2) := by decide +kernel
theorem dX11_run_180 : decode cX11_run 180 = .ok (.ireturn, 1) := by decide +kernel
theorem dX11_till_0 : decode cX11_till 0 = .ok (.iload_n 1, 1) := by decide +kernel
theorem dX11_till_1 : decode cX11_till 1 = .ok (.iload_n 2, 1) := by decide +kernel
theorem dX11_till_2 : decode cX11_till 2 = .ok (.invokestatic 124, 3) := by decide +kernel
theorem dX11_till_5 : decode cX11_till 5 = .ok (.ifCond .ne 6, 3) := by decide +kernel
theorem dX11_till_8 : decode cX11_till 8 = .ok (.bipush (-2), 2) := by decide +kernel
theorem dX11_till_10 : decode cX11_till 10 = .ok (.ireturn, 1) := by decide +kernel
theorem dX11_till_11 : decode cX11_till 11 = .ok (.aload_n 0, 1) := by decide +kernel
theorem dX11_till_12 : decode cX11_till 12 = .ok (.iload_n 1, 1) := by decide +kernel
theorem dX11_till_13 : decode cX11_till 13 = .ok (.iload_n 2, 1) := by decide +kernel
theorem dX11_till_14 : decode cX11_till 14 = .ok (.invokevirtual 160, 3) := by decide +kernel
theorem dX11_till_17 : decode cX11_till 17 = .ok (.bipush 100, 2) := by decide +kernel
theorem dX11_till_19 : decode cX11_till 19 = .ok (.iload_n 1, 1) := by decide +kernel
theorem dX11_till_20 : decode cX11_till 20 = .ok (.imul, 1) := by decide +kernel
theorem dX11_till_21 : decode cX11_till 21 = .ok (.iload_n 2, 1) := by decide +kernel
theorem dX11_till_22 : decode cX11_till 22 = .ok (.iadd, 1) := by decide +kernel
theorem dX11_till_23 : decode cX11_till 23 = .ok (.istore 4, 2) := by decide +kernel
theorem dX11_till_25 : decode cX11_till 25 = .ok (.iconst 0, 1) := by decide +kernel
theorem dX11_till_26 : decode cX11_till 26 = .ok (.istore 5, 2) := by decide +kernel
theorem dX11_till_28 : decode cX11_till 28 = .ok (.iload 5, 2) := by decide +kernel
theorem dX11_till_30 : decode cX11_till 30 = .ok (.aload_n 0, 1) := by decide +kernel
theorem dX11_till_31 : decode cX11_till 31 = .ok (.getfield 152, 3) := by decide +kernel
theorem dX11_till_34 : decode cX11_till 34 = .ok (.aload_n 0, 1) := by decide +kernel
theorem dX11_till_35 : decode cX11_till 35 = .ok (.getfield 155, 3) := by decide +kernel
theorem dX11_till_38 : decode cX11_till 38 = .ok (.iadd, 1) := by decide +kernel
theorem dX11_till_39 : decode cX11_till 39 = .ok (.if_icmp .ge 39, 3) := by decide +kernel
theorem dX11_till_42 : decode cX11_till 42 = .ok (.iload 4, 2) := by decide +kernel
theorem dX11_till_44 : decode cX11_till 44 = .ok (.bipush 100, 2) := by decide +kernel
theorem dX11_till_46 : decode cX11_till 46 = .ok (.idiv, 1) := by decide +kernel
theorem dX11_till_47 : decode cX11_till 47 = .ok (.bipush 63, 2) := by decide +kernel
theorem dX11_till_49 : decode cX11_till 49 = .ok (.if_icmp .ne 7, 3) := by decide +kernel
theorem dX11_till_52 : decode cX11_till 52 = .ok (.iconst 1, 1) := by decide +kernel
theorem dX11_till_53 : decode cX11_till 53 = .ok (.goto 4, 3) := by decide +kernel
theorem dX11_till_56 : decode cX11_till 56 = .ok (.iconst 0, 1) := by decide +kernel
theorem dX11_till_57 : decode cX11_till 57 = .ok (.iload_n 3, 1) := by decide +kernel
theorem dX11_till_58 : decode cX11_till 58 = .ok (.if_icmp .ne 6, 3) := by decide +kernel
theorem dX11_till_61 : decode cX11_till 61 = .ok (.iload 5, 2) := by decide +kernel
theorem dX11_till_63 : decode cX11_till 63 = .ok (.ireturn, 1) := by decide +kernel
theorem dX11_till_64 : decode cX11_till 64 = .ok (.aload_n 0, 1) := by decide +kernel
theorem dX11_till_65 : decode cX11_till 65 = .ok (.iload 4, 2) := by decide +kernel
theorem dX11_till_67 : decode cX11_till 67 = .ok (.invokevirtual 128, 3) := by decide +kernel
theorem dX11_till_70 : decode cX11_till 70 = .ok (.istore 4, 2) := by decide +kernel
theorem dX11_till_72 : decode cX11_till 72 = .ok (.iinc 5 1, 3) := by decide +kernel
theorem dX11_till_75 : decode cX11_till 75 = .ok (.goto (-47), 3) := by decide +kernel
theorem dX11_till_78 : decode cX11_till 78 = .ok (.bipush (-9), 2) := by decide +kernel
theorem dX11_till_80 : decode cX11_till 80 = .ok (.ireturn, 1) := by decide +kernel
theorem dX11_isRest_0 : decode cX11_isRest 0 = .ok (.aload_n 0, 1) := by decide +kernel
theorem dX11_isRest_1 : decode cX11_isRest 1 = .ok (.iload_n 1, 1) := by decide +kernel
theorem dX11_isRest_2 : decode cX11_isRest 2 = .ok (.iload_n 2, 1) := by decide +kernel
theorem dX11_isRest_3 : decode cX11_isRest 3 = .ok (.invokevirtual 142, 3) := by decide +kernel
theorem dX11_isRest_6 : decode cX11_isRest 6 = .ok (.iload_n 1, 1) := by decide +kernel
theorem dX11_isRest_7 : decode cX11_isRest 7 = .ok (.if_icmp .ne 7, 3) := by decide +kernel
theorem dX11_isRest_10 : decode cX11_isRest 10 = .ok (.iconst 1, 1) := by decide +kernel
theorem dX11_isRest_11 : decode cX11_isRest 11 = .ok (.goto 4, 3) := by decide +kernel
theorem dX11_isRest_14 : decode cX11_isRest 14 = .ok (.iconst 0, 1) := by decide +kernel
theorem dX11_isRest_15 : decode cX11_isRest 15 = .ok (.ireturn, 1) := by decide +kernel
theorem dX11_rests_0 : decode cX11_rests 0 = .ok (.iload_n 1, 1) := by decide +kernel
theorem dX11_rests_1 : decode cX11_rests 1 = .ok (.i2l, 1) := by decide +kernel
theorem dX11_rests_2 : decode cX11_rests 2 = .ok (.lconst 0, 1) := by decide +kernel
theorem dX11_rests_3 : decode cX11_rests 3 = .ok (.ldc2_w 122, 3) := by decide +kernel
theorem dX11_rests_6 : decode cX11_rests 6 = .ok (.invokestatic 65, 3) := by decide +kernel
theorem dX11_rests_9 : decode cX11_rests 9 = .ok (.ifCond .ne 6, 3) := by decide +kernel
theorem dX11_rests_12 : decode cX11_rests 12 = .ok (.bipush (-2), 2) := by decide +kernel
theorem dX11_rests_14 : decode cX11_rests 14 = .ok (.ireturn, 1) := by decide +kernel
theorem dX11_rests_15 : decode cX11_rests 15 = .ok (.iconst 0, 1) := by decide +kernel
theorem dX11_rests_16 : decode cX11_rests 16 = .ok (.istore_n 2, 1) := by decide +kernel
theorem dX11_rests_17 : decode cX11_rests 17 = .ok (.iconst 0, 1) := by decide +kernel
theorem dX11_rests_18 : decode cX11_rests 18 = .ok (.istore_n 3, 1) := by decide +kernel
theorem dX11_rests_19 : decode cX11_rests 19 = .ok (.iload_n 3, 1) := by decide +kernel
theorem dX11_rests_20 : decode cX11_rests 20 = .ok (.bipush 64, 2) := by decide +kernel
theorem dX11_rests_22 : decode cX11_rests 22 = .ok (.if_icmp .ge 26, 3) := by decide +kernel
theorem dX11_rests_25 : decode cX11_rests 25 = .ok (.iload_n 2, 1) := by decide +kernel
theorem dX11_rests_26 : decode cX11_rests 26 = .ok (.aload_n 0, 1) := by decide +kernel
theorem dX11_rests_27 : decode cX11_rests 27 = .ok (.iload_n 3, 1) := by decide +kernel
theorem dX11_rests_28 : decode cX11_rests 28 = .ok (.iload_n 1, 1) := by decide +kernel
theorem dX11_rests_29 : decode cX11_rests 29 = .ok (.invokevirtual 164, 3) := by decide +kernel
theorem dX11_rests_32 : decode cX11_rests 32 = .ok (.ifCond .eq 7, 3) := by decide +kernel
theorem dX11_rests_35 : decode cX11_rests 35 = .ok (.iconst 1, 1) := by decide +kernel
theorem dX11_rests_36 : decode cX11_rests 36 = .ok (.goto 4, 3) := by decide +kernel
theorem dX11_rests_39 : decode cX11_rests 39 = .ok (.iconst 0, 1) := by decide +kernel
theorem dX11_rests_40 : decode cX11_rests 40 = .ok (.iadd, 1) := by decide +kernel
theorem dX11_rests_41 : decode cX11_rests 41 = .ok (.istore_n 2, 1) := by decide +kernel
theorem dX11_rests_42 : decode cX11_rests 42 = .ok (.iinc 3 1, 3) := by decide +kernel
theorem dX11_rests_45 : decode cX11_rests 45 = .ok (.goto (-26), 3) := by decide +kernel
theorem dX11_rests_48 : decode cX11_rests 48 = .ok (.iload_n 2, 1) := by decide +kernel
theorem dX11_rests_49 : decode cX11_rests 49 = .ok (.ireturn, 1) := by decide +kernel
theorem dX11_rest_0 : decode cX11_rest 0 = .ok (.iload_n 1, 1) := by decide +kernel
theorem dX11_rest_1 : decode cX11_rest 1 = .ok (.i2l, 1) := by decide +kernel
theorem dX11_rest_2 : decode cX11_rest 2 = .ok (.lconst 0, 1) := by decide +kernel
theorem dX11_rest_3 : decode cX11_rest 3 = .ok (.ldc2_w 122, 3) := by decide +kernel
theorem dX11_rest_6 : decode cX11_rest 6 = .ok (.invokestatic 65, 3) := by decide +kernel
theorem dX11_rest_9 : decode cX11_rest 9 = .ok (.ifCond .ne 6, 3) := by decide +kernel
theorem dX11_rest_12 : decode cX11_rest 12 = .ok (.bipush (-2), 2) := by decide +kernel
theorem dX11_rest_14 : decode cX11_rest 14 = .ok (.ireturn, 1) := by decide +kernel
theorem dX11_rest_15 : decode cX11_rest 15 = .ok (.iconst 0, 1) := by decide +kernel
theorem dX11_rest_16 : decode cX11_rest 16 = .ok (.istore_n 3, 1) := by decide +kernel
theorem dX11_rest_17 : decode cX11_rest 17 = .ok (.iconst 0, 1) := by decide +kernel
theorem dX11_rest_18 : decode cX11_rest 18 = .ok (.istore 4, 2) := by decide +kernel
theorem dX11_rest_20 : decode cX11_rest 20 = .ok (.iload 4, 2) := by decide +kernel
theorem dX11_rest_22 : decode cX11_rest 22 = .ok (.bipush 64, 2) := by decide +kernel
theorem dX11_rest_24 : decode cX11_rest 24 = .ok (.if_icmp .ge 30, 3) := by decide +kernel
theorem dX11_rest_27 : decode cX11_rest 27 = .ok (.aload_n 0, 1) := by decide +kernel
theorem dX11_rest_28 : decode cX11_rest 28 = .ok (.iload 4, 2) := by decide +kernel
theorem dX11_rest_30 : decode cX11_rest 30 = .ok (.iload_n 1, 1) := by decide +kernel
theorem dX11_rest_31 : decode cX11_rest 31 = .ok (.invokevirtual 164, 3) := by decide +kernel
theorem dX11_rest_34 : decode cX11_rest 34 = .ok (.ifCond .eq 14, 3) := by decide +kernel
theorem dX11_rest_37 : decode cX11_rest 37 = .ok (.iload_n 3, 1) := by decide +kernel
theorem dX11_rest_38 : decode cX11_rest 38 = .ok (.iload_n 2, 1) := by decide +kernel
theorem dX11_rest_39 : decode cX11_rest 39 = .ok (.if_icmp .ne 6, 3) := by decide +kernel
theorem dX11_rest_42 : decode cX11_rest 42 = .ok (.iload 4, 2) := by decide +kernel
theorem dX11_rest_44 : decode cX11_rest 44 = .ok (.ireturn, 1) := by decide +kernel
theorem dX11_rest_45 : decode cX11_rest 45 = .ok (.iinc 3 1, 3) := by decide +kernel
theorem dX11_rest_48 : decode cX11_rest 48 = .ok (.iinc 4 1, 3) := by decide +kernel
theorem dX11_rest_51 : decode cX11_rest 51 = .ok (.goto (-31), 3) := by decide +kernel
theorem dX11_rest_54 : decode cX11_rest 54 = .ok (.bipush (-9), 2) := by decide +kernel
theorem dX11_rest_56 : decode cX11_rest 56 = .ok (.ireturn, 1) := by decide +kernel
theorem dX11_settleOf_0 : decode cX11_settleOf 0 = .ok (.iload_n 1, 1) := by decide +kernel
theorem dX11_settleOf_1 : decode cX11_settleOf 1 = .ok (.istore_n 3, 1) := by decide +kernel
theorem dX11_settleOf_2 : decode cX11_settleOf 2 = .ok (.iconst 0, 1) := by decide +kernel
theorem dX11_settleOf_3 : decode cX11_settleOf 3 = .ok (.istore 4, 2) := by decide +kernel
theorem dX11_settleOf_5 : decode cX11_settleOf 5 = .ok (.iload 4, 2) := by decide +kernel
theorem dX11_settleOf_7 : decode cX11_settleOf 7 = .ok (.bipush 65, 2) := by decide +kernel
theorem dX11_settleOf_9 : decode cX11_settleOf 9 = .ok (.if_icmp .ge 27, 3) := by decide +kernel
theorem dX11_settleOf_12 : decode cX11_settleOf 12 = .ok (.aload_n 0, 1) := by decide +kernel
theorem dX11_settleOf_13 : decode cX11_settleOf 13 = .ok (.iload_n 3, 1) := by decide +kernel
theorem dX11_settleOf_14 : decode cX11_settleOf 14 = .ok (.iload_n 2, 1) := by decide +kernel
theorem dX11_settleOf_15 : decode cX11_settleOf 15 = .ok (.invokevirtual 164, 3) := by decide +kernel
theorem dX11_settleOf_18 : decode cX11_settleOf 18 = .ok (.ifCond .eq 5, 3) := by decide +kernel
theorem dX11_settleOf_21 : decode cX11_settleOf 21 = .ok (.iload_n 3, 1) := by decide +kernel
theorem dX11_settleOf_22 : decode cX11_settleOf 22 = .ok (.ireturn, 1) := by decide +kernel
theorem dX11_settleOf_23 : decode cX11_settleOf 23 = .ok (.aload_n 0, 1) := by decide +kernel
theorem dX11_settleOf_24 : decode cX11_settleOf 24 = .ok (.iload_n 3, 1) := by decide +kernel
theorem dX11_settleOf_25 : decode cX11_settleOf 25 = .ok (.iload_n 2, 1) := by decide +kernel
theorem dX11_settleOf_26 : decode cX11_settleOf 26 = .ok (.invokevirtual 142, 3) := by decide +kernel
theorem dX11_settleOf_29 : decode cX11_settleOf 29 = .ok (.istore_n 3, 1) := by decide +kernel
theorem dX11_settleOf_30 : decode cX11_settleOf 30 = .ok (.iinc 4 1, 3) := by decide +kernel
theorem dX11_settleOf_33 : decode cX11_settleOf 33 = .ok (.goto (-28), 3) := by decide +kernel
theorem dX11_settleOf_36 : decode cX11_settleOf 36 = .ok (.bipush (-9), 2) := by decide +kernel
theorem dX11_settleOf_38 : decode cX11_settleOf 38 = .ok (.ireturn, 1) := by decide +kernel
theorem dX11_settle_0 : decode cX11_settle 0 = .ok (.iload_n 1, 1) := by decide +kernel
theorem dX11_settle_1 : decode cX11_settle 1 = .ok (.iload_n 2, 1) := by decide +kernel
theorem dX11_settle_2 : decode cX11_settle 2 = .ok (.invokestatic 124, 3) := by decide +kernel
theorem dX11_settle_5 : decode cX11_settle 5 = .ok (.ifCond .eq 12, 3) := by decide +kernel
theorem dX11_settle_8 : decode cX11_settle 8 = .ok (.aload_n 0, 1) := by decide +kernel
theorem dX11_settle_9 : decode cX11_settle 9 = .ok (.iload_n 1, 1) := by decide +kernel
theorem dX11_settle_10 : decode cX11_settle 10 = .ok (.iload_n 2, 1) := by decide +kernel
theorem dX11_settle_11 : decode cX11_settle 11 = .ok (.invokevirtual 167, 3) := by decide +kernel
theorem dX11_settle_14 : decode cX11_settle 14 = .ok (.goto 5, 3) := by decide +kernel
theorem dX11_settle_17 : decode cX11_settle 17 = .ok (.bipush (-2), 2) := by decide +kernel
theorem dX11_settle_19 : decode cX11_settle 19 = .ok (.ireturn, 1) := by decide +kernel
theorem dX11_layCurve_0 : decode cX11_layCurve 0 = .ok (.aload_n 0, 1) := by decide +kernel
theorem dX11_layCurve_1 : decode cX11_layCurve 1 = .ok (.iconst 0, 1) := by decide +kernel
theorem dX11_layCurve_2 : decode cX11_layCurve 2 = .ok (.putfield 170, 3) := by decide +kernel
theorem dX11_layCurve_5 : decode cX11_layCurve 5 = .ok (.aload_n 0, 1) := by decide +kernel
theorem dX11_layCurve_6 : decode cX11_layCurve 6 = .ok (.iload_n 1, 1) := by decide +kernel
theorem dX11_layCurve_7 : decode cX11_layCurve 7 = .ok (.putfield 173, 3) := by decide +kernel
theorem dX11_layCurve_10 : decode cX11_layCurve 10 = .ok (.iload_n 3, 1) := by decide +kernel
theorem dX11_layCurve_11 : decode cX11_layCurve 11 = .ok (.iload_n 2, 1) := by decide +kernel
theorem dX11_layCurve_12 : decode cX11_layCurve 12 = .ok (.if_icmp .ge 7, 3) := by decide +kernel
theorem dX11_layCurve_15 : decode cX11_layCurve 15 = .ok (.iconst (-1), 1) := by decide +kernel
theorem dX11_layCurve_16 : decode cX11_layCurve 16 = .ok (.goto 4, 3) := by decide +kernel
theorem dX11_layCurve_19 : decode cX11_layCurve 19 = .ok (.iconst 1, 1) := by decide +kernel
theorem dX11_layCurve_20 : decode cX11_layCurve 20 = .ok (.istore 4, 2) := by decide +kernel
theorem dX11_layCurve_22 : decode cX11_layCurve 22 = .ok (.iconst 1, 1) := by decide +kernel
theorem dX11_layCurve_23 : decode cX11_layCurve 23 = .ok (.istore 5, 2) := by decide +kernel
theorem dX11_layCurve_25 : decode cX11_layCurve 25 = .ok (.iload_n 2, 1) := by decide +kernel
theorem dX11_layCurve_26 : decode cX11_layCurve 26 = .ok (.istore 6, 2) := by decide +kernel
theorem dX11_layCurve_28 : decode cX11_layCurve 28 = .ok (.iload 5, 2) := by decide +kernel
theorem dX11_layCurve_30 : decode cX11_layCurve 30 = .ok (.ifCond .eq 106, 3) := by decide +kernel
theorem dX11_layCurve_33 : decode cX11_layCurve 33 = .ok (.aload_n 0, 1) := by decide +kernel
theorem dX11_layCurve_34 : decode cX11_layCurve 34 = .ok (.aload_n 0, 1) := by decide +kernel
theorem dX11_layCurve_35 : decode cX11_layCurve 35 = .ok (.getfield 173, 3) := by decide +kernel
theorem dX11_layCurve_38 : decode cX11_layCurve 38 = .ok (.iload 6, 2) := by decide +kernel
theorem dX11_layCurve_40 : decode cX11_layCurve 40 = .ok (.invokevirtual 167, 3) := by decide +kernel
theorem dX11_layCurve_43 : decode cX11_layCurve 43 = .ok (.istore 7, 2) := by decide +kernel
theorem dX11_layCurve_45 : decode cX11_layCurve 45 = .ok (.iload 7, 2) := by decide +kernel
theorem dX11_layCurve_47 : decode cX11_layCurve 47 = .ok (.bipush (-9), 2) := by decide +kernel
theorem dX11_layCurve_49 : decode cX11_layCurve 49 = .ok (.if_icmp .ne 10, 3) := by decide +kernel
theorem dX11_layCurve_52 : decode cX11_layCurve 52 = .ok (.aload_n 0, 1) := by decide +kernel
theorem dX11_layCurve_53 : decode cX11_layCurve 53 = .ok (.bipush (-9), 2) := by decide +kernel
theorem dX11_layCurve_55 : decode cX11_layCurve 55 = .ok (.putfield 173, 3) := by decide +kernel
theorem dX11_layCurve_58 : decode cX11_layCurve 58 = .ok (.return_, 1) := by decide +kernel
theorem dX11_layCurve_59 : decode cX11_layCurve 59 = .ok (.iload 7, 2) := by decide +kernel
theorem dX11_layCurve_61 : decode cX11_layCurve 61 = .ok (.invokestatic 139, 3) := by decide +kernel
theorem dX11_layCurve_64 : decode cX11_layCurve 64 = .ok (.aload_n 0, 1) := by decide +kernel
theorem dX11_layCurve_65 : decode cX11_layCurve 65 = .ok (.getfield 173, 3) := by decide +kernel
theorem dX11_layCurve_68 : decode cX11_layCurve 68 = .ok (.invokestatic 139, 3) := by decide +kernel
theorem dX11_layCurve_71 : decode cX11_layCurve 71 = .ok (.isub, 1) := by decide +kernel
theorem dX11_layCurve_72 : decode cX11_layCurve 72 = .ok (.istore 8, 2) := by decide +kernel
theorem dX11_layCurve_74 : decode cX11_layCurve 74 = .ok (.iload 8, 2) := by decide +kernel
theorem dX11_layCurve_76 : decode cX11_layCurve 76 = .ok (.iconst 1, 1) := by decide +kernel
theorem dX11_layCurve_77 : decode cX11_layCurve 77 = .ok (.if_icmp .gt 9, 3) := by decide +kernel
theorem dX11_layCurve_80 : decode cX11_layCurve 80 = .ok (.iload 8, 2) := by decide +kernel
theorem dX11_layCurve_82 : decode cX11_layCurve 82 = .ok (.iconst (-1), 1) := by decide +kernel
theorem dX11_layCurve_83 : decode cX11_layCurve 83 = .ok (.if_icmp .ge 24, 3) := by decide +kernel
theorem dX11_layCurve_86 : decode cX11_layCurve 86 = .ok (.aload_n 0, 1) := by decide +kernel
theorem dX11_layCurve_87 : decode cX11_layCurve 87 = .ok (.getfield 34, 3) := by decide +kernel
theorem dX11_layCurve_90 : decode cX11_layCurve 90 = .ok (.aload_n 0, 1) := by decide +kernel
theorem dX11_layCurve_91 : decode cX11_layCurve 91 = .ok (.getfield 170, 3) := by decide +kernel
theorem dX11_layCurve_94 : decode cX11_layCurve 94 = .ok (.iload 6, 2) := by decide +kernel
theorem dX11_layCurve_96 : decode cX11_layCurve 96 = .ok (.iastore, 1) := by decide +kernel
theorem dX11_layCurve_97 : decode cX11_layCurve 97 = .ok (.aload_n 0, 1) := by decide +kernel
theorem dX11_layCurve_98 : decode cX11_layCurve 98 = .ok (.dup, 1) := by decide +kernel
theorem dX11_layCurve_99 : decode cX11_layCurve 99 = .ok (.getfield 170, 3) := by decide +kernel
theorem dX11_layCurve_102 : decode cX11_layCurve 102 = .ok (.iconst 1, 1) := by decide +kernel
theorem dX11_layCurve_103 : decode cX11_layCurve 103 = .ok (.iadd, 1) := by decide +kernel
theorem dX11_layCurve_104 : decode cX11_layCurve 104 = .ok (.putfield 170, 3) := by decide +kernel
theorem dX11_layCurve_107 : decode cX11_layCurve 107 = .ok (.aload_n 0, 1) := by decide +kernel
theorem dX11_layCurve_108 : decode cX11_layCurve 108 = .ok (.iload 7, 2) := by decide +kernel
theorem dX11_layCurve_110 : decode cX11_layCurve 110 = .ok (.putfield 173, 3) := by decide +kernel
theorem dX11_layCurve_113 : decode cX11_layCurve 113 = .ok (.iload 6, 2) := by decide +kernel
theorem dX11_layCurve_115 : decode cX11_layCurve 115 = .ok (.iload_n 3, 1) := by decide +kernel
theorem dX11_layCurve_116 : decode cX11_layCurve 116 = .ok (.if_icmp .eq 7, 3) := by decide +kernel
theorem dX11_layCurve_119 : decode cX11_layCurve 119 = .ok (.iconst 1, 1) := by decide +kernel
theorem dX11_layCurve_120 : decode cX11_layCurve 120 = .ok (.goto 4, 3) := by decide +kernel
theorem dX11_layCurve_123 : decode cX11_layCurve 123 = .ok (.iconst 0, 1) := by decide +kernel
theorem dX11_layCurve_124 : decode cX11_layCurve 124 = .ok (.istore 5, 2) := by decide +kernel
theorem dX11_layCurve_126 : decode cX11_layCurve 126 = .ok (.iload 6, 2) := by decide +kernel
theorem dX11_layCurve_128 : decode cX11_layCurve 128 = .ok (.iload 4, 2) := by decide +kernel
theorem dX11_layCurve_130 : decode cX11_layCurve 130 = .ok (.iadd, 1) := by decide +kernel
theorem dX11_layCurve_131 : decode cX11_layCurve 131 = .ok (.istore 6, 2) := by decide +kernel
theorem dX11_layCurve_133 : decode cX11_layCurve 133 = .ok (.goto (-105), 3) := by decide +kernel
theorem dX11_layCurve_136 : decode cX11_layCurve 136 = .ok (.return_, 1) := by decide +kernel
theorem dX11_jumps_0 : decode cX11_jumps 0 = .ok (.iload_n 1, 1) := by decide +kernel
theorem dX11_jumps_1 : decode cX11_jumps 1 = .ok (.iload_n 2, 1) := by decide +kernel
theorem dX11_jumps_2 : decode cX11_jumps 2 = .ok (.invokestatic 124, 3) := by decide +kernel
theorem dX11_jumps_5 : decode cX11_jumps 5 = .ok (.ifCond .eq 15, 3) := by decide +kernel
theorem dX11_jumps_8 : decode cX11_jumps 8 = .ok (.iload_n 3, 1) := by decide +kernel
theorem dX11_jumps_9 : decode cX11_jumps 9 = .ok (.i2l, 1) := by decide +kernel
theorem dX11_jumps_10 : decode cX11_jumps 10 = .ok (.lconst 0, 1) := by decide +kernel
theorem dX11_jumps_11 : decode cX11_jumps 11 = .ok (.ldc2_w 122, 3) := by decide +kernel
theorem dX11_jumps_14 : decode cX11_jumps 14 = .ok (.invokestatic 65, 3) := by decide +kernel
theorem dX11_jumps_17 : decode cX11_jumps 17 = .ok (.ifCond .ne 6, 3) := by decide +kernel
theorem dX11_jumps_20 : decode cX11_jumps 20 = .ok (.bipush (-2), 2) := by decide +kernel
theorem dX11_jumps_22 : decode cX11_jumps 22 = .ok (.ireturn, 1) := by decide +kernel
theorem dX11_jumps_23 : decode cX11_jumps 23 = .ok (.aload_n 0, 1) := by decide +kernel
theorem dX11_jumps_24 : decode cX11_jumps 24 = .ok (.iload_n 1, 1) := by decide +kernel
theorem dX11_jumps_25 : decode cX11_jumps 25 = .ok (.iload_n 2, 1) := by decide +kernel
theorem dX11_jumps_26 : decode cX11_jumps 26 = .ok (.iload_n 3, 1) := by decide +kernel
theorem dX11_jumps_27 : decode cX11_jumps 27 = .ok (.invokevirtual 176, 3) := by decide +kernel
theorem dX11_jumps_30 : decode cX11_jumps 30 = .ok (.aload_n 0, 1) := by decide +kernel
theorem dX11_jumps_31 : decode cX11_jumps 31 = .ok (.getfield 170, 3) := by decide +kernel
theorem dX11_jumps_34 : decode cX11_jumps 34 = .ok (.ireturn, 1) := by decide +kernel
theorem dX11_jump_0 : decode cX11_jump 0 = .ok (.iload_n 1, 1) := by decide +kernel
theorem dX11_jump_1 : decode cX11_jump 1 = .ok (.iload_n 2, 1) := by decide +kernel
theorem dX11_jump_2 : decode cX11_jump 2 = .ok (.invokestatic 124, 3) := by decide +kernel
theorem dX11_jump_5 : decode cX11_jump 5 = .ok (.ifCond .eq 15, 3) := by decide +kernel
theorem dX11_jump_8 : decode cX11_jump 8 = .ok (.iload_n 3, 1) := by decide +kernel
theorem dX11_jump_9 : decode cX11_jump 9 = .ok (.i2l, 1) := by decide +kernel
theorem dX11_jump_10 : decode cX11_jump 10 = .ok (.lconst 0, 1) := by decide +kernel
theorem dX11_jump_11 : decode cX11_jump 11 = .ok (.ldc2_w 122, 3) := by decide +kernel
theorem dX11_jump_14 : decode cX11_jump 14 = .ok (.invokestatic 65, 3) := by decide +kernel
theorem dX11_jump_17 : decode cX11_jump 17 = .ok (.ifCond .ne 6, 3) := by decide +kernel
theorem dX11_jump_20 : decode cX11_jump 20 = .ok (.bipush (-2), 2) := by decide +kernel
theorem dX11_jump_22 : decode cX11_jump 22 = .ok (.ireturn, 1) := by decide +kernel
theorem dX11_jump_23 : decode cX11_jump 23 = .ok (.aload_n 0, 1) := by decide +kernel
theorem dX11_jump_24 : decode cX11_jump 24 = .ok (.iload_n 1, 1) := by decide +kernel
theorem dX11_jump_25 : decode cX11_jump 25 = .ok (.iload_n 2, 1) := by decide +kernel
theorem dX11_jump_26 : decode cX11_jump 26 = .ok (.iload_n 3, 1) := by decide +kernel
theorem dX11_jump_27 : decode cX11_jump 27 = .ok (.invokevirtual 176, 3) := by decide +kernel
