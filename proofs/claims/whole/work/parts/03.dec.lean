theorem dX10_init_0 : decode cX10_init 0 = .ok (.aload_n 0, 1) := by decide +kernel
theorem dX10_init_1 : decode cX10_init 1 = .ok (.invokespecial 1, 3) := by decide +kernel
theorem dX10_init_4 : decode cX10_init 4 = .ok (.aload_n 0, 1) := by decide +kernel
theorem dX10_init_5 : decode cX10_init 5 = .ok (.new 7, 3) := by decide +kernel
theorem dX10_init_8 : decode cX10_init 8 = .ok (.dup, 1) := by decide +kernel
theorem dX10_init_9 : decode cX10_init 9 = .ok (.invokespecial 9, 3) := by decide +kernel
theorem dX10_init_12 : decode cX10_init 12 = .ok (.putfield 10, 3) := by decide +kernel
theorem dX10_init_15 : decode cX10_init 15 = .ok (.aload_n 0, 1) := by decide +kernel
theorem dX10_init_16 : decode cX10_init 16 = .ok (.new 16, 3) := by decide +kernel
theorem dX10_init_19 : decode cX10_init 19 = .ok (.dup, 1) := by decide +kernel
theorem dX10_init_20 : decode cX10_init 20 = .ok (.invokespecial 18, 3) := by decide +kernel
theorem dX10_init_23 : decode cX10_init 23 = .ok (.putfield 19, 3) := by decide +kernel
theorem dX10_init_26 : decode cX10_init 26 = .ok (.aload_n 0, 1) := by decide +kernel
theorem dX10_init_27 : decode cX10_init 27 = .ok (.new 23, 3) := by decide +kernel
theorem dX10_init_30 : decode cX10_init 30 = .ok (.dup, 1) := by decide +kernel
theorem dX10_init_31 : decode cX10_init 31 = .ok (.invokespecial 25, 3) := by decide +kernel
theorem dX10_init_34 : decode cX10_init 34 = .ok (.putfield 26, 3) := by decide +kernel
theorem dX10_init_37 : decode cX10_init 37 = .ok (.aload_n 0, 1) := by decide +kernel
theorem dX10_init_38 : decode cX10_init 38 = .ok (.new 30, 3) := by decide +kernel
theorem dX10_init_41 : decode cX10_init 41 = .ok (.dup, 1) := by decide +kernel
theorem dX10_init_42 : decode cX10_init 42 = .ok (.invokespecial 32, 3) := by decide +kernel
theorem dX10_init_45 : decode cX10_init 45 = .ok (.putfield 33, 3) := by decide +kernel
theorem dX10_init_48 : decode cX10_init 48 = .ok (.aload_n 0, 1) := by decide +kernel
theorem dX10_init_49 : decode cX10_init 49 = .ok (.new 37, 3) := by decide +kernel
theorem dX10_init_52 : decode cX10_init 52 = .ok (.dup, 1) := by decide +kernel
theorem dX10_init_53 : decode cX10_init 53 = .ok (.invokespecial 39, 3) := by decide +kernel
theorem dX10_init_56 : decode cX10_init 56 = .ok (.putfield 40, 3) := by decide +kernel
theorem dX10_init_59 : decode cX10_init 59 = .ok (.aload_n 0, 1) := by decide +kernel
theorem dX10_init_60 : decode cX10_init 60 = .ok (.new 44, 3) := by decide +kernel
theorem dX10_init_63 : decode cX10_init 63 = .ok (.dup, 1) := by decide +kernel
theorem dX10_init_64 : decode cX10_init 64 = .ok (.invokespecial 46, 3) := by decide +kernel
theorem dX10_init_67 : decode cX10_init 67 = .ok (.putfield 47, 3) := by decide +kernel
theorem dX10_init_70 : decode cX10_init 70 = .ok (.aload_n 0, 1) := by decide +kernel
theorem dX10_init_71 : decode cX10_init 71 = .ok (.new 51, 3) := by decide +kernel
theorem dX10_init_74 : decode cX10_init 74 = .ok (.dup, 1) := by decide +kernel
theorem dX10_init_75 : decode cX10_init 75 = .ok (.invokespecial 53, 3) := by decide +kernel
theorem dX10_init_78 : decode cX10_init 78 = .ok (.putfield 54, 3) := by decide +kernel
theorem dX10_init_81 : decode cX10_init 81 = .ok (.aload_n 0, 1) := by decide +kernel
theorem dX10_init_82 : decode cX10_init 82 = .ok (.new 58, 3) := by decide +kernel
theorem dX10_init_85 : decode cX10_init 85 = .ok (.dup, 1) := by decide +kernel
theorem dX10_init_86 : decode cX10_init 86 = .ok (.invokespecial 60, 3) := by decide +kernel
theorem dX10_init_89 : decode cX10_init 89 = .ok (.putfield 61, 3) := by decide +kernel
theorem dX10_init_92 : decode cX10_init 92 = .ok (.aload_n 0, 1) := by decide +kernel
theorem dX10_init_93 : decode cX10_init 93 = .ok (.new 65, 3) := by decide +kernel
theorem dX10_init_96 : decode cX10_init 96 = .ok (.dup, 1) := by decide +kernel
theorem dX10_init_97 : decode cX10_init 97 = .ok (.invokespecial 67, 3) := by decide +kernel
theorem dX10_init_100 : decode cX10_init 100 = .ok (.putfield 68, 3) := by decide +kernel
theorem dX10_init_103 : decode cX10_init 103 = .ok (.aload_n 0, 1) := by decide +kernel
theorem dX10_init_104 : decode cX10_init 104 = .ok (.new 72, 3) := by decide +kernel
theorem dX10_init_107 : decode cX10_init 107 = .ok (.dup, 1) := by decide +kernel
theorem dX10_init_108 : decode cX10_init 108 = .ok (.invokespecial 74, 3) := by decide +kernel
theorem dX10_init_111 : decode cX10_init 111 = .ok (.putfield 75, 3) := by decide +kernel
theorem dX10_init_114 : decode cX10_init 114 = .ok (.aload_n 0, 1) := by decide +kernel
theorem dX10_init_115 : decode cX10_init 115 = .ok (.iconst 2, 1) := by decide +kernel
theorem dX10_init_116 : decode cX10_init 116 = .ok (.anewarray 58, 3) := by decide +kernel
theorem dX10_init_119 : decode cX10_init 119 = .ok (.dup, 1) := by decide +kernel
theorem dX10_init_120 : decode cX10_init 120 = .ok (.iconst 0, 1) := by decide +kernel
theorem dX10_init_121 : decode cX10_init 121 = .ok (.new 58, 3) := by decide +kernel
theorem dX10_init_124 : decode cX10_init 124 = .ok (.dup, 1) := by decide +kernel
theorem dX10_init_125 : decode cX10_init 125 = .ok (.invokespecial 60, 3) := by decide +kernel
theorem dX10_init_128 : decode cX10_init 128 = .ok (.aastore, 1) := by decide +kernel
theorem dX10_init_129 : decode cX10_init 129 = .ok (.dup, 1) := by decide +kernel
theorem dX10_init_130 : decode cX10_init 130 = .ok (.iconst 1, 1) := by decide +kernel
theorem dX10_init_131 : decode cX10_init 131 = .ok (.new 58, 3) := by decide +kernel
theorem dX10_init_134 : decode cX10_init 134 = .ok (.dup, 1) := by decide +kernel
theorem dX10_init_135 : decode cX10_init 135 = .ok (.invokespecial 60, 3) := by decide +kernel
theorem dX10_init_138 : decode cX10_init 138 = .ok (.aastore, 1) := by decide +kernel
theorem dX10_init_139 : decode cX10_init 139 = .ok (.putfield 79, 3) := by decide +kernel
theorem dX10_init_142 : decode cX10_init 142 = .ok (.return_, 1) := by decide +kernel
theorem dX10_write_0 : decode cX10_write 0 = .ok (.iload_n 1, 1) := by decide +kernel
theorem dX10_write_1 : decode cX10_write 1 = .ok (.iconst 1, 1) := by decide +kernel
theorem dX10_write_2 : decode cX10_write 2 = .ok (.bipush 8, 2) := by decide +kernel
theorem dX10_write_4 : decode cX10_write 4 = .ok (.invokestatic 83, 3) := by decide +kernel
theorem dX10_write_7 : decode cX10_write 7 = .ok (.ifCond .ne 6, 3) := by decide +kernel
theorem dX10_write_10 : decode cX10_write 10 = .ok (.bipush (-2), 2) := by decide +kernel
theorem dX10_write_12 : decode cX10_write 12 = .ok (.ireturn, 1) := by decide +kernel
theorem dX10_write_13 : decode cX10_write 13 = .ok (.aload_n 0, 1) := by decide +kernel
theorem dX10_write_14 : decode cX10_write 14 = .ok (.getfield 10, 3) := by decide +kernel
theorem dX10_write_17 : decode cX10_write 17 = .ok (.iload_n 1, 1) := by decide +kernel
theorem dX10_write_18 : decode cX10_write 18 = .ok (.invokevirtual 87, 3) := by decide +kernel
theorem dX10_write_21 : decode cX10_write 21 = .ok (.ifCond .ne 6, 3) := by decide +kernel
theorem dX10_write_24 : decode cX10_write 24 = .ok (.bipush (-4), 2) := by decide +kernel
theorem dX10_write_26 : decode cX10_write 26 = .ok (.ireturn, 1) := by decide +kernel
theorem dX10_write_27 : decode cX10_write 27 = .ok (.aload_n 0, 1) := by decide +kernel
theorem dX10_write_28 : decode cX10_write 28 = .ok (.getfield 10, 3) := by decide +kernel
theorem dX10_write_31 : decode cX10_write 31 = .ok (.iload_n 1, 1) := by decide +kernel
theorem dX10_write_32 : decode cX10_write 32 = .ok (.lload_n 2, 1) := by decide +kernel
theorem dX10_write_33 : decode cX10_write 33 = .ok (.invokevirtual 91, 3) := by decide +kernel
theorem dX10_write_36 : decode cX10_write 36 = .ok (.aload_n 0, 1) := by decide +kernel
theorem dX10_write_37 : decode cX10_write 37 = .ok (.getfield 10, 3) := by decide +kernel
theorem dX10_write_40 : decode cX10_write 40 = .ok (.getfield 95, 3) := by decide +kernel
theorem dX10_write_43 : decode cX10_write 43 = .ok (.ireturn, 1) := by decide +kernel
theorem dX10_wipe_0 : decode cX10_wipe 0 = .ok (.aload_n 0, 1) := by decide +kernel
theorem dX10_wipe_1 : decode cX10_wipe 1 = .ok (.getfield 10, 3) := by decide +kernel
theorem dX10_wipe_4 : decode cX10_wipe 4 = .ok (.getfield 95, 3) := by decide +kernel
theorem dX10_wipe_7 : decode cX10_wipe 7 = .ok (.istore_n 1, 1) := by decide +kernel
theorem dX10_wipe_8 : decode cX10_wipe 8 = .ok (.aload_n 0, 1) := by decide +kernel
theorem dX10_wipe_9 : decode cX10_wipe 9 = .ok (.getfield 10, 3) := by decide +kernel
theorem dX10_wipe_12 : decode cX10_wipe 12 = .ok (.iconst 0, 1) := by decide +kernel
theorem dX10_wipe_13 : decode cX10_wipe 13 = .ok (.putfield 95, 3) := by decide +kernel
theorem dX10_wipe_16 : decode cX10_wipe 16 = .ok (.iload_n 1, 1) := by decide +kernel
theorem dX10_wipe_17 : decode cX10_wipe 17 = .ok (.ireturn, 1) := by decide +kernel
theorem dX10_fault_0 : decode cX10_fault 0 = .ok (.iload_n 1, 1) := by decide +kernel
theorem dX10_fault_1 : decode cX10_fault 1 = .ok (.ifCond .eq 17, 3) := by decide +kernel
theorem dX10_fault_4 : decode cX10_fault 4 = .ok (.aload_n 0, 1) := by decide +kernel
theorem dX10_fault_5 : decode cX10_fault 5 = .ok (.getfield 26, 3) := by decide +kernel
theorem dX10_fault_8 : decode cX10_fault 8 = .ok (.aload_n 0, 1) := by decide +kernel
theorem dX10_fault_9 : decode cX10_fault 9 = .ok (.getfield 10, 3) := by decide +kernel
theorem dX10_fault_12 : decode cX10_fault 12 = .ok (.invokevirtual 99, 3) := by decide +kernel
theorem dX10_fault_15 : decode cX10_fault 15 = .ok (.goto 14, 3) := by decide +kernel
theorem dX10_fault_18 : decode cX10_fault 18 = .ok (.aload_n 0, 1) := by decide +kernel
theorem dX10_fault_19 : decode cX10_fault 19 = .ok (.getfield 19, 3) := by decide +kernel
theorem dX10_fault_22 : decode cX10_fault 22 = .ok (.aload_n 0, 1) := by decide +kernel
theorem dX10_fault_23 : decode cX10_fault 23 = .ok (.getfield 10, 3) := by decide +kernel
theorem dX10_fault_26 : decode cX10_fault 26 = .ok (.invokevirtual 103, 3) := by decide +kernel
theorem dX10_fault_29 : decode cX10_fault 29 = .ok (.ireturn, 1) := by decide +kernel
theorem dX10_law_0 : decode cX10_law 0 = .ok (.aload_n 0, 1) := by decide +kernel
theorem dX10_law_1 : decode cX10_law 1 = .ok (.getfield 19, 3) := by decide +kernel
theorem dX10_law_4 : decode cX10_law 4 = .ok (.aload_n 0, 1) := by decide +kernel
theorem dX10_law_5 : decode cX10_law 5 = .ok (.getfield 10, 3) := by decide +kernel
theorem dX10_law_8 : decode cX10_law 8 = .ok (.invokevirtual 103, 3) := by decide +kernel
theorem dX10_law_11 : decode cX10_law 11 = .ok (.bipush (-9), 2) := by decide +kernel
theorem dX10_law_13 : decode cX10_law 13 = .ok (.if_icmp .eq 6, 3) := by decide +kernel
theorem dX10_law_16 : decode cX10_law 16 = .ok (.bipush (-3), 2) := by decide +kernel
theorem dX10_law_18 : decode cX10_law 18 = .ok (.ireturn, 1) := by decide +kernel
theorem dX10_law_19 : decode cX10_law 19 = .ok (.aload_n 0, 1) := by decide +kernel
theorem dX10_law_20 : decode cX10_law 20 = .ok (.getfield 19, 3) := by decide +kernel
theorem dX10_law_23 : decode cX10_law 23 = .ok (.aload_n 0, 1) := by decide +kernel
theorem dX10_law_24 : decode cX10_law 24 = .ok (.getfield 33, 3) := by decide +kernel
theorem dX10_law_27 : decode cX10_law 27 = .ok (.invokevirtual 104, 3) := by decide +kernel
theorem dX10_law_30 : decode cX10_law 30 = .ok (.aload_n 0, 1) := by decide +kernel
theorem dX10_law_31 : decode cX10_law 31 = .ok (.getfield 19, 3) := by decide +kernel
theorem dX10_law_34 : decode cX10_law 34 = .ok (.getfield 108, 3) := by decide +kernel
theorem dX10_law_37 : decode cX10_law 37 = .ok (.ireturn, 1) := by decide +kernel
theorem dX10_lawful_0 : decode cX10_lawful 0 = .ok (.iload_n 1, 1) := by decide +kernel
theorem dX10_lawful_1 : decode cX10_lawful 1 = .ok (.iconst 0, 1) := by decide +kernel
theorem dX10_lawful_2 : decode cX10_lawful 2 = .ok (.bipush 11, 2) := by decide +kernel
theorem dX10_lawful_4 : decode cX10_lawful 4 = .ok (.invokestatic 83, 3) := by decide +kernel
theorem dX10_lawful_7 : decode cX10_lawful 7 = .ok (.ifCond .ne 6, 3) := by decide +kernel
theorem dX10_lawful_10 : decode cX10_lawful 10 = .ok (.bipush (-2), 2) := by decide +kernel
theorem dX10_lawful_12 : decode cX10_lawful 12 = .ok (.ireturn, 1) := by decide +kernel
theorem dX10_lawful_13 : decode cX10_lawful 13 = .ok (.aload_n 0, 1) := by decide +kernel
theorem dX10_lawful_14 : decode cX10_lawful 14 = .ok (.getfield 33, 3) := by decide +kernel
theorem dX10_lawful_17 : decode cX10_lawful 17 = .ok (.getfield 111, 3) := by decide +kernel
theorem dX10_lawful_20 : decode cX10_lawful 20 = .ok (.iload_n 1, 1) := by decide +kernel
theorem dX10_lawful_21 : decode cX10_lawful 21 = .ok (.iaload, 1) := by decide +kernel
theorem dX10_lawful_22 : decode cX10_lawful 22 = .ok (.ireturn, 1) := by decide +kernel
theorem dX10_story_0 : decode cX10_story 0 = .ok (.iload_n 1, 1) := by decide +kernel
theorem dX10_story_1 : decode cX10_story 1 = .ok (.invokestatic 115, 3) := by decide +kernel
theorem dX10_story_4 : decode cX10_story 4 = .ok (.ifCond .ne 5, 3) := by decide +kernel
theorem dX10_story_7 : decode cX10_story 7 = .ok (.iconst (-1), 1) := by decide +kernel
theorem dX10_story_8 : decode cX10_story 8 = .ok (.ireturn, 1) := by decide +kernel
theorem dX10_story_9 : decode cX10_story 9 = .ok (.aload_n 0, 1) := by decide +kernel
theorem dX10_story_10 : decode cX10_story 10 = .ok (.getfield 26, 3) := by decide +kernel
theorem dX10_story_13 : decode cX10_story 13 = .ok (.aload_n 0, 1) := by decide +kernel
theorem dX10_story_14 : decode cX10_story 14 = .ok (.getfield 10, 3) := by decide +kernel
theorem dX10_story_17 : decode cX10_story 17 = .ok (.invokevirtual 99, 3) := by decide +kernel
theorem dX10_story_20 : decode cX10_story 20 = .ok (.bipush (-9), 2) := by decide +kernel
theorem dX10_story_22 : decode cX10_story 22 = .ok (.if_icmp .eq 6, 3) := by decide +kernel
theorem dX10_story_25 : decode cX10_story 25 = .ok (.bipush (-3), 2) := by decide +kernel
theorem dX10_story_27 : decode cX10_story 27 = .ok (.ireturn, 1) := by decide +kernel
theorem dX10_story_28 : decode cX10_story 28 = .ok (.aload_n 0, 1) := by decide +kernel
theorem dX10_story_29 : decode cX10_story 29 = .ok (.getfield 26, 3) := by decide +kernel
theorem dX10_story_32 : decode cX10_story 32 = .ok (.aload_n 0, 1) := by decide +kernel
theorem dX10_story_33 : decode cX10_story 33 = .ok (.getfield 54, 3) := by decide +kernel
theorem dX10_story_36 : decode cX10_story 36 = .ok (.iload_n 1, 1) := by decide +kernel
theorem dX10_story_37 : decode cX10_story 37 = .ok (.invokevirtual 118, 3) := by decide +kernel
theorem dX10_story_40 : decode cX10_story 40 = .ok (.aload_n 0, 1) := by decide +kernel
theorem dX10_story_41 : decode cX10_story 41 = .ok (.getfield 26, 3) := by decide +kernel
theorem dX10_story_44 : decode cX10_story 44 = .ok (.getfield 121, 3) := by decide +kernel
theorem dX10_story_47 : decode cX10_story 47 = .ok (.ireturn, 1) := by decide +kernel
theorem dX10_lived_0 : decode cX10_lived 0 = .ok (.iload_n 1, 1) := by decide +kernel
theorem dX10_lived_1 : decode cX10_lived 1 = .ok (.invokestatic 115, 3) := by decide +kernel
theorem dX10_lived_4 : decode cX10_lived 4 = .ok (.ifCond .ne 5, 3) := by decide +kernel
theorem dX10_lived_7 : decode cX10_lived 7 = .ok (.iconst (-1), 1) := by decide +kernel
theorem dX10_lived_8 : decode cX10_lived 8 = .ok (.ireturn, 1) := by decide +kernel
theorem dX10_lived_9 : decode cX10_lived 9 = .ok (.iload_n 2, 1) := by decide +kernel
theorem dX10_lived_10 : decode cX10_lived 10 = .ok (.invokestatic 124, 3) := by decide +kernel
theorem dX10_lived_13 : decode cX10_lived 13 = .ok (.ifCond .eq 10, 3) := by decide +kernel
theorem dX10_lived_16 : decode cX10_lived 16 = .ok (.iload_n 3, 1) := by decide +kernel
theorem dX10_lived_17 : decode cX10_lived 17 = .ok (.invokestatic 127, 3) := by decide +kernel
theorem dX10_lived_20 : decode cX10_lived 20 = .ok (.ifCond .ne 6, 3) := by decide +kernel
theorem dX10_lived_23 : decode cX10_lived 23 = .ok (.bipush (-2), 2) := by decide +kernel
theorem dX10_lived_25 : decode cX10_lived 25 = .ok (.ireturn, 1) := by decide +kernel
theorem dX10_lived_26 : decode cX10_lived 26 = .ok (.iconst 0, 1) := by decide +kernel
theorem dX10_lived_27 : decode cX10_lived 27 = .ok (.istore 4, 2) := by decide +kernel
theorem dX10_lived_29 : decode cX10_lived 29 = .ok (.iload_n 2, 1) := by decide +kernel
theorem dX10_lived_30 : decode cX10_lived 30 = .ok (.iload_n 3, 1) := by decide +kernel
theorem dX10_lived_31 : decode cX10_lived 31 = .ok (.invokestatic 130, 3) := by decide +kernel
theorem dX10_lived_34 : decode cX10_lived 34 = .ok (.istore 5, 2) := by decide +kernel
theorem dX10_lived_36 : decode cX10_lived 36 = .ok (.iconst 0, 1) := by decide +kernel
theorem dX10_lived_37 : decode cX10_lived 37 = .ok (.istore 6, 2) := by decide +kernel
theorem dX10_lived_39 : decode cX10_lived 39 = .ok (.iload 6, 2) := by decide +kernel
theorem dX10_lived_41 : decode cX10_lived 41 = .ok (.bipush 100, 2) := by decide +kernel
theorem dX10_lived_43 : decode cX10_lived 43 = .ok (.if_icmp .ge 49, 3) := by decide +kernel
theorem dX10_lived_46 : decode cX10_lived 46 = .ok (.iload 5, 2) := by decide +kernel
theorem dX10_lived_48 : decode cX10_lived 48 = .ok (.invokestatic 134, 3) := by decide +kernel
theorem dX10_lived_51 : decode cX10_lived 51 = .ok (.istore 7, 2) := by decide +kernel
theorem dX10_lived_53 : decode cX10_lived 53 = .ok (.aload_n 0, 1) := by decide +kernel
theorem dX10_lived_54 : decode cX10_lived 54 = .ok (.getfield 54, 3) := by decide +kernel
theorem dX10_lived_57 : decode cX10_lived 57 = .ok (.iload_n 1, 1) := by decide +kernel
theorem dX10_lived_58 : decode cX10_lived 58 = .ok (.iload 6, 2) := by decide +kernel
theorem dX10_lived_60 : decode cX10_lived 60 = .ok (.iload 7, 2) := by decide +kernel
theorem dX10_lived_62 : decode cX10_lived 62 = .ok (.invokevirtual 138, 3) := by decide +kernel
theorem dX10_lived_65 : decode cX10_lived 65 = .ok (.iload 7, 2) := by decide +kernel
theorem dX10_lived_67 : decode cX10_lived 67 = .ok (.bipush 63, 2) := by decide +kernel
theorem dX10_lived_69 : decode cX10_lived 69 = .ok (.if_icmp .ne 6, 3) := by decide +kernel
theorem dX10_lived_72 : decode cX10_lived 72 = .ok (.iinc 4 1, 3) := by decide +kernel
theorem dX10_lived_75 : decode cX10_lived 75 = .ok (.aload_n 0, 1) := by decide +kernel
theorem dX10_lived_76 : decode cX10_lived 76 = .ok (.getfield 33, 3) := by decide +kernel
theorem dX10_lived_79 : decode cX10_lived 79 = .ok (.iload 5, 2) := by decide +kernel
theorem dX10_lived_81 : decode cX10_lived 81 = .ok (.invokevirtual 142, 3) := by decide +kernel
theorem dX10_lived_84 : decode cX10_lived 84 = .ok (.istore 5, 2) := by decide +kernel
theorem dX10_lived_86 : decode cX10_lived 86 = .ok (.iinc 6 1, 3) := by decide +kernel
theorem dX10_lived_89 : decode cX10_lived 89 = .ok (.goto (-50), 3) := by decide +kernel
theorem dX10_lived_92 : decode cX10_lived 92 = .ok (.iload 4, 2) := by decide +kernel
theorem dX10_lived_94 : decode cX10_lived 94 = .ok (.ireturn, 1) := by decide +kernel
theorem dX10_at_0 : decode cX10_at 0 = .ok (.iload_n 1, 1) := by decide +kernel
theorem dX10_at_1 : decode cX10_at 1 = .ok (.invokestatic 115, 3) := by decide +kernel
theorem dX10_at_4 : decode cX10_at 4 = .ok (.ifCond .ne 5, 3) := by decide +kernel
theorem dX10_at_7 : decode cX10_at 7 = .ok (.iconst (-1), 1) := by decide +kernel
theorem dX10_at_8 : decode cX10_at 8 = .ok (.ireturn, 1) := by decide +kernel
theorem dX10_at_9 : decode cX10_at 9 = .ok (.iload_n 2, 1) := by decide +kernel
theorem dX10_at_10 : decode cX10_at 10 = .ok (.invokestatic 145, 3) := by decide +kernel
theorem dX10_at_13 : decode cX10_at 13 = .ok (.ifCond .ne 6, 3) := by decide +kernel
theorem dX10_at_16 : decode cX10_at 16 = .ok (.bipush (-2), 2) := by decide +kernel
theorem dX10_at_18 : decode cX10_at 18 = .ok (.ireturn, 1) := by decide +kernel
theorem dX10_at_19 : decode cX10_at 19 = .ok (.aload_n 0, 1) := by decide +kernel
theorem dX10_at_20 : decode cX10_at 20 = .ok (.getfield 54, 3) := by decide +kernel
theorem dX10_at_23 : decode cX10_at 23 = .ok (.iload_n 1, 1) := by decide +kernel
theorem dX10_at_24 : decode cX10_at 24 = .ok (.iload_n 2, 1) := by decide +kernel
theorem dX10_at_25 : decode cX10_at 25 = .ok (.invokevirtual 148, 3) := by decide +kernel
theorem dX10_at_28 : decode cX10_at 28 = .ok (.ireturn, 1) := by decide +kernel
theorem dX10_warmth_0 : decode cX10_warmth 0 = .ok (.iload_n 1, 1) := by decide +kernel
theorem dX10_warmth_1 : decode cX10_warmth 1 = .ok (.invokestatic 151, 3) := by decide +kernel
theorem dX10_warmth_4 : decode cX10_warmth 4 = .ok (.ifCond .ne 5, 3) := by decide +kernel
theorem dX10_warmth_7 : decode cX10_warmth 7 = .ok (.iconst (-1), 1) := by decide +kernel
theorem dX10_warmth_8 : decode cX10_warmth 8 = .ok (.ireturn, 1) := by decide +kernel
theorem dX10_warmth_9 : decode cX10_warmth 9 = .ok (.iload_n 2, 1) := by decide +kernel
theorem dX10_warmth_10 : decode cX10_warmth 10 = .ok (.invokestatic 124, 3) := by decide +kernel
theorem dX10_warmth_13 : decode cX10_warmth 13 = .ok (.ifCond .eq 10, 3) := by decide +kernel
theorem dX10_warmth_16 : decode cX10_warmth 16 = .ok (.iload_n 3, 1) := by decide +kernel
theorem dX10_warmth_17 : decode cX10_warmth 17 = .ok (.invokestatic 127, 3) := by decide +kernel
theorem dX10_warmth_20 : decode cX10_warmth 20 = .ok (.ifCond .ne 6, 3) := by decide +kernel
theorem dX10_warmth_23 : decode cX10_warmth 23 = .ok (.bipush (-2), 2) := by decide +kernel
theorem dX10_warmth_25 : decode cX10_warmth 25 = .ok (.ireturn, 1) := by decide +kernel
theorem dX10_warmth_26 : decode cX10_warmth 26 = .ok (.aload_n 0, 1) := by decide +kernel
theorem dX10_warmth_27 : decode cX10_warmth 27 = .ok (.getfield 33, 3) := by decide +kernel
theorem dX10_warmth_30 : decode cX10_warmth 30 = .ok (.iload_n 1, 1) := by decide +kernel
theorem dX10_warmth_31 : decode cX10_warmth 31 = .ok (.iload_n 2, 1) := by decide +kernel
theorem dX10_warmth_32 : decode cX10_warmth 32 = .ok (.iload_n 3, 1) := by decide +kernel
theorem dX10_warmth_33 : decode cX10_warmth 33 = .ok (.invokevirtual 154, 3) := by decide +kernel
theorem dX10_warmth_36 : decode cX10_warmth 36 = .ok (.ireturn, 1) := by decide +kernel
theorem dX10_round_0 : decode cX10_round 0 = .ok (.iload_n 1, 1) := by decide +kernel
theorem dX10_round_1 : decode cX10_round 1 = .ok (.invokestatic 124, 3) := by decide +kernel
theorem dX10_round_4 : decode cX10_round 4 = .ok (.ifCond .eq 10, 3) := by decide +kernel
theorem dX10_round_7 : decode cX10_round 7 = .ok (.iload_n 2, 1) := by decide +kernel
theorem dX10_round_8 : decode cX10_round 8 = .ok (.invokestatic 127, 3) := by decide +kernel
theorem dX10_round_11 : decode cX10_round 11 = .ok (.ifCond .ne 6, 3) := by decide +kernel
theorem dX10_round_14 : decode cX10_round 14 = .ok (.bipush (-2), 2) := by decide +kernel
theorem dX10_round_16 : decode cX10_round 16 = .ok (.ireturn, 1) := by decide +kernel
theorem dX10_round_17 : decode cX10_round 17 = .ok (.aload_n 0, 1) := by decide +kernel
theorem dX10_round_18 : decode cX10_round 18 = .ok (.getfield 33, 3) := by decide +kernel
theorem dX10_round_21 : decode cX10_round 21 = .ok (.iload_n 1, 1) := by decide +kernel
theorem dX10_round_22 : decode cX10_round 22 = .ok (.iload_n 2, 1) := by decide +kernel
theorem dX10_round_23 : decode cX10_round 23 = .ok (.invokestatic 130, 3) := by decide +kernel
theorem dX10_round_26 : decode cX10_round 26 = .ok (.invokevirtual 142, 3) := by decide +kernel
theorem dX10_round_29 : decode cX10_round 29 = .ok (.ireturn, 1) := by decide +kernel
theorem dX10_after_0 : decode cX10_after 0 = .ok (.iload_n 1, 1) := by decide +kernel
theorem dX10_after_1 : decode cX10_after 1 = .ok (.invokestatic 124, 3) := by decide +kernel
theorem dX10_after_4 : decode cX10_after 4 = .ok (.ifCond .eq 20, 3) := by decide +kernel
theorem dX10_after_7 : decode cX10_after 7 = .ok (.iload_n 2, 1) := by decide +kernel
theorem dX10_after_8 : decode cX10_after 8 = .ok (.invokestatic 127, 3) := by decide +kernel
theorem dX10_after_11 : decode cX10_after 11 = .ok (.ifCond .eq 13, 3) := by decide +kernel
theorem dX10_after_14 : decode cX10_after 14 = .ok (.iload_n 3, 1) := by decide +kernel
theorem dX10_after_15 : decode cX10_after 15 = .ok (.iconst 0, 1) := by decide +kernel
theorem dX10_after_16 : decode cX10_after 16 = .ok (.ldc 158, 2) := by decide +kernel
theorem dX10_after_18 : decode cX10_after 18 = .ok (.invokestatic 83, 3) := by decide +kernel
theorem dX10_after_21 : decode cX10_after 21 = .ok (.ifCond .ne 6, 3) := by decide +kernel
theorem dX10_after_24 : decode cX10_after 24 = .ok (.bipush (-2), 2) := by decide +kernel
theorem dX10_after_26 : decode cX10_after 26 = .ok (.ireturn, 1) := by decide +kernel
theorem dX10_after_27 : decode cX10_after 27 = .ok (.aload_n 0, 1) := by decide +kernel
theorem dX10_after_28 : decode cX10_after 28 = .ok (.getfield 40, 3) := by decide +kernel
theorem dX10_after_31 : decode cX10_after 31 = .ok (.aload_n 0, 1) := by decide +kernel
theorem dX10_after_32 : decode cX10_after 32 = .ok (.getfield 33, 3) := by decide +kernel
theorem dX10_after_35 : decode cX10_after 35 = .ok (.iload_n 1, 1) := by decide +kernel
theorem dX10_after_36 : decode cX10_after 36 = .ok (.iload_n 2, 1) := by decide +kernel
theorem dX10_after_37 : decode cX10_after 37 = .ok (.invokevirtual 159, 3) := by decide +kernel
theorem dX10_after_40 : decode cX10_after 40 = .ok (.aload_n 0, 1) := by decide +kernel
theorem dX10_after_41 : decode cX10_after 41 = .ok (.getfield 40, 3) := by decide +kernel
theorem dX10_after_44 : decode cX10_after 44 = .ok (.iload_n 3, 1) := by decide +kernel
theorem dX10_after_45 : decode cX10_after 45 = .ok (.invokevirtual 163, 3) := by decide +kernel
theorem dX10_after_48 : decode cX10_after 48 = .ok (.ireturn, 1) := by decide +kernel
theorem dX10_run_0 : decode cX10_run 0 = .ok (.iload_n 1, 1) := by decide +kernel
theorem dX10_run_1 : decode cX10_run 1 = .ok (.invokestatic 124, 3) := by decide +kernel
theorem dX10_run_4 : decode cX10_run 4 = .ok (.ifCond .eq 19, 3) := by decide +kernel
theorem dX10_run_7 : decode cX10_run 7 = .ok (.iload_n 2, 1) := by decide +kernel
theorem dX10_run_8 : decode cX10_run 8 = .ok (.invokestatic 127, 3) := by decide +kernel
theorem dX10_run_11 : decode cX10_run 11 = .ok (.ifCond .eq 12, 3) := by decide +kernel
theorem dX10_run_14 : decode cX10_run 14 = .ok (.iload_n 3, 1) := by decide +kernel
theorem dX10_run_15 : decode cX10_run 15 = .ok (.iconst 0, 1) := by decide +kernel
theorem dX10_run_16 : decode cX10_run 16 = .ok (.iconst 4, 1) := by decide +kernel
theorem dX10_run_17 : decode cX10_run 17 = .ok (.invokestatic 83, 3) := by decide +kernel
theorem dX10_run_20 : decode cX10_run 20 = .ok (.ifCond .ne 6, 3) := by decide +kernel
theorem dX10_run_23 : decode cX10_run 23 = .ok (.bipush (-2), 2) := by decide +kernel
theorem dX10_run_25 : decode cX10_run 25 = .ok (.ireturn, 1) := by decide +kernel
theorem dX10_run_26 : decode cX10_run 26 = .ok (.aload_n 0, 1) := by decide +kernel
theorem dX10_run_27 : decode cX10_run 27 = .ok (.getfield 40, 3) := by decide +kernel
theorem dX10_run_30 : decode cX10_run 30 = .ok (.aload_n 0, 1) := by decide +kernel
theorem dX10_run_31 : decode cX10_run 31 = .ok (.getfield 33, 3) := by decide +kernel
theorem dX10_run_34 : decode cX10_run 34 = .ok (.iload_n 1, 1) := by decide +kernel
theorem dX10_run_35 : decode cX10_run 35 = .ok (.iload_n 2, 1) := by decide +kernel
theorem dX10_run_36 : decode cX10_run 36 = .ok (.invokevirtual 159, 3) := by decide +kernel
theorem dX10_run_39 : decode cX10_run 39 = .ok (.iload_n 3, 1) := by decide +kernel
theorem dX10_run_40 : decode cX10_run 40 = .ok (.tableswitch 64 0 3 #[32, 40, 48, 56], 32) := by decide +kernel
theorem dX10_run_72 : decode cX10_run 72 = .ok (.aload_n 0, 1) := by decide +kernel
theorem dX10_run_73 : decode cX10_run 73 = .ok (.getfield 40, 3) := by decide +kernel
theorem dX10_run_76 : decode cX10_run 76 = .ok (.getfield 166, 3) := by decide +kernel
theorem dX10_run_79 : decode cX10_run 79 = .ok (.ireturn, 1) := by decide +kernel
theorem dX10_run_80 : decode cX10_run 80 = .ok (.aload_n 0, 1) := by decide +kernel
theorem dX10_run_81 : decode cX10_run 81 = .ok (.getfield 40, 3) := by decide +kernel
theorem dX10_run_84 : decode cX10_run 84 = .ok (.invokevirtual 169, 3) := by decide +kernel
theorem dX10_run_87 : decode cX10_run 87 = .ok (.ireturn, 1) := by decide +kernel
theorem dX10_run_88 : decode cX10_run 88 = .ok (.aload_n 0, 1) := by decide +kernel
theorem dX10_run_89 : decode cX10_run 89 = .ok (.getfield 40, 3) := by decide +kernel
theorem dX10_run_92 : decode cX10_run 92 = .ok (.invokevirtual 173, 3) := by decide +kernel
theorem dX10_run_95 : decode cX10_run 95 = .ok (.ireturn, 1) := by decide +kernel
theorem dX10_run_96 : decode cX10_run 96 = .ok (.aload_n 0, 1) := by decide +kernel
theorem dX10_run_97 : decode cX10_run 97 = .ok (.getfield 40, 3) := by decide +kernel
theorem dX10_run_100 : decode cX10_run 100 = .ok (.invokevirtual 176, 3) := by decide +kernel
theorem dX10_run_103 : decode cX10_run 103 = .ok (.ireturn, 1) := by decide +kernel
theorem dX10_run_104 : decode cX10_run 104 = .ok (.aload_n 0, 1) := by decide +kernel
theorem dX10_run_105 : decode cX10_run 105 = .ok (.getfield 40, 3) := by decide +kernel
theorem dX10_run_108 : decode cX10_run 108 = .ok (.invokevirtual 179, 3) := by decide +kernel
theorem dX10_run_111 : decode cX10_run 111 = .ok (.ireturn, 1) := by decide +kernel
theorem dX10_till_0 : decode cX10_till 0 = .ok (.iload_n 1, 1) := by decide +kernel
theorem dX10_till_1 : decode cX10_till 1 = .ok (.invokestatic 124, 3) := by decide +kernel
theorem dX10_till_4 : decode cX10_till 4 = .ok (.ifCond .eq 10, 3) := by decide +kernel
theorem dX10_till_7 : decode cX10_till 7 = .ok (.iload_n 2, 1) := by decide +kernel
theorem dX10_till_8 : decode cX10_till 8 = .ok (.invokestatic 127, 3) := by decide +kernel
theorem dX10_till_11 : decode cX10_till 11 = .ok (.ifCond .ne 6, 3) := by decide +kernel
theorem dX10_till_14 : decode cX10_till 14 = .ok (.bipush (-2), 2) := by decide +kernel
theorem dX10_till_16 : decode cX10_till 16 = .ok (.ireturn, 1) := by decide +kernel
theorem dX10_till_17 : decode cX10_till 17 = .ok (.aload_n 0, 1) := by decide +kernel
theorem dX10_till_18 : decode cX10_till 18 = .ok (.getfield 40, 3) := by decide +kernel
theorem dX10_till_21 : decode cX10_till 21 = .ok (.aload_n 0, 1) := by decide +kernel
theorem dX10_till_22 : decode cX10_till 22 = .ok (.getfield 33, 3) := by decide +kernel
theorem dX10_till_25 : decode cX10_till 25 = .ok (.iload_n 1, 1) := by decide +kernel
theorem dX10_till_26 : decode cX10_till 26 = .ok (.iload_n 2, 1) := by decide +kernel
theorem dX10_till_27 : decode cX10_till 27 = .ok (.invokevirtual 159, 3) := by decide +kernel
theorem dX10_till_30 : decode cX10_till 30 = .ok (.aload_n 0, 1) := by decide +kernel
theorem dX10_till_31 : decode cX10_till 31 = .ok (.getfield 40, 3) := by decide +kernel
theorem dX10_till_34 : decode cX10_till 34 = .ok (.iload_n 3, 1) := by decide +kernel
theorem dX10_till_35 : decode cX10_till 35 = .ok (.invokevirtual 182, 3) := by decide +kernel
theorem dX10_till_38 : decode cX10_till 38 = .ok (.ireturn, 1) := by decide +kernel
theorem dX10_rests_0 : decode cX10_rests 0 = .ok (.iload_n 1, 1) := by decide +kernel
theorem dX10_rests_1 : decode cX10_rests 1 = .ok (.invokestatic 127, 3) := by decide +kernel
theorem dX10_rests_4 : decode cX10_rests 4 = .ok (.ifCond .ne 6, 3) := by decide +kernel
theorem dX10_rests_7 : decode cX10_rests 7 = .ok (.bipush (-2), 2) := by decide +kernel
theorem dX10_rests_9 : decode cX10_rests 9 = .ok (.ireturn, 1) := by decide +kernel
theorem dX10_rests_10 : decode cX10_rests 10 = .ok (.iconst 0, 1) := by decide +kernel
theorem dX10_rests_11 : decode cX10_rests 11 = .ok (.istore_n 2, 1) := by decide +kernel
theorem dX10_rests_12 : decode cX10_rests 12 = .ok (.iconst 0, 1) := by decide +kernel
theorem dX10_rests_13 : decode cX10_rests 13 = .ok (.istore_n 3, 1) := by decide +kernel
theorem dX10_rests_14 : decode cX10_rests 14 = .ok (.iload_n 3, 1) := by decide +kernel
theorem dX10_rests_15 : decode cX10_rests 15 = .ok (.bipush 63, 2) := by decide +kernel
theorem dX10_rests_17 : decode cX10_rests 17 = .ok (.if_icmp .gt 24, 3) := by decide +kernel
theorem dX10_rests_20 : decode cX10_rests 20 = .ok (.aload_n 0, 1) := by decide +kernel
theorem dX10_rests_21 : decode cX10_rests 21 = .ok (.getfield 33, 3) := by decide +kernel
theorem dX10_rests_24 : decode cX10_rests 24 = .ok (.iload_n 3, 1) := by decide +kernel
theorem dX10_rests_25 : decode cX10_rests 25 = .ok (.iload_n 1, 1) := by decide +kernel
theorem dX10_rests_26 : decode cX10_rests 26 = .ok (.invokevirtual 186, 3) := by decide +kernel
theorem dX10_rests_29 : decode cX10_rests 29 = .ok (.ifCond .eq 6, 3) := by decide +kernel
theorem dX10_rests_32 : decode cX10_rests 32 = .ok (.iinc 2 1, 3) := by decide +kernel
theorem dX10_rests_35 : decode cX10_rests 35 = .ok (.iinc 3 1, 3) := by decide +kernel
theorem dX10_rests_38 : decode cX10_rests 38 = .ok (.goto (-24), 3) := by decide +kernel
theorem dX10_rests_41 : decode cX10_rests 41 = .ok (.iload_n 2, 1) := by decide +kernel
theorem dX10_rests_42 : decode cX10_rests 42 = .ok (.ireturn, 1) := by decide +kernel
theorem dX10_rest_0 : decode cX10_rest 0 = .ok (.iload_n 1, 1) := by decide +kernel
theorem dX10_rest_1 : decode cX10_rest 1 = .ok (.invokestatic 127, 3) := by decide +kernel
theorem dX10_rest_4 : decode cX10_rest 4 = .ok (.ifCond .ne 6, 3) := by decide +kernel
theorem dX10_rest_7 : decode cX10_rest 7 = .ok (.bipush (-2), 2) := by decide +kernel
theorem dX10_rest_9 : decode cX10_rest 9 = .ok (.ireturn, 1) := by decide +kernel
theorem dX10_rest_10 : decode cX10_rest 10 = .ok (.iconst 0, 1) := by decide +kernel
theorem dX10_rest_11 : decode cX10_rest 11 = .ok (.istore_n 3, 1) := by decide +kernel
theorem dX10_rest_12 : decode cX10_rest 12 = .ok (.iconst 0, 1) := by decide +kernel
theorem dX10_rest_13 : decode cX10_rest 13 = .ok (.istore 4, 2) := by decide +kernel
theorem dX10_rest_15 : decode cX10_rest 15 = .ok (.iload 4, 2) := by decide +kernel
theorem dX10_rest_17 : decode cX10_rest 17 = .ok (.bipush 63, 2) := by decide +kernel
theorem dX10_rest_19 : decode cX10_rest 19 = .ok (.if_icmp .gt 33, 3) := by decide +kernel
theorem dX10_rest_22 : decode cX10_rest 22 = .ok (.aload_n 0, 1) := by decide +kernel
theorem dX10_rest_23 : decode cX10_rest 23 = .ok (.getfield 33, 3) := by decide +kernel
theorem dX10_rest_26 : decode cX10_rest 26 = .ok (.iload 4, 2) := by decide +kernel
theorem dX10_rest_28 : decode cX10_rest 28 = .ok (.iload_n 1, 1) := by decide +kernel
theorem dX10_rest_29 : decode cX10_rest 29 = .ok (.invokevirtual 186, 3) := by decide +kernel
theorem dX10_rest_32 : decode cX10_rest 32 = .ok (.ifCond .eq 14, 3) := by decide +kernel
theorem dX10_rest_35 : decode cX10_rest 35 = .ok (.iload_n 3, 1) := by decide +kernel
theorem dX10_rest_36 : decode cX10_rest 36 = .ok (.iload_n 2, 1) := by decide +kernel
theorem dX10_rest_37 : decode cX10_rest 37 = .ok (.if_icmp .ne 6, 3) := by decide +kernel
theorem dX10_rest_40 : decode cX10_rest 40 = .ok (.iload 4, 2) := by decide +kernel
theorem dX10_rest_42 : decode cX10_rest 42 = .ok (.ireturn, 1) := by decide +kernel
theorem dX10_rest_43 : decode cX10_rest 43 = .ok (.iinc 3 1, 3) := by decide +kernel
theorem dX10_rest_46 : decode cX10_rest 46 = .ok (.iinc 4 1, 3) := by decide +kernel
theorem dX10_rest_49 : decode cX10_rest 49 = .ok (.goto (-34), 3) := by decide +kernel
theorem dX10_rest_52 : decode cX10_rest 52 = .ok (.bipush (-9), 2) := by decide +kernel
theorem dX10_rest_54 : decode cX10_rest 54 = .ok (.ireturn, 1) := by decide +kernel
theorem dX10_settle_0 : decode cX10_settle 0 = .ok (.iload_n 1, 1) := by decide +kernel
theorem dX10_settle_1 : decode cX10_settle 1 = .ok (.invokestatic 124, 3) := by decide +kernel
theorem dX10_settle_4 : decode cX10_settle 4 = .ok (.ifCond .eq 10, 3) := by decide +kernel
theorem dX10_settle_7 : decode cX10_settle 7 = .ok (.iload_n 2, 1) := by decide +kernel
theorem dX10_settle_8 : decode cX10_settle 8 = .ok (.invokestatic 127, 3) := by decide +kernel
theorem dX10_settle_11 : decode cX10_settle 11 = .ok (.ifCond .ne 6, 3) := by decide +kernel
theorem dX10_settle_14 : decode cX10_settle 14 = .ok (.bipush (-2), 2) := by decide +kernel
theorem dX10_settle_16 : decode cX10_settle 16 = .ok (.ireturn, 1) := by decide +kernel
theorem dX10_settle_17 : decode cX10_settle 17 = .ok (.aload_n 0, 1) := by decide +kernel
theorem dX10_settle_18 : decode cX10_settle 18 = .ok (.getfield 33, 3) := by decide +kernel
theorem dX10_settle_21 : decode cX10_settle 21 = .ok (.iload_n 1, 1) := by decide +kernel
theorem dX10_settle_22 : decode cX10_settle 22 = .ok (.iload_n 2, 1) := by decide +kernel
theorem dX10_settle_23 : decode cX10_settle 23 = .ok (.invokevirtual 190, 3) := by decide +kernel
theorem dX10_settle_26 : decode cX10_settle 26 = .ok (.ireturn, 1) := by decide +kernel
theorem dX10_jumps_0 : decode cX10_jumps 0 = .ok (.iload_n 1, 1) := by decide +kernel
theorem dX10_jumps_1 : decode cX10_jumps 1 = .ok (.invokestatic 124, 3) := by decide +kernel
theorem dX10_jumps_4 : decode cX10_jumps 4 = .ok (.ifCond .eq 17, 3) := by decide +kernel
theorem dX10_jumps_7 : decode cX10_jumps 7 = .ok (.iload_n 2, 1) := by decide +kernel
theorem dX10_jumps_8 : decode cX10_jumps 8 = .ok (.invokestatic 127, 3) := by decide +kernel
theorem dX10_jumps_11 : decode cX10_jumps 11 = .ok (.ifCond .eq 10, 3) := by decide +kernel
theorem dX10_jumps_14 : decode cX10_jumps 14 = .ok (.iload_n 3, 1) := by decide +kernel
theorem dX10_jumps_15 : decode cX10_jumps 15 = .ok (.invokestatic 127, 3) := by decide +kernel
theorem dX10_jumps_18 : decode cX10_jumps 18 = .ok (.ifCond .ne 6, 3) := by decide +kernel
theorem dX10_jumps_21 : decode cX10_jumps 21 = .ok (.bipush (-2), 2) := by decide +kernel
theorem dX10_jumps_23 : decode cX10_jumps 23 = .ok (.ireturn, 1) := by decide +kernel
theorem dX10_jumps_24 : decode cX10_jumps 24 = .ok (.aload_n 0, 1) := by decide +kernel
theorem dX10_jumps_25 : decode cX10_jumps 25 = .ok (.getfield 47, 3) := by decide +kernel
theorem dX10_jumps_28 : decode cX10_jumps 28 = .ok (.aload_n 0, 1) := by decide +kernel
theorem dX10_jumps_29 : decode cX10_jumps 29 = .ok (.getfield 33, 3) := by decide +kernel
theorem dX10_jumps_32 : decode cX10_jumps 32 = .ok (.iload_n 1, 1) := by decide +kernel
theorem dX10_jumps_33 : decode cX10_jumps 33 = .ok (.iload_n 2, 1) := by decide +kernel
theorem dX10_jumps_34 : decode cX10_jumps 34 = .ok (.iload_n 3, 1) := by decide +kernel
theorem dX10_jumps_35 : decode cX10_jumps 35 = .ok (.invokevirtual 193, 3) := by decide +kernel
theorem dX10_jumps_38 : decode cX10_jumps 38 = .ok (.aload_n 0, 1) := by decide +kernel
theorem dX10_jumps_39 : decode cX10_jumps 39 = .ok (.getfield 47, 3) := by decide +kernel
theorem dX10_jumps_42 : decode cX10_jumps 42 = .ok (.getfield 196, 3) := by decide +kernel
theorem dX10_jumps_45 : decode cX10_jumps 45 = .ok (.ireturn, 1) := by decide +kernel
theorem dX10_jump_0 : decode cX10_jump 0 = .ok (.iload_n 1, 1) := by decide +kernel
theorem dX10_jump_1 : decode cX10_jump 1 = .ok (.invokestatic 124, 3) := by decide +kernel
theorem dX10_jump_4 : decode cX10_jump 4 = .ok (.ifCond .eq 17, 3) := by decide +kernel
theorem dX10_jump_7 : decode cX10_jump 7 = .ok (.iload_n 2, 1) := by decide +kernel
theorem dX10_jump_8 : decode cX10_jump 8 = .ok (.invokestatic 127, 3) := by decide +kernel
theorem dX10_jump_11 : decode cX10_jump 11 = .ok (.ifCond .eq 10, 3) := by decide +kernel
theorem dX10_jump_14 : decode cX10_jump 14 = .ok (.iload_n 3, 1) := by decide +kernel
theorem dX10_jump_15 : decode cX10_jump 15 = .ok (.invokestatic 127, 3) := by decide +kernel
theorem dX10_jump_18 : decode cX10_jump 18 = .ok (.ifCond .ne 6, 3) := by decide +kernel
theorem dX10_jump_21 : decode cX10_jump 21 = .ok (.bipush (-2), 2) := by decide +kernel
theorem dX10_jump_23 : decode cX10_jump 23 = .ok (.ireturn, 1) := by decide +kernel
theorem dX10_jump_24 : decode cX10_jump 24 = .ok (.aload_n 0, 1) := by decide +kernel
theorem dX10_jump_25 : decode cX10_jump 25 = .ok (.getfield 47, 3) := by decide +kernel
theorem dX10_jump_28 : decode cX10_jump 28 = .ok (.aload_n 0, 1) := by decide +kernel
theorem dX10_jump_29 : decode cX10_jump 29 = .ok (.getfield 33, 3) := by decide +kernel
theorem dX10_jump_32 : decode cX10_jump 32 = .ok (.iload_n 1, 1) := by decide +kernel
theorem dX10_jump_33 : decode cX10_jump 33 = .ok (.iload_n 2, 1) := by decide +kernel
theorem dX10_jump_34 : decode cX10_jump 34 = .ok (.iload_n 3, 1) := by decide +kernel
theorem dX10_jump_35 : decode cX10_jump 35 = .ok (.invokevirtual 193, 3) := by decide +kernel
theorem dX10_jump_38 : decode cX10_jump 38 = .ok (.aload_n 0, 1) := by decide +kernel
theorem dX10_jump_39 : decode cX10_jump 39 = .ok (.getfield 47, 3) := by decide +kernel
theorem dX10_jump_42 : decode cX10_jump 42 = .ok (.iload 4, 2) := by decide +kernel
theorem dX10_jump_44 : decode cX10_jump 44 = .ok (.invokevirtual 199, 3) := by decide +kernel
theorem dX10_jump_47 : decode cX10_jump 47 = .ok (.ireturn, 1) := by decide +kernel
theorem dX10_curve_0 : decode cX10_curve 0 = .ok (.iload_n 1, 1) := by decide +kernel
theorem dX10_curve_1 : decode cX10_curve 1 = .ok (.invokestatic 124, 3) := by decide +kernel
theorem dX10_curve_4 : decode cX10_curve 4 = .ok (.ifCond .eq 17, 3) := by decide +kernel
theorem dX10_curve_7 : decode cX10_curve 7 = .ok (.iload_n 2, 1) := by decide +kernel
theorem dX10_curve_8 : decode cX10_curve 8 = .ok (.invokestatic 127, 3) := by decide +kernel
theorem dX10_curve_11 : decode cX10_curve 11 = .ok (.ifCond .eq 10, 3) := by decide +kernel
theorem dX10_curve_14 : decode cX10_curve 14 = .ok (.iload_n 3, 1) := by decide +kernel
theorem dX10_curve_15 : decode cX10_curve 15 = .ok (.invokestatic 127, 3) := by decide +kernel
theorem dX10_curve_18 : decode cX10_curve 18 = .ok (.ifCond .ne 6, 3) := by decide +kernel
theorem dX10_curve_21 : decode cX10_curve 21 = .ok (.bipush (-2), 2) := by decide +kernel
theorem dX10_curve_23 : decode cX10_curve 23 = .ok (.ireturn, 1) := by decide +kernel
theorem dX10_curve_24 : decode cX10_curve 24 = .ok (.aload_n 0, 1) := by decide +kernel
theorem dX10_curve_25 : decode cX10_curve 25 = .ok (.getfield 47, 3) := by decide +kernel
theorem dX10_curve_28 : decode cX10_curve 28 = .ok (.aload_n 0, 1) := by decide +kernel
theorem dX10_curve_29 : decode cX10_curve 29 = .ok (.getfield 33, 3) := by decide +kernel
theorem dX10_curve_32 : decode cX10_curve 32 = .ok (.iload_n 1, 1) := by decide +kernel
theorem dX10_curve_33 : decode cX10_curve 33 = .ok (.iload_n 2, 1) := by decide +kernel
theorem dX10_curve_34 : decode cX10_curve 34 = .ok (.iload_n 3, 1) := by decide +kernel
theorem dX10_curve_35 : decode cX10_curve 35 = .ok (.invokevirtual 193, 3) := by decide +kernel
theorem dX10_curve_38 : decode cX10_curve 38 = .ok (.aload_n 0, 1) := by decide +kernel
theorem dX10_curve_39 : decode cX10_curve 39 = .ok (.getfield 47, 3) := by decide +kernel
theorem dX10_curve_42 : decode cX10_curve 42 = .ok (.getfield 202, 3) := by decide +kernel
theorem dX10_curve_45 : decode cX10_curve 45 = .ok (.ireturn, 1) := by decide +kernel
theorem dX10_least_0 : decode cX10_least 0 = .ok (.iload_n 1, 1) := by decide +kernel
theorem dX10_least_1 : decode cX10_least 1 = .ok (.ifCond .eq 8, 3) := by decide +kernel
theorem dX10_least_4 : decode cX10_least 4 = .ok (.bipush 62, 2) := by decide +kernel
theorem dX10_least_6 : decode cX10_least 6 = .ok (.goto 5, 3) := by decide +kernel
theorem dX10_least_9 : decode cX10_least 9 = .ok (.bipush 63, 2) := by decide +kernel
theorem dX10_least_11 : decode cX10_least 11 = .ok (.istore_n 2, 1) := by decide +kernel
theorem dX10_least_12 : decode cX10_least 12 = .ok (.iconst 0, 1) := by decide +kernel
theorem dX10_least_13 : decode cX10_least 13 = .ok (.istore_n 3, 1) := by decide +kernel
theorem dX10_least_14 : decode cX10_least 14 = .ok (.iload_n 3, 1) := by decide +kernel
theorem dX10_least_15 : decode cX10_least 15 = .ok (.bipush 100, 2) := by decide +kernel
theorem dX10_least_17 : decode cX10_least 17 = .ok (.if_icmp .ge 24, 3) := by decide +kernel
theorem dX10_least_20 : decode cX10_least 20 = .ok (.aload_n 0, 1) := by decide +kernel
theorem dX10_least_21 : decode cX10_least 21 = .ok (.getfield 33, 3) := by decide +kernel
theorem dX10_least_24 : decode cX10_least 24 = .ok (.iload_n 2, 1) := by decide +kernel
theorem dX10_least_25 : decode cX10_least 25 = .ok (.iload_n 3, 1) := by decide +kernel
theorem dX10_least_26 : decode cX10_least 26 = .ok (.invokevirtual 186, 3) := by decide +kernel
theorem dX10_least_29 : decode cX10_least 29 = .ok (.iload_n 1, 1) := by decide +kernel
theorem dX10_least_30 : decode cX10_least 30 = .ok (.if_icmp .ne 5, 3) := by decide +kernel
theorem dX10_least_33 : decode cX10_least 33 = .ok (.iload_n 3, 1) := by decide +kernel
theorem dX10_least_34 : decode cX10_least 34 = .ok (.ireturn, 1) := by decide +kernel
theorem dX10_least_35 : decode cX10_least 35 = .ok (.iinc 3 1, 3) := by decide +kernel
theorem dX10_least_38 : decode cX10_least 38 = .ok (.goto (-24), 3) := by decide +kernel
theorem dX10_least_41 : decode cX10_least 41 = .ok (.bipush (-9), 2) := by decide +kernel
theorem dX10_least_43 : decode cX10_least 43 = .ok (.ireturn, 1) := by decide +kernel
theorem dX10_bed_0 : decode cX10_bed 0 = .ok (.iload_n 1, 1) := by decide +kernel
theorem dX10_bed_1 : decode cX10_bed 1 = .ok (.invokestatic 205, 3) := by decide +kernel
theorem dX10_bed_4 : decode cX10_bed 4 = .ok (.ifCond .eq 11, 3) := by decide +kernel
theorem dX10_bed_7 : decode cX10_bed 7 = .ok (.iload 5, 2) := by decide +kernel
theorem dX10_bed_9 : decode cX10_bed 9 = .ok (.invokestatic 151, 3) := by decide +kernel
theorem dX10_bed_12 : decode cX10_bed 12 = .ok (.ifCond .ne 5, 3) := by decide +kernel
theorem dX10_bed_15 : decode cX10_bed 15 = .ok (.iconst (-1), 1) := by decide +kernel
theorem dX10_bed_16 : decode cX10_bed 16 = .ok (.ireturn, 1) := by decide +kernel
theorem dX10_bed_17 : decode cX10_bed 17 = .ok (.iload_n 2, 1) := by decide +kernel
theorem dX10_bed_18 : decode cX10_bed 18 = .ok (.iconst 0, 1) := by decide +kernel
theorem dX10_bed_19 : decode cX10_bed 19 = .ok (.bipush 15, 2) := by decide +kernel
theorem dX10_bed_21 : decode cX10_bed 21 = .ok (.invokestatic 83, 3) := by decide +kernel
theorem dX10_bed_24 : decode cX10_bed 24 = .ok (.ifCond .eq 35, 3) := by decide +kernel
theorem dX10_bed_27 : decode cX10_bed 27 = .ok (.iload_n 3, 1) := by decide +kernel
theorem dX10_bed_28 : decode cX10_bed 28 = .ok (.invokestatic 145, 3) := by decide +kernel
theorem dX10_bed_31 : decode cX10_bed 31 = .ok (.ifCond .eq 28, 3) := by decide +kernel
theorem dX10_bed_34 : decode cX10_bed 34 = .ok (.iload 4, 2) := by decide +kernel
theorem dX10_bed_36 : decode cX10_bed 36 = .ok (.invokestatic 145, 3) := by decide +kernel
theorem dX10_bed_39 : decode cX10_bed 39 = .ok (.ifCond .eq 20, 3) := by decide +kernel
theorem dX10_bed_42 : decode cX10_bed 42 = .ok (.iload 4, 2) := by decide +kernel
theorem dX10_bed_44 : decode cX10_bed 44 = .ok (.iload_n 3, 1) := by decide +kernel
theorem dX10_bed_45 : decode cX10_bed 45 = .ok (.if_icmp .lt 14, 3) := by decide +kernel
theorem dX10_bed_48 : decode cX10_bed 48 = .ok (.iload 6, 2) := by decide +kernel
theorem dX10_bed_50 : decode cX10_bed 50 = .ok (.iconst 0, 1) := by decide +kernel
theorem dX10_bed_51 : decode cX10_bed 51 = .ok (.bipush 10, 2) := by decide +kernel
theorem dX10_bed_53 : decode cX10_bed 53 = .ok (.invokestatic 83, 3) := by decide +kernel
theorem dX10_bed_56 : decode cX10_bed 56 = .ok (.ifCond .ne 6, 3) := by decide +kernel
theorem dX10_bed_59 : decode cX10_bed 59 = .ok (.bipush (-2), 2) := by decide +kernel
theorem dX10_bed_61 : decode cX10_bed 61 = .ok (.ireturn, 1) := by decide +kernel
theorem dX10_bed_62 : decode cX10_bed 62 = .ok (.aload_n 0, 1) := by decide +kernel
theorem dX10_bed_63 : decode cX10_bed 63 = .ok (.getfield 61, 3) := by decide +kernel
theorem dX10_bed_66 : decode cX10_bed 66 = .ok (.getfield 208, 3) := by decide +kernel
theorem dX10_bed_69 : decode cX10_bed 69 = .ok (.bipush 8, 2) := by decide +kernel
theorem dX10_bed_71 : decode cX10_bed 71 = .ok (.if_icmp .lt 6, 3) := by decide +kernel
theorem dX10_bed_74 : decode cX10_bed 74 = .ok (.bipush (-4), 2) := by decide +kernel
theorem dX10_bed_76 : decode cX10_bed 76 = .ok (.ireturn, 1) := by decide +kernel
theorem dX10_bed_77 : decode cX10_bed 77 = .ok (.aload_n 0, 1) := by decide +kernel
theorem dX10_bed_78 : decode cX10_bed 78 = .ok (.getfield 61, 3) := by decide +kernel
theorem dX10_bed_81 : decode cX10_bed 81 = .ok (.getfield 208, 3) := by decide +kernel
theorem dX10_bed_84 : decode cX10_bed 84 = .ok (.istore 7, 2) := by decide +kernel
theorem dX10_bed_86 : decode cX10_bed 86 = .ok (.aload_n 0, 1) := by decide +kernel
theorem dX10_bed_87 : decode cX10_bed 87 = .ok (.getfield 61, 3) := by decide +kernel
theorem dX10_bed_90 : decode cX10_bed 90 = .ok (.iload 7, 2) := by decide +kernel
theorem dX10_bed_92 : decode cX10_bed 92 = .ok (.iconst 1, 1) := by decide +kernel
theorem dX10_bed_93 : decode cX10_bed 93 = .ok (.iadd, 1) := by decide +kernel
theorem dX10_bed_94 : decode cX10_bed 94 = .ok (.putfield 208, 3) := by decide +kernel
theorem dX10_bed_97 : decode cX10_bed 97 = .ok (.aload_n 0, 1) := by decide +kernel
theorem dX10_bed_98 : decode cX10_bed 98 = .ok (.getfield 61, 3) := by decide +kernel
theorem dX10_bed_101 : decode cX10_bed 101 = .ok (.iload 7, 2) := by decide +kernel
theorem dX10_bed_103 : decode cX10_bed 103 = .ok (.iconst 0, 1) := by decide +kernel
theorem dX10_bed_104 : decode cX10_bed 104 = .ok (.iload_n 1, 1) := by decide +kernel
theorem dX10_bed_105 : decode cX10_bed 105 = .ok (.invokevirtual 211, 3) := by decide +kernel
theorem dX10_bed_108 : decode cX10_bed 108 = .ok (.aload_n 0, 1) := by decide +kernel
theorem dX10_bed_109 : decode cX10_bed 109 = .ok (.getfield 61, 3) := by decide +kernel
theorem dX10_bed_112 : decode cX10_bed 112 = .ok (.iload 7, 2) := by decide +kernel
theorem dX10_bed_114 : decode cX10_bed 114 = .ok (.iconst 1, 1) := by decide +kernel
theorem dX10_bed_115 : decode cX10_bed 115 = .ok (.iload_n 2, 1) := by decide +kernel
theorem dX10_bed_116 : decode cX10_bed 116 = .ok (.invokevirtual 211, 3) := by decide +kernel
theorem dX10_bed_119 : decode cX10_bed 119 = .ok (.aload_n 0, 1) := by decide +kernel
theorem dX10_bed_120 : decode cX10_bed 120 = .ok (.getfield 61, 3) := by decide +kernel
theorem dX10_bed_123 : decode cX10_bed 123 = .ok (.iload 7, 2) := by decide +kernel
theorem dX10_bed_125 : decode cX10_bed 125 = .ok (.iconst 2, 1) := by decide +kernel
theorem dX10_bed_126 : decode cX10_bed 126 = .ok (.iload_n 3, 1) := by decide +kernel
theorem dX10_bed_127 : decode cX10_bed 127 = .ok (.invokevirtual 211, 3) := by decide +kernel
theorem dX10_bed_130 : decode cX10_bed 130 = .ok (.aload_n 0, 1) := by decide +kernel
theorem dX10_bed_131 : decode cX10_bed 131 = .ok (.getfield 61, 3) := by decide +kernel
theorem dX10_bed_134 : decode cX10_bed 134 = .ok (.iload 7, 2) := by decide +kernel
theorem dX10_bed_136 : decode cX10_bed 136 = .ok (.iconst 3, 1) := by decide +kernel
theorem dX10_bed_137 : decode cX10_bed 137 = .ok (.iload 4, 2) := by decide +kernel
theorem dX10_bed_139 : decode cX10_bed 139 = .ok (.invokevirtual 211, 3) := by decide +kernel
theorem dX10_bed_142 : decode cX10_bed 142 = .ok (.aload_n 0, 1) := by decide +kernel
theorem dX10_bed_143 : decode cX10_bed 143 = .ok (.getfield 61, 3) := by decide +kernel
theorem dX10_bed_146 : decode cX10_bed 146 = .ok (.iload 7, 2) := by decide +kernel
theorem dX10_bed_148 : decode cX10_bed 148 = .ok (.iconst 4, 1) := by decide +kernel
theorem dX10_bed_149 : decode cX10_bed 149 = .ok (.iload 5, 2) := by decide +kernel
theorem dX10_bed_151 : decode cX10_bed 151 = .ok (.invokevirtual 211, 3) := by decide +kernel
theorem dX10_bed_154 : decode cX10_bed 154 = .ok (.aload_n 0, 1) := by decide +kernel
theorem dX10_bed_155 : decode cX10_bed 155 = .ok (.getfield 61, 3) := by decide +kernel
theorem dX10_bed_158 : decode cX10_bed 158 = .ok (.iload 7, 2) := by decide +kernel
theorem dX10_bed_160 : decode cX10_bed 160 = .ok (.iconst 5, 1) := by decide +kernel
theorem dX10_bed_161 : decode cX10_bed 161 = .ok (.iload 6, 2) := by decide +kernel
theorem dX10_bed_163 : decode cX10_bed 163 = .ok (.invokevirtual 211, 3) := by decide +kernel
theorem dX10_bed_166 : decode cX10_bed 166 = .ok (.iload 7, 2) := by decide +kernel
theorem dX10_bed_168 : decode cX10_bed 168 = .ok (.ireturn, 1) := by decide +kernel
theorem dX10_forget_0 : decode cX10_forget 0 = .ok (.aload_n 0, 1) := by decide +kernel
theorem dX10_forget_1 : decode cX10_forget 1 = .ok (.getfield 61, 3) := by decide +kernel
theorem dX10_forget_4 : decode cX10_forget 4 = .ok (.getfield 208, 3) := by decide +kernel
theorem dX10_forget_7 : decode cX10_forget 7 = .ok (.ifCond .gt 6, 3) := by decide +kernel
theorem dX10_forget_10 : decode cX10_forget 10 = .ok (.bipush (-3), 2) := by decide +kernel
theorem dX10_forget_12 : decode cX10_forget 12 = .ok (.ireturn, 1) := by decide +kernel
theorem dX10_forget_13 : decode cX10_forget 13 = .ok (.aload_n 0, 1) := by decide +kernel
theorem dX10_forget_14 : decode cX10_forget 14 = .ok (.getfield 61, 3) := by decide +kernel
theorem dX10_forget_17 : decode cX10_forget 17 = .ok (.dup, 1) := by decide +kernel
theorem dX10_forget_18 : decode cX10_forget 18 = .ok (.getfield 208, 3) := by decide +kernel
theorem dX10_forget_21 : decode cX10_forget 21 = .ok (.iconst 1, 1) := by decide +kernel
theorem dX10_forget_22 : decode cX10_forget 22 = .ok (.isub, 1) := by decide +kernel
theorem dX10_forget_23 : decode cX10_forget 23 = .ok (.putfield 208, 3) := by decide +kernel
theorem dX10_forget_26 : decode cX10_forget 26 = .ok (.aload_n 0, 1) := by decide +kernel
theorem dX10_forget_27 : decode cX10_forget 27 = .ok (.getfield 61, 3) := by decide +kernel
theorem dX10_forget_30 : decode cX10_forget 30 = .ok (.getfield 208, 3) := by decide +kernel
theorem dX10_forget_33 : decode cX10_forget 33 = .ok (.ireturn, 1) := by decide +kernel
theorem dX10_about_0 : decode cX10_about 0 = .ok (.aload_n 0, 1) := by decide +kernel
theorem dX10_about_1 : decode cX10_about 1 = .ok (.iload_n 1, 1) := by decide +kernel
theorem dX10_about_2 : decode cX10_about 2 = .ok (.invokevirtual 214, 3) := by decide +kernel
theorem dX10_about_5 : decode cX10_about 5 = .ok (.ifCond .ne 5, 3) := by decide +kernel
theorem dX10_about_8 : decode cX10_about 8 = .ok (.iconst (-1), 1) := by decide +kernel
theorem dX10_about_9 : decode cX10_about 9 = .ok (.ireturn, 1) := by decide +kernel
theorem dX10_about_10 : decode cX10_about 10 = .ok (.iload_n 2, 1) := by decide +kernel
theorem dX10_about_11 : decode cX10_about 11 = .ok (.iconst 0, 1) := by decide +kernel
theorem dX10_about_12 : decode cX10_about 12 = .ok (.bipush 7, 2) := by decide +kernel
theorem dX10_about_14 : decode cX10_about 14 = .ok (.invokestatic 83, 3) := by decide +kernel
theorem dX10_about_17 : decode cX10_about 17 = .ok (.ifCond .ne 6, 3) := by decide +kernel
theorem dX10_about_20 : decode cX10_about 20 = .ok (.bipush (-2), 2) := by decide +kernel
theorem dX10_about_22 : decode cX10_about 22 = .ok (.ireturn, 1) := by decide +kernel
theorem dX10_about_23 : decode cX10_about 23 = .ok (.iload_n 2, 1) := by decide +kernel
theorem dX10_about_24 : decode cX10_about 24 = .ok (.bipush 6, 2) := by decide +kernel
theorem dX10_about_26 : decode cX10_about 26 = .ok (.if_icmp .ne 12, 3) := by decide +kernel
theorem dX10_about_29 : decode cX10_about 29 = .ok (.aload_n 0, 1) := by decide +kernel
theorem dX10_about_30 : decode cX10_about 30 = .ok (.getfield 61, 3) := by decide +kernel
theorem dX10_about_33 : decode cX10_about 33 = .ok (.iload_n 1, 1) := by decide +kernel
theorem dX10_about_34 : decode cX10_about 34 = .ok (.invokevirtual 217, 3) := by decide +kernel
theorem dX10_about_37 : decode cX10_about 37 = .ok (.ireturn, 1) := by decide +kernel
theorem dX10_about_38 : decode cX10_about 38 = .ok (.iload_n 2, 1) := by decide +kernel
theorem dX10_about_39 : decode cX10_about 39 = .ok (.bipush 7, 2) := by decide +kernel
theorem dX10_about_41 : decode cX10_about 41 = .ok (.if_icmp .ne 20, 3) := by decide +kernel
theorem dX10_about_44 : decode cX10_about 44 = .ok (.aload_n 0, 1) := by decide +kernel
theorem dX10_about_45 : decode cX10_about 45 = .ok (.getfield 61, 3) := by decide +kernel
theorem dX10_about_48 : decode cX10_about 48 = .ok (.iload_n 1, 1) := by decide +kernel
theorem dX10_about_49 : decode cX10_about 49 = .ok (.invokevirtual 220, 3) := by decide +kernel
theorem dX10_about_52 : decode cX10_about 52 = .ok (.ifCond .eq 7, 3) := by decide +kernel
theorem dX10_about_55 : decode cX10_about 55 = .ok (.iconst 1, 1) := by decide +kernel
theorem dX10_about_56 : decode cX10_about 56 = .ok (.goto 4, 3) := by decide +kernel
theorem dX10_about_59 : decode cX10_about 59 = .ok (.iconst 0, 1) := by decide +kernel
theorem dX10_about_60 : decode cX10_about 60 = .ok (.ireturn, 1) := by decide +kernel
theorem dX10_about_61 : decode cX10_about 61 = .ok (.aload_n 0, 1) := by decide +kernel
theorem dX10_about_62 : decode cX10_about 62 = .ok (.getfield 61, 3) := by decide +kernel
theorem dX10_about_65 : decode cX10_about 65 = .ok (.iload_n 1, 1) := by decide +kernel
theorem dX10_about_66 : decode cX10_about 66 = .ok (.iload_n 2, 1) := by decide +kernel
theorem dX10_about_67 : decode cX10_about 67 = .ok (.invokevirtual 223, 3) := by decide +kernel
theorem dX10_about_70 : decode cX10_about 70 = .ok (.ireturn, 1) := by decide +kernel
theorem dX10_explains_0 : decode cX10_explains 0 = .ok (.iload_n 1, 1) := by decide +kernel
theorem dX10_explains_1 : decode cX10_explains 1 = .ok (.invokestatic 115, 3) := by decide +kernel
theorem dX10_explains_4 : decode cX10_explains 4 = .ok (.ifCond .eq 11, 3) := by decide +kernel
theorem dX10_explains_7 : decode cX10_explains 7 = .ok (.aload_n 0, 1) := by decide +kernel
theorem dX10_explains_8 : decode cX10_explains 8 = .ok (.iload_n 2, 1) := by decide +kernel
theorem dX10_explains_9 : decode cX10_explains 9 = .ok (.invokevirtual 214, 3) := by decide +kernel
theorem dX10_explains_12 : decode cX10_explains 12 = .ok (.ifCond .ne 5, 3) := by decide +kernel
theorem dX10_explains_15 : decode cX10_explains 15 = .ok (.iconst (-1), 1) := by decide +kernel
theorem dX10_explains_16 : decode cX10_explains 16 = .ok (.ireturn, 1) := by decide +kernel
theorem dX10_explains_17 : decode cX10_explains 17 = .ok (.aload_n 0, 1) := by decide +kernel
theorem dX10_explains_18 : decode cX10_explains 18 = .ok (.getfield 61, 3) := by decide +kernel
theorem dX10_explains_21 : decode cX10_explains 21 = .ok (.iload_n 2, 1) := by decide +kernel
theorem dX10_explains_22 : decode cX10_explains 22 = .ok (.invokevirtual 220, 3) := by decide +kernel
theorem dX10_explains_25 : decode cX10_explains 25 = .ok (.ifCond .ne 6, 3) := by decide +kernel
theorem dX10_explains_28 : decode cX10_explains 28 = .ok (.bipush (-3), 2) := by decide +kernel
theorem dX10_explains_30 : decode cX10_explains 30 = .ok (.ireturn, 1) := by decide +kernel
theorem dX10_explains_31 : decode cX10_explains 31 = .ok (.aload_n 0, 1) := by decide +kernel
theorem dX10_explains_32 : decode cX10_explains 32 = .ok (.getfield 54, 3) := by decide +kernel
theorem dX10_explains_35 : decode cX10_explains 35 = .ok (.iload_n 1, 1) := by decide +kernel
theorem dX10_explains_36 : decode cX10_explains 36 = .ok (.aload_n 0, 1) := by decide +kernel
theorem dX10_explains_37 : decode cX10_explains 37 = .ok (.getfield 61, 3) := by decide +kernel
theorem dX10_explains_40 : decode cX10_explains 40 = .ok (.iload_n 2, 1) := by decide +kernel
theorem dX10_explains_41 : decode cX10_explains 41 = .ok (.iconst 2, 1) := by decide +kernel
theorem dX10_explains_42 : decode cX10_explains 42 = .ok (.invokevirtual 223, 3) := by decide +kernel
theorem dX10_explains_45 : decode cX10_explains 45 = .ok (.aload_n 0, 1) := by decide +kernel
theorem dX10_explains_46 : decode cX10_explains 46 = .ok (.getfield 61, 3) := by decide +kernel
theorem dX10_explains_49 : decode cX10_explains 49 = .ok (.iload_n 2, 1) := by decide +kernel
theorem dX10_explains_50 : decode cX10_explains 50 = .ok (.iconst 3, 1) := by decide +kernel
theorem dX10_explains_51 : decode cX10_explains 51 = .ok (.invokevirtual 223, 3) := by decide +kernel
theorem dX10_explains_54 : decode cX10_explains 54 = .ok (.invokevirtual 226, 3) := by decide +kernel
theorem dX10_explains_57 : decode cX10_explains 57 = .ok (.istore_n 3, 1) := by decide +kernel
theorem dX10_explains_58 : decode cX10_explains 58 = .ok (.iload_n 3, 1) := by decide +kernel
theorem dX10_explains_59 : decode cX10_explains 59 = .ok (.aload_n 0, 1) := by decide +kernel
theorem dX10_explains_60 : decode cX10_explains 60 = .ok (.getfield 61, 3) := by decide +kernel
theorem dX10_explains_63 : decode cX10_explains 63 = .ok (.iload_n 2, 1) := by decide +kernel
theorem dX10_explains_64 : decode cX10_explains 64 = .ok (.iconst 4, 1) := by decide +kernel
theorem dX10_explains_65 : decode cX10_explains 65 = .ok (.invokevirtual 223, 3) := by decide +kernel
theorem dX10_explains_68 : decode cX10_explains 68 = .ok (.invokestatic 229, 3) := by decide +kernel
theorem dX10_explains_71 : decode cX10_explains 71 = .ok (.ifCond .eq 5, 3) := by decide +kernel
theorem dX10_explains_74 : decode cX10_explains 74 = .ok (.iconst 2, 1) := by decide +kernel
theorem dX10_explains_75 : decode cX10_explains 75 = .ok (.ireturn, 1) := by decide +kernel
theorem dX10_explains_76 : decode cX10_explains 76 = .ok (.iload_n 3, 1) := by decide +kernel
theorem dX10_explains_77 : decode cX10_explains 77 = .ok (.ifCond .eq 7, 3) := by decide +kernel
theorem dX10_explains_80 : decode cX10_explains 80 = .ok (.iconst 1, 1) := by decide +kernel
theorem dX10_explains_81 : decode cX10_explains 81 = .ok (.goto 4, 3) := by decide +kernel
theorem dX10_explains_84 : decode cX10_explains 84 = .ok (.iconst 0, 1) := by decide +kernel
theorem dX10_explains_85 : decode cX10_explains 85 = .ok (.ireturn, 1) := by decide +kernel
theorem dX10_chance_0 : decode cX10_chance 0 = .ok (.iload_n 1, 1) := by decide +kernel
theorem dX10_chance_1 : decode cX10_chance 1 = .ok (.invokestatic 115, 3) := by decide +kernel
theorem dX10_chance_4 : decode cX10_chance 4 = .ok (.ifCond .eq 11, 3) := by decide +kernel
theorem dX10_chance_7 : decode cX10_chance 7 = .ok (.aload_n 0, 1) := by decide +kernel
theorem dX10_chance_8 : decode cX10_chance 8 = .ok (.iload_n 2, 1) := by decide +kernel
theorem dX10_chance_9 : decode cX10_chance 9 = .ok (.invokevirtual 214, 3) := by decide +kernel
theorem dX10_chance_12 : decode cX10_chance 12 = .ok (.ifCond .ne 7, 3) := by decide +kernel
theorem dX10_chance_15 : decode cX10_chance 15 = .ok (.ldc2_w 232, 3) := by decide +kernel
theorem dX10_chance_18 : decode cX10_chance 18 = .ok (.lreturn, 1) := by decide +kernel
theorem dX10_chance_19 : decode cX10_chance 19 = .ok (.aload_n 0, 1) := by decide +kernel
theorem dX10_chance_20 : decode cX10_chance 20 = .ok (.getfield 54, 3) := by decide +kernel
theorem dX10_chance_23 : decode cX10_chance 23 = .ok (.aload_n 0, 1) := by decide +kernel
theorem dX10_chance_24 : decode cX10_chance 24 = .ok (.getfield 61, 3) := by decide +kernel
theorem dX10_chance_27 : decode cX10_chance 27 = .ok (.iload_n 1, 1) := by decide +kernel
theorem dX10_chance_28 : decode cX10_chance 28 = .ok (.iload_n 2, 1) := by decide +kernel
theorem dX10_chance_29 : decode cX10_chance 29 = .ok (.invokestatic 234, 3) := by decide +kernel
theorem dX10_chance_32 : decode cX10_chance 32 = .ok (.i2l, 1) := by decide +kernel
theorem dX10_chance_33 : decode cX10_chance 33 = .ok (.ldc2_w 238, 3) := by decide +kernel
theorem dX10_chance_36 : decode cX10_chance 36 = .ok (.iload_n 3, 1) := by decide +kernel
theorem dX10_chance_37 : decode cX10_chance 37 = .ok (.invokestatic 240, 3) := by decide +kernel
theorem dX10_chance_40 : decode cX10_chance 40 = .ok (.lreturn, 1) := by decide +kernel
theorem dX10_weight_0 : decode cX10_weight 0 = .ok (.iload_n 1, 1) := by decide +kernel
theorem dX10_weight_1 : decode cX10_weight 1 = .ok (.invokestatic 115, 3) := by decide +kernel
theorem dX10_weight_4 : decode cX10_weight 4 = .ok (.ifCond .ne 5, 3) := by decide +kernel
theorem dX10_weight_7 : decode cX10_weight 7 = .ok (.iconst (-1), 1) := by decide +kernel
theorem dX10_weight_8 : decode cX10_weight 8 = .ok (.ireturn, 1) := by decide +kernel
theorem dX10_weight_9 : decode cX10_weight 9 = .ok (.iload_n 2, 1) := by decide +kernel
theorem dX10_weight_10 : decode cX10_weight 10 = .ok (.iconst 0, 1) := by decide +kernel
theorem dX10_weight_11 : decode cX10_weight 11 = .ok (.bipush 9, 2) := by decide +kernel
theorem dX10_weight_13 : decode cX10_weight 13 = .ok (.invokestatic 83, 3) := by decide +kernel
theorem dX10_weight_16 : decode cX10_weight 16 = .ok (.ifCond .ne 6, 3) := by decide +kernel
theorem dX10_weight_19 : decode cX10_weight 19 = .ok (.bipush (-2), 2) := by decide +kernel
theorem dX10_weight_21 : decode cX10_weight 21 = .ok (.ireturn, 1) := by decide +kernel
theorem dX10_weight_22 : decode cX10_weight 22 = .ok (.aload_n 0, 1) := by decide +kernel
theorem dX10_weight_23 : decode cX10_weight 23 = .ok (.getfield 61, 3) := by decide +kernel
theorem dX10_weight_26 : decode cX10_weight 26 = .ok (.getfield 244, 3) := by decide +kernel
theorem dX10_weight_29 : decode cX10_weight 29 = .ok (.iload_n 1, 1) := by decide +kernel
theorem dX10_weight_30 : decode cX10_weight 30 = .ok (.iaload, 1) := by decide +kernel
theorem dX10_weight_31 : decode cX10_weight 31 = .ok (.istore_n 3, 1) := by decide +kernel
theorem dX10_weight_32 : decode cX10_weight 32 = .ok (.aload_n 0, 1) := by decide +kernel
theorem dX10_weight_33 : decode cX10_weight 33 = .ok (.getfield 61, 3) := by decide +kernel
theorem dX10_weight_36 : decode cX10_weight 36 = .ok (.getfield 244, 3) := by decide +kernel
theorem dX10_weight_39 : decode cX10_weight 39 = .ok (.iload_n 1, 1) := by decide +kernel
theorem dX10_weight_40 : decode cX10_weight 40 = .ok (.iload_n 2, 1) := by decide +kernel
theorem dX10_weight_41 : decode cX10_weight 41 = .ok (.iastore, 1) := by decide +kernel
theorem dX10_weight_42 : decode cX10_weight 42 = .ok (.iload_n 3, 1) := by decide +kernel
theorem dX10_weight_43 : decode cX10_weight 43 = .ok (.ireturn, 1) := by decide +kernel
theorem dX10_odds_0 : decode cX10_odds 0 = .ok (.iload_n 1, 1) := by decide +kernel
theorem dX10_odds_1 : decode cX10_odds 1 = .ok (.invokestatic 115, 3) := by decide +kernel
theorem dX10_odds_4 : decode cX10_odds 4 = .ok (.ifCond .ne 7, 3) := by decide +kernel
theorem dX10_odds_7 : decode cX10_odds 7 = .ok (.ldc2_w 232, 3) := by decide +kernel
theorem dX10_odds_10 : decode cX10_odds 10 = .ok (.lreturn, 1) := by decide +kernel
theorem dX10_odds_11 : decode cX10_odds 11 = .ok (.aload_n 0, 1) := by decide +kernel
theorem dX10_odds_12 : decode cX10_odds 12 = .ok (.getfield 68, 3) := by decide +kernel
theorem dX10_odds_15 : decode cX10_odds 15 = .ok (.aload_n 0, 1) := by decide +kernel
theorem dX10_odds_16 : decode cX10_odds 16 = .ok (.getfield 54, 3) := by decide +kernel
theorem dX10_odds_19 : decode cX10_odds 19 = .ok (.aload_n 0, 1) := by decide +kernel
theorem dX10_odds_20 : decode cX10_odds 20 = .ok (.getfield 61, 3) := by decide +kernel
theorem dX10_odds_23 : decode cX10_odds 23 = .ok (.invokevirtual 247, 3) := by decide +kernel
theorem dX10_odds_26 : decode cX10_odds 26 = .ok (.aload_n 0, 1) := by decide +kernel
theorem dX10_odds_27 : decode cX10_odds 27 = .ok (.getfield 68, 3) := by decide +kernel
theorem dX10_odds_30 : decode cX10_odds 30 = .ok (.getfield 251, 3) := by decide +kernel
theorem dX10_odds_33 : decode cX10_odds 33 = .ok (.lconst 0, 1) := by decide +kernel
theorem dX10_odds_34 : decode cX10_odds 34 = .ok (.lcmp, 1) := by decide +kernel
theorem dX10_odds_35 : decode cX10_odds 35 = .ok (.ifCond .ne 7, 3) := by decide +kernel
theorem dX10_odds_38 : decode cX10_odds 38 = .ok (.ldc2_w 255, 3) := by decide +kernel
theorem dX10_odds_41 : decode cX10_odds 41 = .ok (.lreturn, 1) := by decide +kernel
theorem dX10_odds_42 : decode cX10_odds 42 = .ok (.aload_n 0, 1) := by decide +kernel
theorem dX10_odds_43 : decode cX10_odds 43 = .ok (.getfield 68, 3) := by decide +kernel
theorem dX10_odds_46 : decode cX10_odds 46 = .ok (.getfield 257, 3) := by decide +kernel
theorem dX10_odds_49 : decode cX10_odds 49 = .ok (.iload_n 1, 1) := by decide +kernel
theorem dX10_odds_50 : decode cX10_odds 50 = .ok (.laload, 1) := by decide +kernel
theorem dX10_odds_51 : decode cX10_odds 51 = .ok (.aload_n 0, 1) := by decide +kernel
theorem dX10_odds_52 : decode cX10_odds 52 = .ok (.getfield 68, 3) := by decide +kernel
theorem dX10_odds_55 : decode cX10_odds 55 = .ok (.getfield 251, 3) := by decide +kernel
theorem dX10_odds_58 : decode cX10_odds 58 = .ok (.iload_n 2, 1) := by decide +kernel
theorem dX10_odds_59 : decode cX10_odds 59 = .ok (.invokestatic 240, 3) := by decide +kernel
theorem dX10_odds_62 : decode cX10_odds 62 = .ok (.lreturn, 1) := by decide +kernel
theorem dX10_best_0 : decode cX10_best 0 = .ok (.aload_n 0, 1) := by decide +kernel
theorem dX10_best_1 : decode cX10_best 1 = .ok (.getfield 68, 3) := by decide +kernel
theorem dX10_best_4 : decode cX10_best 4 = .ok (.aload_n 0, 1) := by decide +kernel
theorem dX10_best_5 : decode cX10_best 5 = .ok (.getfield 54, 3) := by decide +kernel
theorem dX10_best_8 : decode cX10_best 8 = .ok (.aload_n 0, 1) := by decide +kernel
theorem dX10_best_9 : decode cX10_best 9 = .ok (.getfield 61, 3) := by decide +kernel
theorem dX10_best_12 : decode cX10_best 12 = .ok (.invokevirtual 247, 3) := by decide +kernel
theorem dX10_best_15 : decode cX10_best 15 = .ok (.aload_n 0, 1) := by decide +kernel
theorem dX10_best_16 : decode cX10_best 16 = .ok (.getfield 68, 3) := by decide +kernel
theorem dX10_best_19 : decode cX10_best 19 = .ok (.getfield 251, 3) := by decide +kernel
theorem dX10_best_22 : decode cX10_best 22 = .ok (.lconst 0, 1) := by decide +kernel
theorem dX10_best_23 : decode cX10_best 23 = .ok (.lcmp, 1) := by decide +kernel
theorem dX10_best_24 : decode cX10_best 24 = .ok (.ifCond .ne 8, 3) := by decide +kernel
theorem dX10_best_27 : decode cX10_best 27 = .ok (.bipush (-3), 2) := by decide +kernel
theorem dX10_best_29 : decode cX10_best 29 = .ok (.goto 10, 3) := by decide +kernel
theorem dX10_best_32 : decode cX10_best 32 = .ok (.aload_n 0, 1) := by decide +kernel
theorem dX10_best_33 : decode cX10_best 33 = .ok (.getfield 68, 3) := by decide +kernel
theorem dX10_best_36 : decode cX10_best 36 = .ok (.invokevirtual 261, 3) := by decide +kernel
theorem dX10_best_39 : decode cX10_best 39 = .ok (.ireturn, 1) := by decide +kernel
theorem dX10_mover_0 : decode cX10_mover 0 = .ok (.aload_n 0, 1) := by decide +kernel
theorem dX10_mover_1 : decode cX10_mover 1 = .ok (.getfield 68, 3) := by decide +kernel
theorem dX10_mover_4 : decode cX10_mover 4 = .ok (.aload_n 0, 1) := by decide +kernel
theorem dX10_mover_5 : decode cX10_mover 5 = .ok (.getfield 54, 3) := by decide +kernel
theorem dX10_mover_8 : decode cX10_mover 8 = .ok (.aload_n 0, 1) := by decide +kernel
theorem dX10_mover_9 : decode cX10_mover 9 = .ok (.getfield 61, 3) := by decide +kernel
theorem dX10_mover_12 : decode cX10_mover 12 = .ok (.invokevirtual 247, 3) := by decide +kernel
theorem dX10_mover_15 : decode cX10_mover 15 = .ok (.aload_n 0, 1) := by decide +kernel
theorem dX10_mover_16 : decode cX10_mover 16 = .ok (.getfield 68, 3) := by decide +kernel
theorem dX10_mover_19 : decode cX10_mover 19 = .ok (.getfield 251, 3) := by decide +kernel
theorem dX10_mover_22 : decode cX10_mover 22 = .ok (.lconst 0, 1) := by decide +kernel
theorem dX10_mover_23 : decode cX10_mover 23 = .ok (.lcmp, 1) := by decide +kernel
theorem dX10_mover_24 : decode cX10_mover 24 = .ok (.ifCond .ne 8, 3) := by decide +kernel
theorem dX10_mover_27 : decode cX10_mover 27 = .ok (.bipush (-3), 2) := by decide +kernel
theorem dX10_mover_29 : decode cX10_mover 29 = .ok (.goto 14, 3) := by decide +kernel
theorem dX10_mover_32 : decode cX10_mover 32 = .ok (.aload_n 0, 1) := by decide +kernel
theorem dX10_mover_33 : decode cX10_mover 33 = .ok (.getfield 68, 3) := by decide +kernel
theorem dX10_mover_36 : decode cX10_mover 36 = .ok (.aload_n 0, 1) := by decide +kernel
theorem dX10_mover_37 : decode cX10_mover 37 = .ok (.getfield 61, 3) := by decide +kernel
theorem dX10_mover_40 : decode cX10_mover 40 = .ok (.invokevirtual 264, 3) := by decide +kernel
theorem dX10_mover_43 : decode cX10_mover 43 = .ok (.ireturn, 1) := by decide +kernel
theorem dX10_next_0 : decode cX10_next 0 = .ok (.aload_n 0, 1) := by decide +kernel
theorem dX10_next_1 : decode cX10_next 1 = .ok (.getfield 68, 3) := by decide +kernel
theorem dX10_next_4 : decode cX10_next 4 = .ok (.aload_n 0, 1) := by decide +kernel
theorem dX10_next_5 : decode cX10_next 5 = .ok (.getfield 54, 3) := by decide +kernel
theorem dX10_next_8 : decode cX10_next 8 = .ok (.aload_n 0, 1) := by decide +kernel
theorem dX10_next_9 : decode cX10_next 9 = .ok (.getfield 61, 3) := by decide +kernel
theorem dX10_next_12 : decode cX10_next 12 = .ok (.invokevirtual 247, 3) := by decide +kernel
theorem dX10_next_15 : decode cX10_next 15 = .ok (.aload_n 0, 1) := by decide +kernel
theorem dX10_next_16 : decode cX10_next 16 = .ok (.getfield 68, 3) := by decide +kernel
theorem dX10_next_19 : decode cX10_next 19 = .ok (.getfield 251, 3) := by decide +kernel
theorem dX10_next_22 : decode cX10_next 22 = .ok (.lconst 0, 1) := by decide +kernel
theorem dX10_next_23 : decode cX10_next 23 = .ok (.lcmp, 1) := by decide +kernel
theorem dX10_next_24 : decode cX10_next 24 = .ok (.ifCond .ne 8, 3) := by decide +kernel
theorem dX10_next_27 : decode cX10_next 27 = .ok (.bipush (-3), 2) := by decide +kernel
theorem dX10_next_29 : decode cX10_next 29 = .ok (.goto 14, 3) := by decide +kernel
theorem dX10_next_32 : decode cX10_next 32 = .ok (.aload_n 0, 1) := by decide +kernel
theorem dX10_next_33 : decode cX10_next 33 = .ok (.getfield 68, 3) := by decide +kernel
theorem dX10_next_36 : decode cX10_next 36 = .ok (.aload_n 0, 1) := by decide +kernel
theorem dX10_next_37 : decode cX10_next 37 = .ok (.getfield 54, 3) := by decide +kernel
theorem dX10_next_40 : decode cX10_next 40 = .ok (.invokevirtual 268, 3) := by decide +kernel
theorem dX10_next_43 : decode cX10_next 43 = .ok (.ireturn, 1) := by decide +kernel
theorem dX10_once_0 : decode cX10_once 0 = .ok (.aload_n 0, 1) := by decide +kernel
theorem dX10_once_1 : decode cX10_once 1 = .ok (.getfield 61, 3) := by decide +kernel
theorem dX10_once_4 : decode cX10_once 4 = .ok (.invokestatic 272, 3) := by decide +kernel
theorem dX10_once_7 : decode cX10_once 7 = .ok (.ireturn, 1) := by decide +kernel
theorem dX10_times_0 : decode cX10_times 0 = .ok (.aload_n 0, 1) := by decide +kernel
theorem dX10_times_1 : decode cX10_times 1 = .ok (.getfield 75, 3) := by decide +kernel
theorem dX10_times_4 : decode cX10_times 4 = .ok (.aload_n 0, 1) := by decide +kernel
theorem dX10_times_5 : decode cX10_times 5 = .ok (.getfield 61, 3) := by decide +kernel
theorem dX10_times_8 : decode cX10_times 8 = .ok (.invokevirtual 275, 3) := by decide +kernel
theorem dX10_times_11 : decode cX10_times 11 = .ok (.aload_n 0, 1) := by decide +kernel
theorem dX10_times_12 : decode cX10_times 12 = .ok (.getfield 75, 3) := by decide +kernel
theorem dX10_times_15 : decode cX10_times 15 = .ok (.getfield 279, 3) := by decide +kernel
theorem dX10_times_18 : decode cX10_times 18 = .ok (.ireturn, 1) := by decide +kernel
theorem dX10_time_0 : decode cX10_time 0 = .ok (.aload_n 0, 1) := by decide +kernel
theorem dX10_time_1 : decode cX10_time 1 = .ok (.getfield 75, 3) := by decide +kernel
theorem dX10_time_4 : decode cX10_time 4 = .ok (.aload_n 0, 1) := by decide +kernel
theorem dX10_time_5 : decode cX10_time 5 = .ok (.getfield 61, 3) := by decide +kernel
theorem dX10_time_8 : decode cX10_time 8 = .ok (.invokevirtual 275, 3) := by decide +kernel
theorem dX10_time_11 : decode cX10_time 11 = .ok (.aload_n 0, 1) := by decide +kernel
theorem dX10_time_12 : decode cX10_time 12 = .ok (.getfield 75, 3) := by decide +kernel
theorem dX10_time_15 : decode cX10_time 15 = .ok (.iload_n 1, 1) := by decide +kernel
theorem dX10_time_16 : decode cX10_time 16 = .ok (.invokevirtual 280, 3) := by decide +kernel
theorem dX10_time_19 : decode cX10_time 19 = .ok (.ireturn, 1) := by decide +kernel
theorem dX10_order_0 : decode cX10_order 0 = .ok (.iload_n 1, 1) := by decide +kernel
theorem dX10_order_1 : decode cX10_order 1 = .ok (.invokestatic 205, 3) := by decide +kernel
theorem dX10_order_4 : decode cX10_order 4 = .ok (.ifCond .ne 5, 3) := by decide +kernel
theorem dX10_order_7 : decode cX10_order 7 = .ok (.iconst (-1), 1) := by decide +kernel
theorem dX10_order_8 : decode cX10_order 8 = .ok (.ireturn, 1) := by decide +kernel
theorem dX10_order_9 : decode cX10_order 9 = .ok (.aload_n 0, 1) := by decide +kernel
theorem dX10_order_10 : decode cX10_order 10 = .ok (.getfield 61, 3) := by decide +kernel
theorem dX10_order_13 : decode cX10_order 13 = .ok (.iload_n 1, 1) := by decide +kernel
theorem dX10_order_14 : decode cX10_order 14 = .ok (.invokestatic 283, 3) := by decide +kernel
theorem dX10_order_17 : decode cX10_order 17 = .ok (.ifCond .eq 7, 3) := by decide +kernel
theorem dX10_order_20 : decode cX10_order 20 = .ok (.iconst 1, 1) := by decide +kernel
theorem dX10_order_21 : decode cX10_order 21 = .ok (.goto 4, 3) := by decide +kernel
theorem dX10_order_24 : decode cX10_order 24 = .ok (.iconst 0, 1) := by decide +kernel
theorem dX10_order_25 : decode cX10_order 25 = .ok (.ireturn, 1) := by decide +kernel
theorem dX10_gap_0 : decode cX10_gap 0 = .ok (.aload_n 0, 1) := by decide +kernel
theorem dX10_gap_1 : decode cX10_gap 1 = .ok (.iload_n 1, 1) := by decide +kernel
theorem dX10_gap_2 : decode cX10_gap 2 = .ok (.invokevirtual 214, 3) := by decide +kernel
theorem dX10_gap_5 : decode cX10_gap 5 = .ok (.ifCond .ne 5, 3) := by decide +kernel
theorem dX10_gap_8 : decode cX10_gap 8 = .ok (.iconst (-1), 1) := by decide +kernel
theorem dX10_gap_9 : decode cX10_gap 9 = .ok (.ireturn, 1) := by decide +kernel
theorem dX10_gap_10 : decode cX10_gap 10 = .ok (.aload_n 0, 1) := by decide +kernel
theorem dX10_gap_11 : decode cX10_gap 11 = .ok (.getfield 61, 3) := by decide +kernel
theorem dX10_gap_14 : decode cX10_gap 14 = .ok (.iload_n 1, 1) := by decide +kernel
theorem dX10_gap_15 : decode cX10_gap 15 = .ok (.iconst 0, 1) := by decide +kernel
theorem dX10_gap_16 : decode cX10_gap 16 = .ok (.invokevirtual 223, 3) := by decide +kernel
theorem dX10_gap_19 : decode cX10_gap 19 = .ok (.istore_n 2, 1) := by decide +kernel
theorem dX10_gap_20 : decode cX10_gap 20 = .ok (.aload_n 0, 1) := by decide +kernel
theorem dX10_gap_21 : decode cX10_gap 21 = .ok (.getfield 61, 3) := by decide +kernel
theorem dX10_gap_24 : decode cX10_gap 24 = .ok (.iload_n 2, 1) := by decide +kernel
theorem dX10_gap_25 : decode cX10_gap 25 = .ok (.iload_n 1, 1) := by decide +kernel
theorem dX10_gap_26 : decode cX10_gap 26 = .ok (.invokestatic 287, 3) := by decide +kernel
theorem dX10_gap_29 : decode cX10_gap 29 = .ok (.istore_n 3, 1) := by decide +kernel
theorem dX10_gap_30 : decode cX10_gap 30 = .ok (.iload_n 3, 1) := by decide +kernel
theorem dX10_gap_31 : decode cX10_gap 31 = .ok (.bipush (-9), 2) := by decide +kernel
theorem dX10_gap_33 : decode cX10_gap 33 = .ok (.if_icmp .eq 14, 3) := by decide +kernel
theorem dX10_gap_36 : decode cX10_gap 36 = .ok (.aload_n 0, 1) := by decide +kernel
theorem dX10_gap_37 : decode cX10_gap 37 = .ok (.getfield 61, 3) := by decide +kernel
theorem dX10_gap_40 : decode cX10_gap 40 = .ok (.iload_n 2, 1) := by decide +kernel
theorem dX10_gap_41 : decode cX10_gap 41 = .ok (.invokestatic 283, 3) := by decide +kernel
theorem dX10_gap_44 : decode cX10_gap 44 = .ok (.ifCond .ne 6, 3) := by decide +kernel
theorem dX10_gap_47 : decode cX10_gap 47 = .ok (.bipush (-3), 2) := by decide +kernel
theorem dX10_gap_49 : decode cX10_gap 49 = .ok (.ireturn, 1) := by decide +kernel
theorem dX10_gap_50 : decode cX10_gap 50 = .ok (.aload_n 0, 1) := by decide +kernel
theorem dX10_gap_51 : decode cX10_gap 51 = .ok (.getfield 61, 3) := by decide +kernel
theorem dX10_gap_54 : decode cX10_gap 54 = .ok (.iload_n 2, 1) := by decide +kernel
theorem dX10_gap_55 : decode cX10_gap 55 = .ok (.iload_n 1, 1) := by decide +kernel
theorem dX10_gap_56 : decode cX10_gap 56 = .ok (.invokestatic 291, 3) := by decide +kernel
theorem dX10_gap_59 : decode cX10_gap 59 = .ok (.iload_n 3, 1) := by decide +kernel
theorem dX10_gap_60 : decode cX10_gap 60 = .ok (.isub, 1) := by decide +kernel
theorem dX10_gap_61 : decode cX10_gap 61 = .ok (.ireturn, 1) := by decide +kernel
theorem dX10_pole_0 : decode cX10_pole 0 = .ok (.iload_n 1, 1) := by decide +kernel
theorem dX10_pole_1 : decode cX10_pole 1 = .ok (.invokestatic 115, 3) := by decide +kernel
theorem dX10_pole_4 : decode cX10_pole 4 = .ok (.ifCond .ne 5, 3) := by decide +kernel
theorem dX10_pole_7 : decode cX10_pole 7 = .ok (.iconst (-1), 1) := by decide +kernel
theorem dX10_pole_8 : decode cX10_pole 8 = .ok (.ireturn, 1) := by decide +kernel
theorem dX10_pole_9 : decode cX10_pole 9 = .ok (.iload_n 2, 1) := by decide +kernel
theorem dX10_pole_10 : decode cX10_pole 10 = .ok (.invokestatic 151, 3) := by decide +kernel
theorem dX10_pole_13 : decode cX10_pole 13 = .ok (.ifCond .ne 6, 3) := by decide +kernel
theorem dX10_pole_16 : decode cX10_pole 16 = .ok (.bipush (-2), 2) := by decide +kernel
theorem dX10_pole_18 : decode cX10_pole 18 = .ok (.ireturn, 1) := by decide +kernel
theorem dX10_pole_19 : decode cX10_pole 19 = .ok (.aload_n 0, 1) := by decide +kernel
theorem dX10_pole_20 : decode cX10_pole 20 = .ok (.getfield 54, 3) := by decide +kernel
theorem dX10_pole_23 : decode cX10_pole 23 = .ok (.aload_n 0, 1) := by decide +kernel
theorem dX10_pole_24 : decode cX10_pole 24 = .ok (.getfield 61, 3) := by decide +kernel
theorem dX10_pole_27 : decode cX10_pole 27 = .ok (.iload_n 1, 1) := by decide +kernel
theorem dX10_pole_28 : decode cX10_pole 28 = .ok (.iload_n 2, 1) := by decide +kernel
theorem dX10_pole_29 : decode cX10_pole 29 = .ok (.invokestatic 294, 3) := by decide +kernel
theorem dX10_pole_32 : decode cX10_pole 32 = .ok (.ireturn, 1) := by decide +kernel
theorem dX10_elsewhere_0 : decode cX10_elsewhere 0 = .ok (.iload_n 1, 1) := by decide +kernel
theorem dX10_elsewhere_1 : decode cX10_elsewhere 1 = .ok (.invokestatic 115, 3) := by decide +kernel
theorem dX10_elsewhere_4 : decode cX10_elsewhere 4 = .ok (.ifCond .ne 5, 3) := by decide +kernel
theorem dX10_elsewhere_7 : decode cX10_elsewhere 7 = .ok (.iconst (-1), 1) := by decide +kernel
theorem dX10_elsewhere_8 : decode cX10_elsewhere 8 = .ok (.ireturn, 1) := by decide +kernel
theorem dX10_elsewhere_9 : decode cX10_elsewhere 9 = .ok (.iconst 0, 1) := by decide +kernel
theorem dX10_elsewhere_10 : decode cX10_elsewhere 10 = .ok (.istore_n 2, 1) := by decide +kernel
theorem dX10_elsewhere_11 : decode cX10_elsewhere 11 = .ok (.iconst (-1), 1) := by decide +kernel
theorem dX10_elsewhere_12 : decode cX10_elsewhere 12 = .ok (.istore_n 3, 1) := by decide +kernel
theorem dX10_elsewhere_13 : decode cX10_elsewhere 13 = .ok (.iconst 0, 1) := by decide +kernel
theorem dX10_elsewhere_14 : decode cX10_elsewhere 14 = .ok (.istore 4, 2) := by decide +kernel
theorem dX10_elsewhere_16 : decode cX10_elsewhere 16 = .ok (.iload 4, 2) := by decide +kernel
theorem dX10_elsewhere_18 : decode cX10_elsewhere 18 = .ok (.bipush 6, 2) := by decide +kernel
theorem dX10_elsewhere_20 : decode cX10_elsewhere 20 = .ok (.if_icmp .ge 37, 3) := by decide +kernel
theorem dX10_elsewhere_23 : decode cX10_elsewhere 23 = .ok (.aload_n 0, 1) := by decide +kernel
theorem dX10_elsewhere_24 : decode cX10_elsewhere 24 = .ok (.getfield 54, 3) := by decide +kernel
theorem dX10_elsewhere_27 : decode cX10_elsewhere 27 = .ok (.aload_n 0, 1) := by decide +kernel
theorem dX10_elsewhere_28 : decode cX10_elsewhere 28 = .ok (.getfield 61, 3) := by decide +kernel
theorem dX10_elsewhere_31 : decode cX10_elsewhere 31 = .ok (.iload_n 1, 1) := by decide +kernel
theorem dX10_elsewhere_32 : decode cX10_elsewhere 32 = .ok (.iload 4, 2) := by decide +kernel
theorem dX10_elsewhere_34 : decode cX10_elsewhere 34 = .ok (.invokestatic 294, 3) := by decide +kernel
theorem dX10_elsewhere_37 : decode cX10_elsewhere 37 = .ok (.istore 5, 2) := by decide +kernel
theorem dX10_elsewhere_39 : decode cX10_elsewhere 39 = .ok (.iload 5, 2) := by decide +kernel
theorem dX10_elsewhere_41 : decode cX10_elsewhere 41 = .ok (.iload_n 3, 1) := by decide +kernel
theorem dX10_elsewhere_42 : decode cX10_elsewhere 42 = .ok (.if_icmp .le 9, 3) := by decide +kernel
theorem dX10_elsewhere_45 : decode cX10_elsewhere 45 = .ok (.iload 5, 2) := by decide +kernel
theorem dX10_elsewhere_47 : decode cX10_elsewhere 47 = .ok (.istore_n 3, 1) := by decide +kernel
theorem dX10_elsewhere_48 : decode cX10_elsewhere 48 = .ok (.iload 4, 2) := by decide +kernel
theorem dX10_elsewhere_50 : decode cX10_elsewhere 50 = .ok (.istore_n 2, 1) := by decide +kernel
theorem dX10_elsewhere_51 : decode cX10_elsewhere 51 = .ok (.iinc 4 1, 3) := by decide +kernel
theorem dX10_elsewhere_54 : decode cX10_elsewhere 54 = .ok (.goto (-38), 3) := by decide +kernel
theorem dX10_elsewhere_57 : decode cX10_elsewhere 57 = .ok (.iload_n 2, 1) := by decide +kernel
theorem dX10_elsewhere_58 : decode cX10_elsewhere 58 = .ok (.ireturn, 1) := by decide +kernel
theorem dX10_keep_0 : decode cX10_keep 0 = .ok (.iload_n 1, 1) := by decide +kernel
theorem dX10_keep_1 : decode cX10_keep 1 = .ok (.invokestatic 297, 3) := by decide +kernel
theorem dX10_keep_4 : decode cX10_keep 4 = .ok (.ifCond .ne 5, 3) := by decide +kernel
theorem dX10_keep_7 : decode cX10_keep 7 = .ok (.iconst (-1), 1) := by decide +kernel
theorem dX10_keep_8 : decode cX10_keep 8 = .ok (.ireturn, 1) := by decide +kernel
theorem dX10_keep_9 : decode cX10_keep 9 = .ok (.aload_n 0, 1) := by decide +kernel
theorem dX10_keep_10 : decode cX10_keep 10 = .ok (.getfield 79, 3) := by decide +kernel
theorem dX10_keep_13 : decode cX10_keep 13 = .ok (.iload_n 1, 1) := by decide +kernel
theorem dX10_keep_14 : decode cX10_keep 14 = .ok (.aaload, 1) := by decide +kernel
theorem dX10_keep_15 : decode cX10_keep 15 = .ok (.aload_n 0, 1) := by decide +kernel
theorem dX10_keep_16 : decode cX10_keep 16 = .ok (.getfield 61, 3) := by decide +kernel
theorem dX10_keep_19 : decode cX10_keep 19 = .ok (.invokevirtual 300, 3) := by decide +kernel
theorem dX10_keep_22 : decode cX10_keep 22 = .ok (.aload_n 0, 1) := by decide +kernel
theorem dX10_keep_23 : decode cX10_keep 23 = .ok (.getfield 79, 3) := by decide +kernel
theorem dX10_keep_26 : decode cX10_keep 26 = .ok (.iload_n 1, 1) := by decide +kernel
theorem dX10_keep_27 : decode cX10_keep 27 = .ok (.aaload, 1) := by decide +kernel
theorem dX10_keep_28 : decode cX10_keep 28 = .ok (.iconst 1, 1) := by decide +kernel
theorem dX10_keep_29 : decode cX10_keep 29 = .ok (.putfield 303, 3) := by decide +kernel
theorem dX10_keep_32 : decode cX10_keep 32 = .ok (.aload_n 0, 1) := by decide +kernel
theorem dX10_keep_33 : decode cX10_keep 33 = .ok (.getfield 61, 3) := by decide +kernel
theorem dX10_keep_36 : decode cX10_keep 36 = .ok (.getfield 208, 3) := by decide +kernel
theorem dX10_keep_39 : decode cX10_keep 39 = .ok (.ireturn, 1) := by decide +kernel
theorem dX10_again_0 : decode cX10_again 0 = .ok (.iload_n 1, 1) := by decide +kernel
theorem dX10_again_1 : decode cX10_again 1 = .ok (.invokestatic 297, 3) := by decide +kernel
theorem dX10_again_4 : decode cX10_again 4 = .ok (.ifCond .ne 5, 3) := by decide +kernel
theorem dX10_again_7 : decode cX10_again 7 = .ok (.iconst (-1), 1) := by decide +kernel
theorem dX10_again_8 : decode cX10_again 8 = .ok (.ireturn, 1) := by decide +kernel
theorem dX10_again_9 : decode cX10_again 9 = .ok (.aload_n 0, 1) := by decide +kernel
theorem dX10_again_10 : decode cX10_again 10 = .ok (.getfield 79, 3) := by decide +kernel
theorem dX10_again_13 : decode cX10_again 13 = .ok (.iload_n 1, 1) := by decide +kernel
theorem dX10_again_14 : decode cX10_again 14 = .ok (.aaload, 1) := by decide +kernel
theorem dX10_again_15 : decode cX10_again 15 = .ok (.getfield 303, 3) := by decide +kernel
theorem dX10_again_18 : decode cX10_again 18 = .ok (.ifCond .ne 6, 3) := by decide +kernel
theorem dX10_again_21 : decode cX10_again 21 = .ok (.bipush (-3), 2) := by decide +kernel
theorem dX10_again_23 : decode cX10_again 23 = .ok (.ireturn, 1) := by decide +kernel
theorem dX10_again_24 : decode cX10_again 24 = .ok (.aload_n 0, 1) := by decide +kernel
theorem dX10_again_25 : decode cX10_again 25 = .ok (.getfield 61, 3) := by decide +kernel
theorem dX10_again_28 : decode cX10_again 28 = .ok (.aload_n 0, 1) := by decide +kernel
theorem dX10_again_29 : decode cX10_again 29 = .ok (.getfield 79, 3) := by decide +kernel
theorem dX10_again_32 : decode cX10_again 32 = .ok (.iload_n 1, 1) := by decide +kernel
theorem dX10_again_33 : decode cX10_again 33 = .ok (.aaload, 1) := by decide +kernel
theorem dX10_again_34 : decode cX10_again 34 = .ok (.invokevirtual 300, 3) := by decide +kernel
theorem dX10_again_37 : decode cX10_again 37 = .ok (.aload_n 0, 1) := by decide +kernel
theorem dX10_again_38 : decode cX10_again 38 = .ok (.getfield 61, 3) := by decide +kernel
theorem dX10_again_41 : decode cX10_again 41 = .ok (.getfield 208, 3) := by decide +kernel
theorem dX10_again_44 : decode cX10_again 44 = .ok (.ireturn, 1) := by decide +kernel
theorem dX10_count_0 : decode cX10_count 0 = .ok (.iload_n 1, 1) := by decide +kernel
theorem dX10_count_1 : decode cX10_count 1 = .ok (.tableswitch 63 0 3 #[31, 39, 47, 55], 31) := by decide +kernel
theorem dX10_count_32 : decode cX10_count 32 = .ok (.aload_n 0, 1) := by decide +kernel
theorem dX10_count_33 : decode cX10_count 33 = .ok (.getfield 10, 3) := by decide +kernel
theorem dX10_count_36 : decode cX10_count 36 = .ok (.getfield 95, 3) := by decide +kernel
theorem dX10_count_39 : decode cX10_count 39 = .ok (.ireturn, 1) := by decide +kernel
theorem dX10_count_40 : decode cX10_count 40 = .ok (.aload_n 0, 1) := by decide +kernel
theorem dX10_count_41 : decode cX10_count 41 = .ok (.getfield 61, 3) := by decide +kernel
theorem dX10_count_44 : decode cX10_count 44 = .ok (.getfield 208, 3) := by decide +kernel
theorem dX10_count_47 : decode cX10_count 47 = .ok (.ireturn, 1) := by decide +kernel
theorem dX10_count_48 : decode cX10_count 48 = .ok (.aload_n 0, 1) := by decide +kernel
theorem dX10_count_49 : decode cX10_count 49 = .ok (.getfield 61, 3) := by decide +kernel
theorem dX10_count_52 : decode cX10_count 52 = .ok (.invokevirtual 307, 3) := by decide +kernel
theorem dX10_count_55 : decode cX10_count 55 = .ok (.ireturn, 1) := by decide +kernel
theorem dX10_count_56 : decode cX10_count 56 = .ok (.aload_n 0, 1) := by decide +kernel
theorem dX10_count_57 : decode cX10_count 57 = .ok (.getfield 61, 3) := by decide +kernel
theorem dX10_count_60 : decode cX10_count 60 = .ok (.invokevirtual 310, 3) := by decide +kernel
theorem dX10_count_63 : decode cX10_count 63 = .ok (.ireturn, 1) := by decide +kernel
theorem dX10_count_64 : decode cX10_count 64 = .ok (.bipush (-2), 2) := by decide +kernel
theorem dX10_count_66 : decode cX10_count 66 = .ok (.ireturn, 1) := by decide +kernel
theorem dX10_within_0 : decode cX10_within 0 = .ok (.iload_n 0, 1) := by decide +kernel
theorem dX10_within_1 : decode cX10_within 1 = .ok (.iload_n 1, 1) := by decide +kernel
theorem dX10_within_2 : decode cX10_within 2 = .ok (.if_icmp .lt 12, 3) := by decide +kernel
theorem dX10_within_5 : decode cX10_within 5 = .ok (.iload_n 0, 1) := by decide +kernel
theorem dX10_within_6 : decode cX10_within 6 = .ok (.iload_n 2, 1) := by decide +kernel
theorem dX10_within_7 : decode cX10_within 7 = .ok (.if_icmp .gt 7, 3) := by decide +kernel
theorem dX10_within_10 : decode cX10_within 10 = .ok (.iconst 1, 1) := by decide +kernel
theorem dX10_within_11 : decode cX10_within 11 = .ok (.goto 4, 3) := by decide +kernel
theorem dX10_within_14 : decode cX10_within 14 = .ok (.iconst 0, 1) := by decide +kernel
theorem dX10_within_15 : decode cX10_within 15 = .ok (.ireturn, 1) := by decide +kernel
theorem dX10_isBand_0 : decode cX10_isBand 0 = .ok (.iload_n 0, 1) := by decide +kernel
theorem dX10_isBand_1 : decode cX10_isBand 1 = .ok (.iconst 0, 1) := by decide +kernel
theorem dX10_isBand_2 : decode cX10_isBand 2 = .ok (.iconst 5, 1) := by decide +kernel
theorem dX10_isBand_3 : decode cX10_isBand 3 = .ok (.invokestatic 83, 3) := by decide +kernel
theorem dX10_isBand_6 : decode cX10_isBand 6 = .ok (.ireturn, 1) := by decide +kernel
theorem dX10_isIce_0 : decode cX10_isIce 0 = .ok (.iload_n 0, 1) := by decide +kernel
theorem dX10_isIce_1 : decode cX10_isIce 1 = .ok (.iconst 0, 1) := by decide +kernel
theorem dX10_isIce_2 : decode cX10_isIce 2 = .ok (.bipush 63, 2) := by decide +kernel
theorem dX10_isIce_4 : decode cX10_isIce 4 = .ok (.invokestatic 83, 3) := by decide +kernel
theorem dX10_isIce_7 : decode cX10_isIce 7 = .ok (.ireturn, 1) := by decide +kernel
theorem dX10_isAir_0 : decode cX10_isAir 0 = .ok (.iload_n 0, 1) := by decide +kernel
theorem dX10_isAir_1 : decode cX10_isAir 1 = .ok (.iconst 0, 1) := by decide +kernel
theorem dX10_isAir_2 : decode cX10_isAir 2 = .ok (.bipush 99, 2) := by decide +kernel
theorem dX10_isAir_4 : decode cX10_isAir 4 = .ok (.invokestatic 83, 3) := by decide +kernel
theorem dX10_isAir_7 : decode cX10_isAir 7 = .ok (.ireturn, 1) := by decide +kernel
theorem dX10_isRound_0 : decode cX10_isRound 0 = .ok (.iload_n 0, 1) := by decide +kernel
theorem dX10_isRound_1 : decode cX10_isRound 1 = .ok (.iconst 0, 1) := by decide +kernel
theorem dX10_isRound_2 : decode cX10_isRound 2 = .ok (.bipush 99, 2) := by decide +kernel
theorem dX10_isRound_4 : decode cX10_isRound 4 = .ok (.invokestatic 83, 3) := by decide +kernel
theorem dX10_isRound_7 : decode cX10_isRound 7 = .ok (.ireturn, 1) := by decide +kernel
theorem dX10_isStory_0 : decode cX10_isStory 0 = .ok (.iload_n 0, 1) := by decide +kernel
theorem dX10_isStory_1 : decode cX10_isStory 1 = .ok (.iconst 0, 1) := by decide +kernel
theorem dX10_isStory_2 : decode cX10_isStory 2 = .ok (.iconst 3, 1) := by decide +kernel
theorem dX10_isStory_3 : decode cX10_isStory 3 = .ok (.invokestatic 83, 3) := by decide +kernel
theorem dX10_isStory_6 : decode cX10_isStory 6 = .ok (.ireturn, 1) := by decide +kernel
theorem dX10_isLand_0 : decode cX10_isLand 0 = .ok (.iload_n 0, 1) := by decide +kernel
theorem dX10_isLand_1 : decode cX10_isLand 1 = .ok (.iconst 0, 1) := by decide +kernel
theorem dX10_isLand_2 : decode cX10_isLand 2 = .ok (.iconst 3, 1) := by decide +kernel
theorem dX10_isLand_3 : decode cX10_isLand 3 = .ok (.invokestatic 83, 3) := by decide +kernel
theorem dX10_isLand_6 : decode cX10_isLand 6 = .ok (.ireturn, 1) := by decide +kernel
theorem dX10_isSlot_0 : decode cX10_isSlot 0 = .ok (.iload_n 0, 1) := by decide +kernel
theorem dX10_isSlot_1 : decode cX10_isSlot 1 = .ok (.iconst 0, 1) := by decide +kernel
theorem dX10_isSlot_2 : decode cX10_isSlot 2 = .ok (.iconst 1, 1) := by decide +kernel
theorem dX10_isSlot_3 : decode cX10_isSlot 3 = .ok (.invokestatic 83, 3) := by decide +kernel
theorem dX10_isSlot_6 : decode cX10_isSlot 6 = .ok (.ireturn, 1) := by decide +kernel
theorem dX10_isBed_0 : decode cX10_isBed 0 = .ok (.iload_n 1, 1) := by decide +kernel
theorem dX10_isBed_1 : decode cX10_isBed 1 = .ok (.iconst 0, 1) := by decide +kernel
theorem dX10_isBed_2 : decode cX10_isBed 2 = .ok (.aload_n 0, 1) := by decide +kernel
theorem dX10_isBed_3 : decode cX10_isBed 3 = .ok (.getfield 61, 3) := by decide +kernel
theorem dX10_isBed_6 : decode cX10_isBed 6 = .ok (.getfield 208, 3) := by decide +kernel
theorem dX10_isBed_9 : decode cX10_isBed 9 = .ok (.iconst 1, 1) := by decide +kernel
theorem dX10_isBed_10 : decode cX10_isBed 10 = .ok (.isub, 1) := by decide +kernel
theorem dX10_isBed_11 : decode cX10_isBed 11 = .ok (.invokestatic 83, 3) := by decide +kernel
theorem dX10_isBed_14 : decode cX10_isBed 14 = .ok (.ireturn, 1) := by decide +kernel
theorem dX10_hasIce_0 : decode cX10_hasIce 0 = .ok (.iload_n 0, 1) := by decide +kernel
theorem dX10_hasIce_1 : decode cX10_hasIce 1 = .ok (.iload_n 1, 1) := by decide +kernel
theorem dX10_hasIce_2 : decode cX10_hasIce 2 = .ok (.ishr, 1) := by decide +kernel
theorem dX10_hasIce_3 : decode cX10_hasIce 3 = .ok (.iconst 1, 1) := by decide +kernel
theorem dX10_hasIce_4 : decode cX10_hasIce 4 = .ok (.iand, 1) := by decide +kernel
theorem dX10_hasIce_5 : decode cX10_hasIce 5 = .ok (.iconst 1, 1) := by decide +kernel
theorem dX10_hasIce_6 : decode cX10_hasIce 6 = .ok (.if_icmp .ne 7, 3) := by decide +kernel
theorem dX10_hasIce_9 : decode cX10_hasIce 9 = .ok (.iconst 1, 1) := by decide +kernel
theorem dX10_hasIce_10 : decode cX10_hasIce 10 = .ok (.goto 4, 3) := by decide +kernel
theorem dX10_hasIce_13 : decode cX10_hasIce 13 = .ok (.iconst 0, 1) := by decide +kernel
theorem dX10_hasIce_14 : decode cX10_hasIce 14 = .ok (.ireturn, 1) := by decide +kernel
theorem dX10_figure_0 : decode cX10_figure 0 = .ok (.iload_n 0, 1) := by decide +kernel
theorem dX10_figure_1 : decode cX10_figure 1 = .ok (.bipush 48, 2) := by decide +kernel
theorem dX10_figure_3 : decode cX10_figure 3 = .ok (.if_icmp .lt 16, 3) := by decide +kernel
theorem dX10_figure_6 : decode cX10_figure 6 = .ok (.iload_n 0, 1) := by decide +kernel
theorem dX10_figure_7 : decode cX10_figure 7 = .ok (.bipush 57, 2) := by decide +kernel
theorem dX10_figure_9 : decode cX10_figure 9 = .ok (.if_icmp .gt 10, 3) := by decide +kernel
theorem dX10_figure_12 : decode cX10_figure 12 = .ok (.iload_n 0, 1) := by decide +kernel
theorem dX10_figure_13 : decode cX10_figure 13 = .ok (.bipush 48, 2) := by decide +kernel
theorem dX10_figure_15 : decode cX10_figure 15 = .ok (.isub, 1) := by decide +kernel
theorem dX10_figure_16 : decode cX10_figure 16 = .ok (.goto 5, 3) := by decide +kernel
theorem dX10_figure_19 : decode cX10_figure 19 = .ok (.bipush (-9), 2) := by decide +kernel
theorem dX10_figure_21 : decode cX10_figure 21 = .ok (.ireturn, 1) := by decide +kernel
theorem dX10_told_0 : decode cX10_told 0 = .ok (.lload_n 0, 1) := by decide +kernel
theorem dX10_told_1 : decode cX10_told 1 = .ok (.lload_n 2, 1) := by decide +kernel
theorem dX10_told_2 : decode cX10_told 2 = .ok (.invokestatic 313, 3) := by decide +kernel
theorem dX10_told_5 : decode cX10_told 5 = .ok (.lstore 5, 2) := by decide +kernel
theorem dX10_told_7 : decode cX10_told 7 = .ok (.lload 5, 2) := by decide +kernel
theorem dX10_told_9 : decode cX10_told 9 = .ok (.lconst 0, 1) := by decide +kernel
theorem dX10_told_10 : decode cX10_told 10 = .ok (.lcmp, 1) := by decide +kernel
theorem dX10_told_11 : decode cX10_told 11 = .ok (.ifCond .gt 7, 3) := by decide +kernel
theorem dX10_told_14 : decode cX10_told 14 = .ok (.ldc2_w 317, 3) := by decide +kernel
theorem dX10_told_17 : decode cX10_told 17 = .ok (.lreturn, 1) := by decide +kernel
theorem dX10_told_18 : decode cX10_told 18 = .ok (.iload 4, 2) := by decide +kernel
theorem dX10_told_20 : decode cX10_told 20 = .ok (.ifCond .eq 10, 3) := by decide +kernel
theorem dX10_told_23 : decode cX10_told 23 = .ok (.lload_n 0, 1) := by decide +kernel
theorem dX10_told_24 : decode cX10_told 24 = .ok (.lload 5, 2) := by decide +kernel
theorem dX10_told_26 : decode cX10_told 26 = .ok (.ldiv, 1) := by decide +kernel
theorem dX10_told_27 : decode cX10_told 27 = .ok (.goto 7, 3) := by decide +kernel
theorem dX10_told_30 : decode cX10_told 30 = .ok (.lload_n 2, 1) := by decide +kernel
theorem dX10_told_31 : decode cX10_told 31 = .ok (.lload 5, 2) := by decide +kernel
theorem dX10_told_33 : decode cX10_told 33 = .ok (.ldiv, 1) := by decide +kernel
theorem dX10_told_34 : decode cX10_told 34 = .ok (.lreturn, 1) := by decide +kernel
theorem dX10_greatestCommon_0 : decode cX10_greatestCommon 0 = .ok (.lload_n 0, 1) := by decide +kernel
theorem dX10_greatestCommon_1 : decode cX10_greatestCommon 1 = .ok (.lstore 4, 2) := by decide +kernel
theorem dX10_greatestCommon_3 : decode cX10_greatestCommon 3 = .ok (.lload_n 2, 1) := by decide +kernel
theorem dX10_greatestCommon_4 : decode cX10_greatestCommon 4 = .ok (.lstore 6, 2) := by decide +kernel
theorem dX10_greatestCommon_6 : decode cX10_greatestCommon 6 = .ok (.iconst 0, 1) := by decide +kernel
theorem dX10_greatestCommon_7 : decode cX10_greatestCommon 7 = .ok (.istore 8, 2) := by decide +kernel
theorem dX10_greatestCommon_9 : decode cX10_greatestCommon 9 = .ok (.iload 8, 2) := by decide +kernel
theorem dX10_greatestCommon_11 : decode cX10_greatestCommon 11 = .ok (.bipush 100, 2) := by decide +kernel
theorem dX10_greatestCommon_13 : decode cX10_greatestCommon 13 = .ok (.if_icmp .ge 31, 3) := by decide +kernel
theorem dX10_greatestCommon_16 : decode cX10_greatestCommon 16 = .ok (.lload 6, 2) := by decide +kernel
theorem dX10_greatestCommon_18 : decode cX10_greatestCommon 18 = .ok (.lconst 0, 1) := by decide +kernel
theorem dX10_greatestCommon_19 : decode cX10_greatestCommon 19 = .ok (.lcmp, 1) := by decide +kernel
theorem dX10_greatestCommon_20 : decode cX10_greatestCommon 20 = .ok (.ifCond .eq 24, 3) := by decide +kernel
theorem dX10_greatestCommon_23 : decode cX10_greatestCommon 23 = .ok (.lload 4, 2) := by decide +kernel
theorem dX10_greatestCommon_25 : decode cX10_greatestCommon 25 = .ok (.lload 6, 2) := by decide +kernel
theorem dX10_greatestCommon_27 : decode cX10_greatestCommon 27 = .ok (.lrem, 1) := by decide +kernel
theorem dX10_greatestCommon_28 : decode cX10_greatestCommon 28 = .ok (.lstore 9, 2) := by decide +kernel
theorem dX10_greatestCommon_30 : decode cX10_greatestCommon 30 = .ok (.lload 6, 2) := by decide +kernel
theorem dX10_greatestCommon_32 : decode cX10_greatestCommon 32 = .ok (.lstore 4, 2) := by decide +kernel
theorem dX10_greatestCommon_34 : decode cX10_greatestCommon 34 = .ok (.lload 9, 2) := by decide +kernel
theorem dX10_greatestCommon_36 : decode cX10_greatestCommon 36 = .ok (.lstore 6, 2) := by decide +kernel
theorem dX10_greatestCommon_38 : decode cX10_greatestCommon 38 = .ok (.iinc 8 1, 3) := by decide +kernel
theorem dX10_greatestCommon_41 : decode cX10_greatestCommon 41 = .ok (.goto (-32), 3) := by decide +kernel
theorem dX10_greatestCommon_44 : decode cX10_greatestCommon 44 = .ok (.lload 4, 2) := by decide +kernel
theorem dX10_greatestCommon_46 : decode cX10_greatestCommon 46 = .ok (.lreturn, 1) := by decide +kernel
