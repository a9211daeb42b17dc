theorem dX0_init_0 : decode cX0_init 0 = .ok (.aload_n 0, 1) := by decide +kernel
theorem dX0_init_1 : decode cX0_init 1 = .ok (.invokespecial 3, 3) := by decide +kernel
theorem dX0_init_4 : decode cX0_init 4 = .ok (.aload_n 0, 1) := by decide +kernel
theorem dX0_init_5 : decode cX0_init 5 = .ok (.sipush 400, 3) := by decide +kernel
theorem dX0_init_8 : decode cX0_init 8 = .ok (.newarray .int, 2) := by decide +kernel
theorem dX0_init_10 : decode cX0_init 10 = .ok (.putfield 9, 3) := by decide +kernel
theorem dX0_init_13 : decode cX0_init 13 = .ok (.return_, 1) := by decide +kernel
theorem dX0_tell_0 : decode cX0_tell 0 = .ok (.iload_n 1, 1) := by decide +kernel
theorem dX0_tell_1 : decode cX0_tell 1 = .ok (.invokestatic 15, 3) := by decide +kernel
theorem dX0_tell_4 : decode cX0_tell 4 = .ok (.ifCond .eq 22, 3) := by decide +kernel
theorem dX0_tell_7 : decode cX0_tell 7 = .ok (.iload_n 2, 1) := by decide +kernel
theorem dX0_tell_8 : decode cX0_tell 8 = .ok (.invokestatic 19, 3) := by decide +kernel
theorem dX0_tell_11 : decode cX0_tell 11 = .ok (.ifCond .eq 15, 3) := by decide +kernel
theorem dX0_tell_14 : decode cX0_tell 14 = .ok (.aload_n 0, 1) := by decide +kernel
theorem dX0_tell_15 : decode cX0_tell 15 = .ok (.getfield 9, 3) := by decide +kernel
theorem dX0_tell_18 : decode cX0_tell 18 = .ok (.iload_n 1, 1) := by decide +kernel
theorem dX0_tell_19 : decode cX0_tell 19 = .ok (.bipush 100, 2) := by decide +kernel
theorem dX0_tell_21 : decode cX0_tell 21 = .ok (.imul, 1) := by decide +kernel
theorem dX0_tell_22 : decode cX0_tell 22 = .ok (.iload_n 2, 1) := by decide +kernel
theorem dX0_tell_23 : decode cX0_tell 23 = .ok (.iadd, 1) := by decide +kernel
theorem dX0_tell_24 : decode cX0_tell 24 = .ok (.iload_n 3, 1) := by decide +kernel
theorem dX0_tell_25 : decode cX0_tell 25 = .ok (.iastore, 1) := by decide +kernel
theorem dX0_tell_26 : decode cX0_tell 26 = .ok (.return_, 1) := by decide +kernel
theorem dX0_iceOf_0 : decode cX0_iceOf 0 = .ok (.iload_n 1, 1) := by decide +kernel
theorem dX0_iceOf_1 : decode cX0_iceOf 1 = .ok (.invokestatic 15, 3) := by decide +kernel
theorem dX0_iceOf_4 : decode cX0_iceOf 4 = .ok (.ifCond .eq 24, 3) := by decide +kernel
theorem dX0_iceOf_7 : decode cX0_iceOf 7 = .ok (.iload_n 2, 1) := by decide +kernel
theorem dX0_iceOf_8 : decode cX0_iceOf 8 = .ok (.invokestatic 19, 3) := by decide +kernel
theorem dX0_iceOf_11 : decode cX0_iceOf 11 = .ok (.ifCond .eq 17, 3) := by decide +kernel
theorem dX0_iceOf_14 : decode cX0_iceOf 14 = .ok (.aload_n 0, 1) := by decide +kernel
theorem dX0_iceOf_15 : decode cX0_iceOf 15 = .ok (.getfield 9, 3) := by decide +kernel
theorem dX0_iceOf_18 : decode cX0_iceOf 18 = .ok (.iload_n 1, 1) := by decide +kernel
theorem dX0_iceOf_19 : decode cX0_iceOf 19 = .ok (.bipush 100, 2) := by decide +kernel
theorem dX0_iceOf_21 : decode cX0_iceOf 21 = .ok (.imul, 1) := by decide +kernel
theorem dX0_iceOf_22 : decode cX0_iceOf 22 = .ok (.iload_n 2, 1) := by decide +kernel
theorem dX0_iceOf_23 : decode cX0_iceOf 23 = .ok (.iadd, 1) := by decide +kernel
theorem dX0_iceOf_24 : decode cX0_iceOf 24 = .ok (.iaload, 1) := by decide +kernel
theorem dX0_iceOf_25 : decode cX0_iceOf 25 = .ok (.goto 4, 3) := by decide +kernel
theorem dX0_iceOf_28 : decode cX0_iceOf 28 = .ok (.iconst 0, 1) := by decide +kernel
theorem dX0_iceOf_29 : decode cX0_iceOf 29 = .ok (.ireturn, 1) := by decide +kernel
theorem dX0_someIce_0 : decode cX0_someIce 0 = .ok (.iconst 0, 1) := by decide +kernel
theorem dX0_someIce_1 : decode cX0_someIce 1 = .ok (.istore 4, 2) := by decide +kernel
theorem dX0_someIce_3 : decode cX0_someIce 3 = .ok (.iload_n 2, 1) := by decide +kernel
theorem dX0_someIce_4 : decode cX0_someIce 4 = .ok (.istore 5, 2) := by decide +kernel
theorem dX0_someIce_6 : decode cX0_someIce 6 = .ok (.iload 5, 2) := by decide +kernel
theorem dX0_someIce_8 : decode cX0_someIce 8 = .ok (.iload_n 3, 1) := by decide +kernel
theorem dX0_someIce_9 : decode cX0_someIce 9 = .ok (.if_icmp .gt 21, 3) := by decide +kernel
theorem dX0_someIce_12 : decode cX0_someIce 12 = .ok (.iload 4, 2) := by decide +kernel
theorem dX0_someIce_14 : decode cX0_someIce 14 = .ok (.aload_n 0, 1) := by decide +kernel
theorem dX0_someIce_15 : decode cX0_someIce 15 = .ok (.iload_n 1, 1) := by decide +kernel
theorem dX0_someIce_16 : decode cX0_someIce 16 = .ok (.iload 5, 2) := by decide +kernel
theorem dX0_someIce_18 : decode cX0_someIce 18 = .ok (.invokevirtual 22, 3) := by decide +kernel
theorem dX0_someIce_21 : decode cX0_someIce 21 = .ok (.ior, 1) := by decide +kernel
theorem dX0_someIce_22 : decode cX0_someIce 22 = .ok (.istore 4, 2) := by decide +kernel
theorem dX0_someIce_24 : decode cX0_someIce 24 = .ok (.iinc 5 1, 3) := by decide +kernel
theorem dX0_someIce_27 : decode cX0_someIce 27 = .ok (.goto (-21), 3) := by decide +kernel
theorem dX0_someIce_30 : decode cX0_someIce 30 = .ok (.iload 4, 2) := by decide +kernel
theorem dX0_someIce_32 : decode cX0_someIce 32 = .ok (.ireturn, 1) := by decide +kernel
theorem dX0_lastingIce_0 : decode cX0_lastingIce 0 = .ok (.bipush 63, 2) := by decide +kernel
theorem dX0_lastingIce_2 : decode cX0_lastingIce 2 = .ok (.istore 4, 2) := by decide +kernel
theorem dX0_lastingIce_4 : decode cX0_lastingIce 4 = .ok (.iload_n 2, 1) := by decide +kernel
theorem dX0_lastingIce_5 : decode cX0_lastingIce 5 = .ok (.istore 5, 2) := by decide +kernel
theorem dX0_lastingIce_7 : decode cX0_lastingIce 7 = .ok (.iload 5, 2) := by decide +kernel
theorem dX0_lastingIce_9 : decode cX0_lastingIce 9 = .ok (.iload_n 3, 1) := by decide +kernel
theorem dX0_lastingIce_10 : decode cX0_lastingIce 10 = .ok (.if_icmp .gt 21, 3) := by decide +kernel
theorem dX0_lastingIce_13 : decode cX0_lastingIce 13 = .ok (.iload 4, 2) := by decide +kernel
theorem dX0_lastingIce_15 : decode cX0_lastingIce 15 = .ok (.aload_n 0, 1) := by decide +kernel
theorem dX0_lastingIce_16 : decode cX0_lastingIce 16 = .ok (.iload_n 1, 1) := by decide +kernel
theorem dX0_lastingIce_17 : decode cX0_lastingIce 17 = .ok (.iload 5, 2) := by decide +kernel
theorem dX0_lastingIce_19 : decode cX0_lastingIce 19 = .ok (.invokevirtual 22, 3) := by decide +kernel
theorem dX0_lastingIce_22 : decode cX0_lastingIce 22 = .ok (.iand, 1) := by decide +kernel
theorem dX0_lastingIce_23 : decode cX0_lastingIce 23 = .ok (.istore 4, 2) := by decide +kernel
theorem dX0_lastingIce_25 : decode cX0_lastingIce 25 = .ok (.iinc 5 1, 3) := by decide +kernel
theorem dX0_lastingIce_28 : decode cX0_lastingIce 28 = .ok (.goto (-21), 3) := by decide +kernel
theorem dX0_lastingIce_31 : decode cX0_lastingIce 31 = .ok (.iload 4, 2) := by decide +kernel
theorem dX0_lastingIce_33 : decode cX0_lastingIce 33 = .ok (.ireturn, 1) := by decide +kernel
theorem dX1_init_0 : decode cX1_init 0 = .ok (.aload_n 0, 1) := by decide +kernel
theorem dX1_init_1 : decode cX1_init 1 = .ok (.invokespecial 3, 3) := by decide +kernel
theorem dX1_init_4 : decode cX1_init 4 = .ok (.aload_n 0, 1) := by decide +kernel
theorem dX1_init_5 : decode cX1_init 5 = .ok (.bipush 100, 2) := by decide +kernel
theorem dX1_init_7 : decode cX1_init 7 = .ok (.newarray .int, 2) := by decide +kernel
theorem dX1_init_9 : decode cX1_init 9 = .ok (.putfield 9, 3) := by decide +kernel
theorem dX1_init_12 : decode cX1_init 12 = .ok (.return_, 1) := by decide +kernel
theorem dX1_follow_0 : decode cX1_follow 0 = .ok (.iload 4, 2) := by decide +kernel
theorem dX1_follow_2 : decode cX1_follow 2 = .ok (.iload_n 3, 1) := by decide +kernel
theorem dX1_follow_3 : decode cX1_follow 3 = .ok (.if_icmp .ge 7, 3) := by decide +kernel
theorem dX1_follow_6 : decode cX1_follow 6 = .ok (.iconst (-1), 1) := by decide +kernel
theorem dX1_follow_7 : decode cX1_follow 7 = .ok (.goto 4, 3) := by decide +kernel
theorem dX1_follow_10 : decode cX1_follow 10 = .ok (.iconst 1, 1) := by decide +kernel
theorem dX1_follow_11 : decode cX1_follow 11 = .ok (.istore 5, 2) := by decide +kernel
theorem dX1_follow_13 : decode cX1_follow 13 = .ok (.iload 4, 2) := by decide +kernel
theorem dX1_follow_15 : decode cX1_follow 15 = .ok (.iload_n 3, 1) := by decide +kernel
theorem dX1_follow_16 : decode cX1_follow 16 = .ok (.isub, 1) := by decide +kernel
theorem dX1_follow_17 : decode cX1_follow 17 = .ok (.invokestatic 15, 3) := by decide +kernel
theorem dX1_follow_20 : decode cX1_follow 20 = .ok (.istore 6, 2) := by decide +kernel
theorem dX1_follow_22 : decode cX1_follow 22 = .ok (.aload_n 0, 1) := by decide +kernel
theorem dX1_follow_23 : decode cX1_follow 23 = .ok (.iconst 0, 1) := by decide +kernel
theorem dX1_follow_24 : decode cX1_follow 24 = .ok (.putfield 21, 3) := by decide +kernel
theorem dX1_follow_27 : decode cX1_follow 27 = .ok (.aload_n 0, 1) := by decide +kernel
theorem dX1_follow_28 : decode cX1_follow 28 = .ok (.iload_n 2, 1) := by decide +kernel
theorem dX1_follow_29 : decode cX1_follow 29 = .ok (.putfield 25, 3) := by decide +kernel
theorem dX1_follow_32 : decode cX1_follow 32 = .ok (.iconst 0, 1) := by decide +kernel
theorem dX1_follow_33 : decode cX1_follow 33 = .ok (.istore 7, 2) := by decide +kernel
theorem dX1_follow_35 : decode cX1_follow 35 = .ok (.iload 7, 2) := by decide +kernel
theorem dX1_follow_37 : decode cX1_follow 37 = .ok (.iload 6, 2) := by decide +kernel
theorem dX1_follow_39 : decode cX1_follow 39 = .ok (.if_icmp .gt 71, 3) := by decide +kernel
theorem dX1_follow_42 : decode cX1_follow 42 = .ok (.aload_n 0, 1) := by decide +kernel
theorem dX1_follow_43 : decode cX1_follow 43 = .ok (.getfield 25, 3) := by decide +kernel
theorem dX1_follow_46 : decode cX1_follow 46 = .ok (.bipush (-9), 2) := by decide +kernel
theorem dX1_follow_48 : decode cX1_follow 48 = .ok (.if_icmp .eq 62, 3) := by decide +kernel
theorem dX1_follow_51 : decode cX1_follow 51 = .ok (.aload_n 1, 1) := by decide +kernel
theorem dX1_follow_52 : decode cX1_follow 52 = .ok (.aload_n 0, 1) := by decide +kernel
theorem dX1_follow_53 : decode cX1_follow 53 = .ok (.getfield 25, 3) := by decide +kernel
theorem dX1_follow_56 : decode cX1_follow 56 = .ok (.iload_n 3, 1) := by decide +kernel
theorem dX1_follow_57 : decode cX1_follow 57 = .ok (.iload 5, 2) := by decide +kernel
theorem dX1_follow_59 : decode cX1_follow 59 = .ok (.iload 7, 2) := by decide +kernel
theorem dX1_follow_61 : decode cX1_follow 61 = .ok (.imul, 1) := by decide +kernel
theorem dX1_follow_62 : decode cX1_follow 62 = .ok (.iadd, 1) := by decide +kernel
theorem dX1_follow_63 : decode cX1_follow 63 = .ok (.invokevirtual 28, 3) := by decide +kernel
theorem dX1_follow_66 : decode cX1_follow 66 = .ok (.istore 8, 2) := by decide +kernel
theorem dX1_follow_68 : decode cX1_follow 68 = .ok (.iload 8, 2) := by decide +kernel
theorem dX1_follow_70 : decode cX1_follow 70 = .ok (.bipush (-9), 2) := by decide +kernel
theorem dX1_follow_72 : decode cX1_follow 72 = .ok (.if_icmp .eq 26, 3) := by decide +kernel
theorem dX1_follow_75 : decode cX1_follow 75 = .ok (.aload_n 0, 1) := by decide +kernel
theorem dX1_follow_76 : decode cX1_follow 76 = .ok (.getfield 25, 3) := by decide +kernel
theorem dX1_follow_79 : decode cX1_follow 79 = .ok (.iload 8, 2) := by decide +kernel
theorem dX1_follow_81 : decode cX1_follow 81 = .ok (.invokestatic 34, 3) := by decide +kernel
theorem dX1_follow_84 : decode cX1_follow 84 = .ok (.ifCond .eq 14, 3) := by decide +kernel
theorem dX1_follow_87 : decode cX1_follow 87 = .ok (.aload_n 0, 1) := by decide +kernel
theorem dX1_follow_88 : decode cX1_follow 88 = .ok (.iload_n 3, 1) := by decide +kernel
theorem dX1_follow_89 : decode cX1_follow 89 = .ok (.iload 5, 2) := by decide +kernel
theorem dX1_follow_91 : decode cX1_follow 91 = .ok (.iload 7, 2) := by decide +kernel
theorem dX1_follow_93 : decode cX1_follow 93 = .ok (.imul, 1) := by decide +kernel
theorem dX1_follow_94 : decode cX1_follow 94 = .ok (.iadd, 1) := by decide +kernel
theorem dX1_follow_95 : decode cX1_follow 95 = .ok (.invokevirtual 38, 3) := by decide +kernel
theorem dX1_follow_98 : decode cX1_follow 98 = .ok (.aload_n 0, 1) := by decide +kernel
theorem dX1_follow_99 : decode cX1_follow 99 = .ok (.iload 8, 2) := by decide +kernel
theorem dX1_follow_101 : decode cX1_follow 101 = .ok (.putfield 25, 3) := by decide +kernel
theorem dX1_follow_104 : decode cX1_follow 104 = .ok (.iinc 7 1, 3) := by decide +kernel
theorem dX1_follow_107 : decode cX1_follow 107 = .ok (.goto (-72), 3) := by decide +kernel
theorem dX1_follow_110 : decode cX1_follow 110 = .ok (.return_, 1) := by decide +kernel
theorem dX1_airOf_0 : decode cX1_airOf 0 = .ok (.iload_n 1, 1) := by decide +kernel
theorem dX1_airOf_1 : decode cX1_airOf 1 = .ok (.iconst 0, 1) := by decide +kernel
theorem dX1_airOf_2 : decode cX1_airOf 2 = .ok (.aload_n 0, 1) := by decide +kernel
theorem dX1_airOf_3 : decode cX1_airOf 3 = .ok (.getfield 21, 3) := by decide +kernel
theorem dX1_airOf_6 : decode cX1_airOf 6 = .ok (.iconst 1, 1) := by decide +kernel
theorem dX1_airOf_7 : decode cX1_airOf 7 = .ok (.isub, 1) := by decide +kernel
theorem dX1_airOf_8 : decode cX1_airOf 8 = .ok (.invokestatic 42, 3) := by decide +kernel
theorem dX1_airOf_11 : decode cX1_airOf 11 = .ok (.ifCond .eq 12, 3) := by decide +kernel
theorem dX1_airOf_14 : decode cX1_airOf 14 = .ok (.aload_n 0, 1) := by decide +kernel
theorem dX1_airOf_15 : decode cX1_airOf 15 = .ok (.getfield 9, 3) := by decide +kernel
theorem dX1_airOf_18 : decode cX1_airOf 18 = .ok (.iload_n 1, 1) := by decide +kernel
theorem dX1_airOf_19 : decode cX1_airOf 19 = .ok (.iaload, 1) := by decide +kernel
theorem dX1_airOf_20 : decode cX1_airOf 20 = .ok (.goto 5, 3) := by decide +kernel
theorem dX1_airOf_23 : decode cX1_airOf 23 = .ok (.bipush (-9), 2) := by decide +kernel
theorem dX1_airOf_25 : decode cX1_airOf 25 = .ok (.ireturn, 1) := by decide +kernel
theorem dX1_isJump_0 : decode cX1_isJump 0 = .ok (.iload_n 0, 1) := by decide +kernel
theorem dX1_isJump_1 : decode cX1_isJump 1 = .ok (.invokestatic 46, 3) := by decide +kernel
theorem dX1_isJump_4 : decode cX1_isJump 4 = .ok (.iload_n 1, 1) := by decide +kernel
theorem dX1_isJump_5 : decode cX1_isJump 5 = .ok (.invokestatic 46, 3) := by decide +kernel
theorem dX1_isJump_8 : decode cX1_isJump 8 = .ok (.isub, 1) := by decide +kernel
theorem dX1_isJump_9 : decode cX1_isJump 9 = .ok (.invokestatic 15, 3) := by decide +kernel
theorem dX1_isJump_12 : decode cX1_isJump 12 = .ok (.iconst 2, 1) := by decide +kernel
theorem dX1_isJump_13 : decode cX1_isJump 13 = .ok (.if_icmp .lt 7, 3) := by decide +kernel
theorem dX1_isJump_16 : decode cX1_isJump 16 = .ok (.iconst 1, 1) := by decide +kernel
theorem dX1_isJump_17 : decode cX1_isJump 17 = .ok (.goto 4, 3) := by decide +kernel
theorem dX1_isJump_20 : decode cX1_isJump 20 = .ok (.iconst 0, 1) := by decide +kernel
theorem dX1_isJump_21 : decode cX1_isJump 21 = .ok (.ireturn, 1) := by decide +kernel
theorem dX1_add_0 : decode cX1_add 0 = .ok (.aload_n 0, 1) := by decide +kernel
theorem dX1_add_1 : decode cX1_add 1 = .ok (.getfield 21, 3) := by decide +kernel
theorem dX1_add_4 : decode cX1_add 4 = .ok (.bipush 100, 2) := by decide +kernel
theorem dX1_add_6 : decode cX1_add 6 = .ok (.if_icmp .ge 23, 3) := by decide +kernel
theorem dX1_add_9 : decode cX1_add 9 = .ok (.aload_n 0, 1) := by decide +kernel
theorem dX1_add_10 : decode cX1_add 10 = .ok (.getfield 9, 3) := by decide +kernel
theorem dX1_add_13 : decode cX1_add 13 = .ok (.aload_n 0, 1) := by decide +kernel
theorem dX1_add_14 : decode cX1_add 14 = .ok (.getfield 21, 3) := by decide +kernel
theorem dX1_add_17 : decode cX1_add 17 = .ok (.iload_n 1, 1) := by decide +kernel
theorem dX1_add_18 : decode cX1_add 18 = .ok (.iastore, 1) := by decide +kernel
theorem dX1_add_19 : decode cX1_add 19 = .ok (.aload_n 0, 1) := by decide +kernel
theorem dX1_add_20 : decode cX1_add 20 = .ok (.dup, 1) := by decide +kernel
theorem dX1_add_21 : decode cX1_add 21 = .ok (.getfield 21, 3) := by decide +kernel
theorem dX1_add_24 : decode cX1_add 24 = .ok (.iconst 1, 1) := by decide +kernel
theorem dX1_add_25 : decode cX1_add 25 = .ok (.iadd, 1) := by decide +kernel
theorem dX1_add_26 : decode cX1_add 26 = .ok (.putfield 21, 3) := by decide +kernel
theorem dX1_add_29 : decode cX1_add 29 = .ok (.return_, 1) := by decide +kernel
theorem dX2_init_0 : decode cX2_init 0 = .ok (.aload_n 0, 1) := by decide +kernel
theorem dX2_init_1 : decode cX2_init 1 = .ok (.invokespecial 3, 3) := by decide +kernel
theorem dX2_init_4 : decode cX2_init 4 = .ok (.aload_n 0, 1) := by decide +kernel
theorem dX2_init_5 : decode cX2_init 5 = .ok (.bipush 8, 2) := by decide +kernel
theorem dX2_init_7 : decode cX2_init 7 = .ok (.newarray .int, 2) := by decide +kernel
theorem dX2_init_9 : decode cX2_init 9 = .ok (.putfield 11, 3) := by decide +kernel
theorem dX2_init_12 : decode cX2_init 12 = .ok (.return_, 1) := by decide +kernel
theorem dX2_firstCommonRound_0 : decode cX2_firstCommonRound 0 = .ok (.bipush (-9), 2) := by decide +kernel
theorem dX2_firstCommonRound_2 : decode cX2_firstCommonRound 2 = .ok (.istore_n 1, 1) := by decide +kernel
theorem dX2_firstCommonRound_3 : decode cX2_firstCommonRound 3 = .ok (.bipush 100, 2) := by decide +kernel
theorem dX2_firstCommonRound_5 : decode cX2_firstCommonRound 5 = .ok (.istore_n 2, 1) := by decide +kernel
theorem dX2_firstCommonRound_6 : decode cX2_firstCommonRound 6 = .ok (.iconst 0, 1) := by decide +kernel
theorem dX2_firstCommonRound_7 : decode cX2_firstCommonRound 7 = .ok (.istore_n 3, 1) := by decide +kernel
theorem dX2_firstCommonRound_8 : decode cX2_firstCommonRound 8 = .ok (.iload_n 3, 1) := by decide +kernel
theorem dX2_firstCommonRound_9 : decode cX2_firstCommonRound 9 = .ok (.aload_n 0, 1) := by decide +kernel
theorem dX2_firstCommonRound_10 : decode cX2_firstCommonRound 10 = .ok (.getfield 17, 3) := by decide +kernel
theorem dX2_firstCommonRound_13 : decode cX2_firstCommonRound 13 = .ok (.if_icmp .ge 39, 3) := by decide +kernel
theorem dX2_firstCommonRound_16 : decode cX2_firstCommonRound 16 = .ok (.aload_n 0, 1) := by decide +kernel
theorem dX2_firstCommonRound_17 : decode cX2_firstCommonRound 17 = .ok (.iload_n 3, 1) := by decide +kernel
theorem dX2_firstCommonRound_18 : decode cX2_firstCommonRound 18 = .ok (.invokevirtual 21, 3) := by decide +kernel
theorem dX2_firstCommonRound_21 : decode cX2_firstCommonRound 21 = .ok (.ifCond .eq 25, 3) := by decide +kernel
theorem dX2_firstCommonRound_24 : decode cX2_firstCommonRound 24 = .ok (.iload_n 1, 1) := by decide +kernel
theorem dX2_firstCommonRound_25 : decode cX2_firstCommonRound 25 = .ok (.aload_n 0, 1) := by decide +kernel
theorem dX2_firstCommonRound_26 : decode cX2_firstCommonRound 26 = .ok (.iload_n 3, 1) := by decide +kernel
theorem dX2_firstCommonRound_27 : decode cX2_firstCommonRound 27 = .ok (.iconst 2, 1) := by decide +kernel
theorem dX2_firstCommonRound_28 : decode cX2_firstCommonRound 28 = .ok (.invokevirtual 25, 3) := by decide +kernel
theorem dX2_firstCommonRound_31 : decode cX2_firstCommonRound 31 = .ok (.invokestatic 29, 3) := by decide +kernel
theorem dX2_firstCommonRound_34 : decode cX2_firstCommonRound 34 = .ok (.istore_n 1, 1) := by decide +kernel
theorem dX2_firstCommonRound_35 : decode cX2_firstCommonRound 35 = .ok (.iload_n 2, 1) := by decide +kernel
theorem dX2_firstCommonRound_36 : decode cX2_firstCommonRound 36 = .ok (.aload_n 0, 1) := by decide +kernel
theorem dX2_firstCommonRound_37 : decode cX2_firstCommonRound 37 = .ok (.iload_n 3, 1) := by decide +kernel
theorem dX2_firstCommonRound_38 : decode cX2_firstCommonRound 38 = .ok (.iconst 3, 1) := by decide +kernel
theorem dX2_firstCommonRound_39 : decode cX2_firstCommonRound 39 = .ok (.invokevirtual 25, 3) := by decide +kernel
theorem dX2_firstCommonRound_42 : decode cX2_firstCommonRound 42 = .ok (.invokestatic 34, 3) := by decide +kernel
theorem dX2_firstCommonRound_45 : decode cX2_firstCommonRound 45 = .ok (.istore_n 2, 1) := by decide +kernel
theorem dX2_firstCommonRound_46 : decode cX2_firstCommonRound 46 = .ok (.iinc 3 1, 3) := by decide +kernel
theorem dX2_firstCommonRound_49 : decode cX2_firstCommonRound 49 = .ok (.goto (-41), 3) := by decide +kernel
theorem dX2_firstCommonRound_52 : decode cX2_firstCommonRound 52 = .ok (.iload_n 1, 1) := by decide +kernel
theorem dX2_firstCommonRound_53 : decode cX2_firstCommonRound 53 = .ok (.iload_n 2, 1) := by decide +kernel
theorem dX2_firstCommonRound_54 : decode cX2_firstCommonRound 54 = .ok (.if_icmp .gt 7, 3) := by decide +kernel
theorem dX2_firstCommonRound_57 : decode cX2_firstCommonRound 57 = .ok (.iload_n 1, 1) := by decide +kernel
theorem dX2_firstCommonRound_58 : decode cX2_firstCommonRound 58 = .ok (.goto 5, 3) := by decide +kernel
theorem dX2_firstCommonRound_61 : decode cX2_firstCommonRound 61 = .ok (.bipush (-9), 2) := by decide +kernel
theorem dX2_firstCommonRound_63 : decode cX2_firstCommonRound 63 = .ok (.ireturn, 1) := by decide +kernel
theorem dX2_part_0 : decode cX2_part 0 = .ok (.aload_n 0, 1) := by decide +kernel
theorem dX2_part_1 : decode cX2_part 1 = .ok (.iconst 0, 1) := by decide +kernel
theorem dX2_part_2 : decode cX2_part 2 = .ok (.putfield 37, 3) := by decide +kernel
theorem dX2_part_5 : decode cX2_part 5 = .ok (.iconst (-1), 1) := by decide +kernel
theorem dX2_part_6 : decode cX2_part 6 = .ok (.istore_n 2, 1) := by decide +kernel
theorem dX2_part_7 : decode cX2_part 7 = .ok (.iconst 0, 1) := by decide +kernel
theorem dX2_part_8 : decode cX2_part 8 = .ok (.istore_n 3, 1) := by decide +kernel
theorem dX2_part_9 : decode cX2_part 9 = .ok (.iload_n 3, 1) := by decide +kernel
theorem dX2_part_10 : decode cX2_part 10 = .ok (.bipush 8, 2) := by decide +kernel
theorem dX2_part_12 : decode cX2_part 12 = .ok (.if_icmp .ge 50, 3) := by decide +kernel
theorem dX2_part_15 : decode cX2_part 15 = .ok (.aload_n 1, 1) := by decide +kernel
theorem dX2_part_16 : decode cX2_part 16 = .ok (.iload_n 2, 1) := by decide +kernel
theorem dX2_part_17 : decode cX2_part 17 = .ok (.invokestatic 40, 3) := by decide +kernel
theorem dX2_part_20 : decode cX2_part 20 = .ok (.istore 4, 2) := by decide +kernel
theorem dX2_part_22 : decode cX2_part 22 = .ok (.iload 4, 2) := by decide +kernel
theorem dX2_part_24 : decode cX2_part 24 = .ok (.bipush (-9), 2) := by decide +kernel
theorem dX2_part_26 : decode cX2_part 26 = .ok (.if_icmp .ne 6, 3) := by decide +kernel
theorem dX2_part_29 : decode cX2_part 29 = .ok (.goto 33, 3) := by decide +kernel
theorem dX2_part_32 : decode cX2_part 32 = .ok (.aload_n 0, 1) := by decide +kernel
theorem dX2_part_33 : decode cX2_part 33 = .ok (.getfield 11, 3) := by decide +kernel
theorem dX2_part_36 : decode cX2_part 36 = .ok (.aload_n 0, 1) := by decide +kernel
theorem dX2_part_37 : decode cX2_part 37 = .ok (.getfield 37, 3) := by decide +kernel
theorem dX2_part_40 : decode cX2_part 40 = .ok (.iload 4, 2) := by decide +kernel
theorem dX2_part_42 : decode cX2_part 42 = .ok (.iastore, 1) := by decide +kernel
theorem dX2_part_43 : decode cX2_part 43 = .ok (.aload_n 0, 1) := by decide +kernel
theorem dX2_part_44 : decode cX2_part 44 = .ok (.dup, 1) := by decide +kernel
theorem dX2_part_45 : decode cX2_part 45 = .ok (.getfield 37, 3) := by decide +kernel
theorem dX2_part_48 : decode cX2_part 48 = .ok (.iconst 1, 1) := by decide +kernel
theorem dX2_part_49 : decode cX2_part 49 = .ok (.iadd, 1) := by decide +kernel
theorem dX2_part_50 : decode cX2_part 50 = .ok (.putfield 37, 3) := by decide +kernel
theorem dX2_part_53 : decode cX2_part 53 = .ok (.iload 4, 2) := by decide +kernel
theorem dX2_part_55 : decode cX2_part 55 = .ok (.istore_n 2, 1) := by decide +kernel
theorem dX2_part_56 : decode cX2_part 56 = .ok (.iinc 3 1, 3) := by decide +kernel
theorem dX2_part_59 : decode cX2_part 59 = .ok (.goto (-50), 3) := by decide +kernel
theorem dX2_part_62 : decode cX2_part 62 = .ok (.return_, 1) := by decide +kernel
theorem dX2_firstEndBehind_0 : decode cX2_firstEndBehind 0 = .ok (.bipush (-9), 2) := by decide +kernel
theorem dX2_firstEndBehind_2 : decode cX2_firstEndBehind 2 = .ok (.istore_n 2, 1) := by decide +kernel
theorem dX2_firstEndBehind_3 : decode cX2_firstEndBehind 3 = .ok (.iconst 0, 1) := by decide +kernel
theorem dX2_firstEndBehind_4 : decode cX2_firstEndBehind 4 = .ok (.istore_n 3, 1) := by decide +kernel
theorem dX2_firstEndBehind_5 : decode cX2_firstEndBehind 5 = .ok (.iload_n 3, 1) := by decide +kernel
theorem dX2_firstEndBehind_6 : decode cX2_firstEndBehind 6 = .ok (.aload_n 0, 1) := by decide +kernel
theorem dX2_firstEndBehind_7 : decode cX2_firstEndBehind 7 = .ok (.getfield 17, 3) := by decide +kernel
theorem dX2_firstEndBehind_10 : decode cX2_firstEndBehind 10 = .ok (.if_icmp .ge 62, 3) := by decide +kernel
theorem dX2_firstEndBehind_13 : decode cX2_firstEndBehind 13 = .ok (.aload_n 0, 1) := by decide +kernel
theorem dX2_firstEndBehind_14 : decode cX2_firstEndBehind 14 = .ok (.iload_n 3, 1) := by decide +kernel
theorem dX2_firstEndBehind_15 : decode cX2_firstEndBehind 15 = .ok (.iconst 3, 1) := by decide +kernel
theorem dX2_firstEndBehind_16 : decode cX2_firstEndBehind 16 = .ok (.invokevirtual 25, 3) := by decide +kernel
theorem dX2_firstEndBehind_19 : decode cX2_firstEndBehind 19 = .ok (.istore 4, 2) := by decide +kernel
theorem dX2_firstEndBehind_21 : decode cX2_firstEndBehind 21 = .ok (.aload_n 0, 1) := by decide +kernel
theorem dX2_firstEndBehind_22 : decode cX2_firstEndBehind 22 = .ok (.iload_n 3, 1) := by decide +kernel
theorem dX2_firstEndBehind_23 : decode cX2_firstEndBehind 23 = .ok (.invokevirtual 21, 3) := by decide +kernel
theorem dX2_firstEndBehind_26 : decode cX2_firstEndBehind 26 = .ok (.ifCond .eq 17, 3) := by decide +kernel
theorem dX2_firstEndBehind_29 : decode cX2_firstEndBehind 29 = .ok (.aload_n 0, 1) := by decide +kernel
theorem dX2_firstEndBehind_30 : decode cX2_firstEndBehind 30 = .ok (.iload_n 3, 1) := by decide +kernel
theorem dX2_firstEndBehind_31 : decode cX2_firstEndBehind 31 = .ok (.iconst 2, 1) := by decide +kernel
theorem dX2_firstEndBehind_32 : decode cX2_firstEndBehind 32 = .ok (.invokevirtual 25, 3) := by decide +kernel
theorem dX2_firstEndBehind_35 : decode cX2_firstEndBehind 35 = .ok (.iload_n 1, 1) := by decide +kernel
theorem dX2_firstEndBehind_36 : decode cX2_firstEndBehind 36 = .ok (.if_icmp .le 7, 3) := by decide +kernel
theorem dX2_firstEndBehind_39 : decode cX2_firstEndBehind 39 = .ok (.iconst 1, 1) := by decide +kernel
theorem dX2_firstEndBehind_40 : decode cX2_firstEndBehind 40 = .ok (.goto 4, 3) := by decide +kernel
theorem dX2_firstEndBehind_43 : decode cX2_firstEndBehind 43 = .ok (.iconst 0, 1) := by decide +kernel
theorem dX2_firstEndBehind_44 : decode cX2_firstEndBehind 44 = .ok (.istore 5, 2) := by decide +kernel
theorem dX2_firstEndBehind_46 : decode cX2_firstEndBehind 46 = .ok (.iload 5, 2) := by decide +kernel
theorem dX2_firstEndBehind_48 : decode cX2_firstEndBehind 48 = .ok (.ifCond .eq 18, 3) := by decide +kernel
theorem dX2_firstEndBehind_51 : decode cX2_firstEndBehind 51 = .ok (.iload_n 2, 1) := by decide +kernel
theorem dX2_firstEndBehind_52 : decode cX2_firstEndBehind 52 = .ok (.bipush (-9), 2) := by decide +kernel
theorem dX2_firstEndBehind_54 : decode cX2_firstEndBehind 54 = .ok (.if_icmp .eq 9, 3) := by decide +kernel
theorem dX2_firstEndBehind_57 : decode cX2_firstEndBehind 57 = .ok (.iload 4, 2) := by decide +kernel
theorem dX2_firstEndBehind_59 : decode cX2_firstEndBehind 59 = .ok (.iload_n 2, 1) := by decide +kernel
theorem dX2_firstEndBehind_60 : decode cX2_firstEndBehind 60 = .ok (.if_icmp .ge 6, 3) := by decide +kernel
theorem dX2_firstEndBehind_63 : decode cX2_firstEndBehind 63 = .ok (.iload 4, 2) := by decide +kernel
theorem dX2_firstEndBehind_65 : decode cX2_firstEndBehind 65 = .ok (.istore_n 2, 1) := by decide +kernel
theorem dX2_firstEndBehind_66 : decode cX2_firstEndBehind 66 = .ok (.iinc 3 1, 3) := by decide +kernel
theorem dX2_firstEndBehind_69 : decode cX2_firstEndBehind 69 = .ok (.goto (-64), 3) := by decide +kernel
theorem dX2_firstEndBehind_72 : decode cX2_firstEndBehind 72 = .ok (.iload_n 2, 1) := by decide +kernel
theorem dX2_firstEndBehind_73 : decode cX2_firstEndBehind 73 = .ok (.ireturn, 1) := by decide +kernel
theorem dX2_roundOf_0 : decode cX2_roundOf 0 = .ok (.iload_n 1, 1) := by decide +kernel
theorem dX2_roundOf_1 : decode cX2_roundOf 1 = .ok (.iconst 0, 1) := by decide +kernel
theorem dX2_roundOf_2 : decode cX2_roundOf 2 = .ok (.aload_n 0, 1) := by decide +kernel
theorem dX2_roundOf_3 : decode cX2_roundOf 3 = .ok (.getfield 37, 3) := by decide +kernel
theorem dX2_roundOf_6 : decode cX2_roundOf 6 = .ok (.iconst 1, 1) := by decide +kernel
theorem dX2_roundOf_7 : decode cX2_roundOf 7 = .ok (.isub, 1) := by decide +kernel
theorem dX2_roundOf_8 : decode cX2_roundOf 8 = .ok (.invokestatic 44, 3) := by decide +kernel
theorem dX2_roundOf_11 : decode cX2_roundOf 11 = .ok (.ifCond .eq 12, 3) := by decide +kernel
theorem dX2_roundOf_14 : decode cX2_roundOf 14 = .ok (.aload_n 0, 1) := by decide +kernel
theorem dX2_roundOf_15 : decode cX2_roundOf 15 = .ok (.getfield 11, 3) := by decide +kernel
theorem dX2_roundOf_18 : decode cX2_roundOf 18 = .ok (.iload_n 1, 1) := by decide +kernel
theorem dX2_roundOf_19 : decode cX2_roundOf 19 = .ok (.iaload, 1) := by decide +kernel
theorem dX2_roundOf_20 : decode cX2_roundOf 20 = .ok (.goto 5, 3) := by decide +kernel
theorem dX2_roundOf_23 : decode cX2_roundOf 23 = .ok (.bipush (-9), 2) := by decide +kernel
theorem dX2_roundOf_25 : decode cX2_roundOf 25 = .ok (.ireturn, 1) := by decide +kernel
theorem dX2_isInOrder_0 : decode cX2_isInOrder 0 = .ok (.iconst 0, 1) := by decide +kernel
theorem dX2_isInOrder_1 : decode cX2_isInOrder 1 = .ok (.istore_n 2, 1) := by decide +kernel
theorem dX2_isInOrder_2 : decode cX2_isInOrder 2 = .ok (.iconst 0, 1) := by decide +kernel
theorem dX2_isInOrder_3 : decode cX2_isInOrder 3 = .ok (.istore_n 3, 1) := by decide +kernel
theorem dX2_isInOrder_4 : decode cX2_isInOrder 4 = .ok (.iload_n 3, 1) := by decide +kernel
theorem dX2_isInOrder_5 : decode cX2_isInOrder 5 = .ok (.aload_n 0, 1) := by decide +kernel
theorem dX2_isInOrder_6 : decode cX2_isInOrder 6 = .ok (.getfield 17, 3) := by decide +kernel
theorem dX2_isInOrder_9 : decode cX2_isInOrder 9 = .ok (.if_icmp .ge 41, 3) := by decide +kernel
theorem dX2_isInOrder_12 : decode cX2_isInOrder 12 = .ok (.aload_n 0, 1) := by decide +kernel
theorem dX2_isInOrder_13 : decode cX2_isInOrder 13 = .ok (.iload_n 3, 1) := by decide +kernel
theorem dX2_isInOrder_14 : decode cX2_isInOrder 14 = .ok (.iload_n 1, 1) := by decide +kernel
theorem dX2_isInOrder_15 : decode cX2_isInOrder 15 = .ok (.invokevirtual 48, 3) := by decide +kernel
theorem dX2_isInOrder_18 : decode cX2_isInOrder 18 = .ok (.ifCond .eq 26, 3) := by decide +kernel
theorem dX2_isInOrder_21 : decode cX2_isInOrder 21 = .ok (.iload_n 2, 1) := by decide +kernel
theorem dX2_isInOrder_22 : decode cX2_isInOrder 22 = .ok (.aload_n 0, 1) := by decide +kernel
theorem dX2_isInOrder_23 : decode cX2_isInOrder 23 = .ok (.iload_n 3, 1) := by decide +kernel
theorem dX2_isInOrder_24 : decode cX2_isInOrder 24 = .ok (.iconst 2, 1) := by decide +kernel
theorem dX2_isInOrder_25 : decode cX2_isInOrder 25 = .ok (.invokevirtual 25, 3) := by decide +kernel
theorem dX2_isInOrder_28 : decode cX2_isInOrder 28 = .ok (.invokestatic 29, 3) := by decide +kernel
theorem dX2_isInOrder_31 : decode cX2_isInOrder 31 = .ok (.istore_n 2, 1) := by decide +kernel
theorem dX2_isInOrder_32 : decode cX2_isInOrder 32 = .ok (.iload_n 2, 1) := by decide +kernel
theorem dX2_isInOrder_33 : decode cX2_isInOrder 33 = .ok (.aload_n 0, 1) := by decide +kernel
theorem dX2_isInOrder_34 : decode cX2_isInOrder 34 = .ok (.iload_n 3, 1) := by decide +kernel
theorem dX2_isInOrder_35 : decode cX2_isInOrder 35 = .ok (.iconst 3, 1) := by decide +kernel
theorem dX2_isInOrder_36 : decode cX2_isInOrder 36 = .ok (.invokevirtual 25, 3) := by decide +kernel
theorem dX2_isInOrder_39 : decode cX2_isInOrder 39 = .ok (.if_icmp .le 5, 3) := by decide +kernel
theorem dX2_isInOrder_42 : decode cX2_isInOrder 42 = .ok (.iconst 0, 1) := by decide +kernel
theorem dX2_isInOrder_43 : decode cX2_isInOrder 43 = .ok (.ireturn, 1) := by decide +kernel
theorem dX2_isInOrder_44 : decode cX2_isInOrder 44 = .ok (.iinc 3 1, 3) := by decide +kernel
theorem dX2_isInOrder_47 : decode cX2_isInOrder 47 = .ok (.goto (-43), 3) := by decide +kernel
theorem dX2_isInOrder_50 : decode cX2_isInOrder 50 = .ok (.iconst 1, 1) := by decide +kernel
theorem dX2_isInOrder_51 : decode cX2_isInOrder 51 = .ok (.ireturn, 1) := by decide +kernel
theorem dX2_earliestBelow_0 : decode cX2_earliestBelow 0 = .ok (.bipush (-9), 2) := by decide +kernel
theorem dX2_earliestBelow_2 : decode cX2_earliestBelow 2 = .ok (.istore_n 3, 1) := by decide +kernel
theorem dX2_earliestBelow_3 : decode cX2_earliestBelow 3 = .ok (.iconst 0, 1) := by decide +kernel
theorem dX2_earliestBelow_4 : decode cX2_earliestBelow 4 = .ok (.istore 4, 2) := by decide +kernel
theorem dX2_earliestBelow_6 : decode cX2_earliestBelow 6 = .ok (.iload 4, 2) := by decide +kernel
theorem dX2_earliestBelow_8 : decode cX2_earliestBelow 8 = .ok (.iload_n 2, 1) := by decide +kernel
theorem dX2_earliestBelow_9 : decode cX2_earliestBelow 9 = .ok (.if_icmp .ge 31, 3) := by decide +kernel
theorem dX2_earliestBelow_12 : decode cX2_earliestBelow 12 = .ok (.aload_n 0, 1) := by decide +kernel
theorem dX2_earliestBelow_13 : decode cX2_earliestBelow 13 = .ok (.iload 4, 2) := by decide +kernel
theorem dX2_earliestBelow_15 : decode cX2_earliestBelow 15 = .ok (.iload_n 1, 1) := by decide +kernel
theorem dX2_earliestBelow_16 : decode cX2_earliestBelow 16 = .ok (.invokevirtual 48, 3) := by decide +kernel
theorem dX2_earliestBelow_19 : decode cX2_earliestBelow 19 = .ok (.ifCond .eq 15, 3) := by decide +kernel
theorem dX2_earliestBelow_22 : decode cX2_earliestBelow 22 = .ok (.iload_n 3, 1) := by decide +kernel
theorem dX2_earliestBelow_23 : decode cX2_earliestBelow 23 = .ok (.aload_n 0, 1) := by decide +kernel
theorem dX2_earliestBelow_24 : decode cX2_earliestBelow 24 = .ok (.iload 4, 2) := by decide +kernel
theorem dX2_earliestBelow_26 : decode cX2_earliestBelow 26 = .ok (.iconst 2, 1) := by decide +kernel
theorem dX2_earliestBelow_27 : decode cX2_earliestBelow 27 = .ok (.invokevirtual 25, 3) := by decide +kernel
theorem dX2_earliestBelow_30 : decode cX2_earliestBelow 30 = .ok (.invokestatic 29, 3) := by decide +kernel
theorem dX2_earliestBelow_33 : decode cX2_earliestBelow 33 = .ok (.istore_n 3, 1) := by decide +kernel
theorem dX2_earliestBelow_34 : decode cX2_earliestBelow 34 = .ok (.iinc 4 1, 3) := by decide +kernel
theorem dX2_earliestBelow_37 : decode cX2_earliestBelow 37 = .ok (.goto (-31), 3) := by decide +kernel
theorem dX2_earliestBelow_40 : decode cX2_earliestBelow 40 = .ok (.iload_n 3, 1) := by decide +kernel
theorem dX2_earliestBelow_41 : decode cX2_earliestBelow 41 = .ok (.ireturn, 1) := by decide +kernel
theorem dX2_latestFrom_0 : decode cX2_latestFrom 0 = .ok (.bipush 99, 2) := by decide +kernel
theorem dX2_latestFrom_2 : decode cX2_latestFrom 2 = .ok (.istore_n 3, 1) := by decide +kernel
theorem dX2_latestFrom_3 : decode cX2_latestFrom 3 = .ok (.iload_n 2, 1) := by decide +kernel
theorem dX2_latestFrom_4 : decode cX2_latestFrom 4 = .ok (.istore 4, 2) := by decide +kernel
theorem dX2_latestFrom_6 : decode cX2_latestFrom 6 = .ok (.iload 4, 2) := by decide +kernel
theorem dX2_latestFrom_8 : decode cX2_latestFrom 8 = .ok (.aload_n 0, 1) := by decide +kernel
theorem dX2_latestFrom_9 : decode cX2_latestFrom 9 = .ok (.getfield 17, 3) := by decide +kernel
theorem dX2_latestFrom_12 : decode cX2_latestFrom 12 = .ok (.if_icmp .ge 31, 3) := by decide +kernel
theorem dX2_latestFrom_15 : decode cX2_latestFrom 15 = .ok (.aload_n 0, 1) := by decide +kernel
theorem dX2_latestFrom_16 : decode cX2_latestFrom 16 = .ok (.iload 4, 2) := by decide +kernel
theorem dX2_latestFrom_18 : decode cX2_latestFrom 18 = .ok (.iload_n 1, 1) := by decide +kernel
theorem dX2_latestFrom_19 : decode cX2_latestFrom 19 = .ok (.invokevirtual 48, 3) := by decide +kernel
theorem dX2_latestFrom_22 : decode cX2_latestFrom 22 = .ok (.ifCond .eq 15, 3) := by decide +kernel
theorem dX2_latestFrom_25 : decode cX2_latestFrom 25 = .ok (.iload_n 3, 1) := by decide +kernel
theorem dX2_latestFrom_26 : decode cX2_latestFrom 26 = .ok (.aload_n 0, 1) := by decide +kernel
theorem dX2_latestFrom_27 : decode cX2_latestFrom 27 = .ok (.iload 4, 2) := by decide +kernel
theorem dX2_latestFrom_29 : decode cX2_latestFrom 29 = .ok (.iconst 3, 1) := by decide +kernel
theorem dX2_latestFrom_30 : decode cX2_latestFrom 30 = .ok (.invokevirtual 25, 3) := by decide +kernel
theorem dX2_latestFrom_33 : decode cX2_latestFrom 33 = .ok (.invokestatic 34, 3) := by decide +kernel
theorem dX2_latestFrom_36 : decode cX2_latestFrom 36 = .ok (.istore_n 3, 1) := by decide +kernel
theorem dX2_latestFrom_37 : decode cX2_latestFrom 37 = .ok (.iinc 4 1, 3) := by decide +kernel
theorem dX2_latestFrom_40 : decode cX2_latestFrom 40 = .ok (.goto (-34), 3) := by decide +kernel
theorem dX2_latestFrom_43 : decode cX2_latestFrom 43 = .ok (.iload_n 3, 1) := by decide +kernel
theorem dX2_latestFrom_44 : decode cX2_latestFrom 44 = .ok (.ireturn, 1) := by decide +kernel
theorem dX3_init_0 : decode cX3_init 0 = .ok (.aload_n 0, 1) := by decide +kernel
theorem dX3_init_1 : decode cX3_init 1 = .ok (.invokespecial 3, 3) := by decide +kernel
theorem dX3_init_4 : decode cX3_init 4 = .ok (.aload_n 0, 1) := by decide +kernel
theorem dX3_init_5 : decode cX3_init 5 = .ok (.bipush 12, 2) := by decide +kernel
theorem dX3_init_7 : decode cX3_init 7 = .ok (.newarray .int, 2) := by decide +kernel
theorem dX3_init_9 : decode cX3_init 9 = .ok (.putfield 11, 3) := by decide +kernel
theorem dX3_init_12 : decode cX3_init 12 = .ok (.return_, 1) := by decide +kernel
theorem dX3_stateOf_0 : decode cX3_stateOf 0 = .ok (.bipush 100, 2) := by decide +kernel
theorem dX3_stateOf_2 : decode cX3_stateOf 2 = .ok (.iload_n 0, 1) := by decide +kernel
theorem dX3_stateOf_3 : decode cX3_stateOf 3 = .ok (.imul, 1) := by decide +kernel
theorem dX3_stateOf_4 : decode cX3_stateOf 4 = .ok (.iload_n 1, 1) := by decide +kernel
theorem dX3_stateOf_5 : decode cX3_stateOf 5 = .ok (.iadd, 1) := by decide +kernel
theorem dX3_stateOf_6 : decode cX3_stateOf 6 = .ok (.ireturn, 1) := by decide +kernel
theorem dX3_iceIn_0 : decode cX3_iceIn 0 = .ok (.iload_n 0, 1) := by decide +kernel
theorem dX3_iceIn_1 : decode cX3_iceIn 1 = .ok (.bipush 100, 2) := by decide +kernel
theorem dX3_iceIn_3 : decode cX3_iceIn 3 = .ok (.idiv, 1) := by decide +kernel
theorem dX3_iceIn_4 : decode cX3_iceIn 4 = .ok (.ireturn, 1) := by decide +kernel
theorem dX3_airIn_0 : decode cX3_airIn 0 = .ok (.iload_n 0, 1) := by decide +kernel
theorem dX3_airIn_1 : decode cX3_airIn 1 = .ok (.bipush 100, 2) := by decide +kernel
theorem dX3_airIn_3 : decode cX3_airIn 3 = .ok (.irem, 1) := by decide +kernel
theorem dX3_airIn_4 : decode cX3_airIn 4 = .ok (.ireturn, 1) := by decide +kernel
theorem dX3_takenBy_0 : decode cX3_takenBy 0 = .ok (.iload_n 1, 1) := by decide +kernel
theorem dX3_takenBy_1 : decode cX3_takenBy 1 = .ok (.ifCond .lt 9, 3) := by decide +kernel
theorem dX3_takenBy_4 : decode cX3_takenBy 4 = .ok (.iload_n 1, 1) := by decide +kernel
theorem dX3_takenBy_5 : decode cX3_takenBy 5 = .ok (.bipush 6, 2) := by decide +kernel
theorem dX3_takenBy_7 : decode cX3_takenBy 7 = .ok (.if_icmp .lt 5, 3) := by decide +kernel
theorem dX3_takenBy_10 : decode cX3_takenBy 10 = .ok (.iconst 0, 1) := by decide +kernel
theorem dX3_takenBy_11 : decode cX3_takenBy 11 = .ok (.ireturn, 1) := by decide +kernel
theorem dX3_takenBy_12 : decode cX3_takenBy 12 = .ok (.aload_n 0, 1) := by decide +kernel
theorem dX3_takenBy_13 : decode cX3_takenBy 13 = .ok (.getfield 11, 3) := by decide +kernel
theorem dX3_takenBy_16 : decode cX3_takenBy 16 = .ok (.iload_n 1, 1) := by decide +kernel
theorem dX3_takenBy_17 : decode cX3_takenBy 17 = .ok (.iaload, 1) := by decide +kernel
theorem dX3_takenBy_18 : decode cX3_takenBy 18 = .ok (.iload_n 2, 1) := by decide +kernel
theorem dX3_takenBy_19 : decode cX3_takenBy 19 = .ok (.iload_n 1, 1) := by decide +kernel
theorem dX3_takenBy_20 : decode cX3_takenBy 20 = .ok (.invokestatic 15, 3) := by decide +kernel
theorem dX3_takenBy_23 : decode cX3_takenBy 23 = .ok (.ifCond .eq 16, 3) := by decide +kernel
theorem dX3_takenBy_26 : decode cX3_takenBy 26 = .ok (.bipush 10, 2) := by decide +kernel
theorem dX3_takenBy_28 : decode cX3_takenBy 28 = .ok (.aload_n 0, 1) := by decide +kernel
theorem dX3_takenBy_29 : decode cX3_takenBy 29 = .ok (.getfield 11, 3) := by decide +kernel
theorem dX3_takenBy_32 : decode cX3_takenBy 32 = .ok (.bipush 6, 2) := by decide +kernel
theorem dX3_takenBy_34 : decode cX3_takenBy 34 = .ok (.iaload, 1) := by decide +kernel
theorem dX3_takenBy_35 : decode cX3_takenBy 35 = .ok (.isub, 1) := by decide +kernel
theorem dX3_takenBy_36 : decode cX3_takenBy 36 = .ok (.goto 5, 3) := by decide +kernel
theorem dX3_takenBy_39 : decode cX3_takenBy 39 = .ok (.bipush 10, 2) := by decide +kernel
theorem dX3_takenBy_41 : decode cX3_takenBy 41 = .ok (.imul, 1) := by decide +kernel
theorem dX3_takenBy_42 : decode cX3_takenBy 42 = .ok (.ireturn, 1) := by decide +kernel
theorem dX3_fortyWarmth_0 : decode cX3_fortyWarmth 0 = .ok (.iload_n 1, 1) := by decide +kernel
theorem dX3_fortyWarmth_1 : decode cX3_fortyWarmth 1 = .ok (.iconst 1, 1) := by decide +kernel
theorem dX3_fortyWarmth_2 : decode cX3_fortyWarmth 2 = .ok (.isub, 1) := by decide +kernel
theorem dX3_fortyWarmth_3 : decode cX3_fortyWarmth 3 = .ok (.iconst 0, 1) := by decide +kernel
theorem dX3_fortyWarmth_4 : decode cX3_fortyWarmth 4 = .ok (.invokestatic 19, 3) := by decide +kernel
theorem dX3_fortyWarmth_7 : decode cX3_fortyWarmth 7 = .ok (.istore 4, 2) := by decide +kernel
theorem dX3_fortyWarmth_9 : decode cX3_fortyWarmth 9 = .ok (.iload_n 1, 1) := by decide +kernel
theorem dX3_fortyWarmth_10 : decode cX3_fortyWarmth 10 = .ok (.iconst 1, 1) := by decide +kernel
theorem dX3_fortyWarmth_11 : decode cX3_fortyWarmth 11 = .ok (.iadd, 1) := by decide +kernel
theorem dX3_fortyWarmth_12 : decode cX3_fortyWarmth 12 = .ok (.iconst 5, 1) := by decide +kernel
theorem dX3_fortyWarmth_13 : decode cX3_fortyWarmth 13 = .ok (.invokestatic 25, 3) := by decide +kernel
theorem dX3_fortyWarmth_16 : decode cX3_fortyWarmth 16 = .ok (.istore 5, 2) := by decide +kernel
theorem dX3_fortyWarmth_18 : decode cX3_fortyWarmth 18 = .ok (.iconst 2, 1) := by decide +kernel
theorem dX3_fortyWarmth_19 : decode cX3_fortyWarmth 19 = .ok (.aload_n 0, 1) := by decide +kernel
theorem dX3_fortyWarmth_20 : decode cX3_fortyWarmth 20 = .ok (.iload_n 1, 1) := by decide +kernel
theorem dX3_fortyWarmth_21 : decode cX3_fortyWarmth 21 = .ok (.iload_n 2, 1) := by decide +kernel
theorem dX3_fortyWarmth_22 : decode cX3_fortyWarmth 22 = .ok (.invokevirtual 28, 3) := by decide +kernel
theorem dX3_fortyWarmth_25 : decode cX3_fortyWarmth 25 = .ok (.imul, 1) := by decide +kernel
theorem dX3_fortyWarmth_26 : decode cX3_fortyWarmth 26 = .ok (.aload_n 0, 1) := by decide +kernel
theorem dX3_fortyWarmth_27 : decode cX3_fortyWarmth 27 = .ok (.iload 4, 2) := by decide +kernel
theorem dX3_fortyWarmth_29 : decode cX3_fortyWarmth 29 = .ok (.iload_n 2, 1) := by decide +kernel
theorem dX3_fortyWarmth_30 : decode cX3_fortyWarmth 30 = .ok (.invokevirtual 28, 3) := by decide +kernel
theorem dX3_fortyWarmth_33 : decode cX3_fortyWarmth 33 = .ok (.iadd, 1) := by decide +kernel
theorem dX3_fortyWarmth_34 : decode cX3_fortyWarmth 34 = .ok (.aload_n 0, 1) := by decide +kernel
theorem dX3_fortyWarmth_35 : decode cX3_fortyWarmth 35 = .ok (.iload 5, 2) := by decide +kernel
theorem dX3_fortyWarmth_37 : decode cX3_fortyWarmth 37 = .ok (.iload_n 2, 1) := by decide +kernel
theorem dX3_fortyWarmth_38 : decode cX3_fortyWarmth 38 = .ok (.invokevirtual 28, 3) := by decide +kernel
theorem dX3_fortyWarmth_41 : decode cX3_fortyWarmth 41 = .ok (.iadd, 1) := by decide +kernel
theorem dX3_fortyWarmth_42 : decode cX3_fortyWarmth 42 = .ok (.istore 6, 2) := by decide +kernel
theorem dX3_fortyWarmth_44 : decode cX3_fortyWarmth 44 = .ok (.iload 6, 2) := by decide +kernel
theorem dX3_fortyWarmth_46 : decode cX3_fortyWarmth 46 = .ok (.bipush 40, 2) := by decide +kernel
theorem dX3_fortyWarmth_48 : decode cX3_fortyWarmth 48 = .ok (.aload_n 0, 1) := by decide +kernel
theorem dX3_fortyWarmth_49 : decode cX3_fortyWarmth 49 = .ok (.getfield 11, 3) := by decide +kernel
theorem dX3_fortyWarmth_52 : decode cX3_fortyWarmth 52 = .ok (.bipush 7, 2) := by decide +kernel
theorem dX3_fortyWarmth_54 : decode cX3_fortyWarmth 54 = .ok (.iaload, 1) := by decide +kernel
theorem dX3_fortyWarmth_55 : decode cX3_fortyWarmth 55 = .ok (.imul, 1) := by decide +kernel
theorem dX3_fortyWarmth_56 : decode cX3_fortyWarmth 56 = .ok (.iload_n 3, 1) := by decide +kernel
theorem dX3_fortyWarmth_57 : decode cX3_fortyWarmth 57 = .ok (.imul, 1) := by decide +kernel
theorem dX3_fortyWarmth_58 : decode cX3_fortyWarmth 58 = .ok (.iadd, 1) := by decide +kernel
theorem dX3_fortyWarmth_59 : decode cX3_fortyWarmth 59 = .ok (.ireturn, 1) := by decide +kernel
theorem dX3_iceAfter_0 : decode cX3_iceAfter 0 = .ok (.bipush 40, 2) := by decide +kernel
theorem dX3_iceAfter_2 : decode cX3_iceAfter 2 = .ok (.aload_n 0, 1) := by decide +kernel
theorem dX3_iceAfter_3 : decode cX3_iceAfter 3 = .ok (.getfield 11, 3) := by decide +kernel
theorem dX3_iceAfter_6 : decode cX3_iceAfter 6 = .ok (.bipush 8, 2) := by decide +kernel
theorem dX3_iceAfter_8 : decode cX3_iceAfter 8 = .ok (.iaload, 1) := by decide +kernel
theorem dX3_iceAfter_9 : decode cX3_iceAfter 9 = .ok (.imul, 1) := by decide +kernel
theorem dX3_iceAfter_10 : decode cX3_iceAfter 10 = .ok (.istore_n 3, 1) := by decide +kernel
theorem dX3_iceAfter_11 : decode cX3_iceAfter 11 = .ok (.iload_n 3, 1) := by decide +kernel
theorem dX3_iceAfter_12 : decode cX3_iceAfter 12 = .ok (.bipush 40, 2) := by decide +kernel
theorem dX3_iceAfter_14 : decode cX3_iceAfter 14 = .ok (.aload_n 0, 1) := by decide +kernel
theorem dX3_iceAfter_15 : decode cX3_iceAfter 15 = .ok (.getfield 11, 3) := by decide +kernel
theorem dX3_iceAfter_18 : decode cX3_iceAfter 18 = .ok (.bipush 9, 2) := by decide +kernel
theorem dX3_iceAfter_20 : decode cX3_iceAfter 20 = .ok (.iaload, 1) := by decide +kernel
theorem dX3_iceAfter_21 : decode cX3_iceAfter 21 = .ok (.imul, 1) := by decide +kernel
theorem dX3_iceAfter_22 : decode cX3_iceAfter 22 = .ok (.iadd, 1) := by decide +kernel
theorem dX3_iceAfter_23 : decode cX3_iceAfter 23 = .ok (.istore 4, 2) := by decide +kernel
theorem dX3_iceAfter_25 : decode cX3_iceAfter 25 = .ok (.iconst 0, 1) := by decide +kernel
theorem dX3_iceAfter_26 : decode cX3_iceAfter 26 = .ok (.istore 5, 2) := by decide +kernel
theorem dX3_iceAfter_28 : decode cX3_iceAfter 28 = .ok (.iconst 0, 1) := by decide +kernel
theorem dX3_iceAfter_29 : decode cX3_iceAfter 29 = .ok (.istore 6, 2) := by decide +kernel
theorem dX3_iceAfter_31 : decode cX3_iceAfter 31 = .ok (.iload 6, 2) := by decide +kernel
theorem dX3_iceAfter_33 : decode cX3_iceAfter 33 = .ok (.bipush 6, 2) := by decide +kernel
theorem dX3_iceAfter_35 : decode cX3_iceAfter 35 = .ok (.if_icmp .ge 50, 3) := by decide +kernel
theorem dX3_iceAfter_38 : decode cX3_iceAfter 38 = .ok (.aload_n 0, 1) := by decide +kernel
theorem dX3_iceAfter_39 : decode cX3_iceAfter 39 = .ok (.iload 6, 2) := by decide +kernel
theorem dX3_iceAfter_41 : decode cX3_iceAfter 41 = .ok (.iload_n 1, 1) := by decide +kernel
theorem dX3_iceAfter_42 : decode cX3_iceAfter 42 = .ok (.iload_n 2, 1) := by decide +kernel
theorem dX3_iceAfter_43 : decode cX3_iceAfter 43 = .ok (.invokevirtual 31, 3) := by decide +kernel
theorem dX3_iceAfter_46 : decode cX3_iceAfter 46 = .ok (.istore 7, 2) := by decide +kernel
theorem dX3_iceAfter_48 : decode cX3_iceAfter 48 = .ok (.iload 7, 2) := by decide +kernel
theorem dX3_iceAfter_50 : decode cX3_iceAfter 50 = .ok (.iload_n 3, 1) := by decide +kernel
theorem dX3_iceAfter_51 : decode cX3_iceAfter 51 = .ok (.if_icmp .lt 19, 3) := by decide +kernel
theorem dX3_iceAfter_54 : decode cX3_iceAfter 54 = .ok (.iload 7, 2) := by decide +kernel
theorem dX3_iceAfter_56 : decode cX3_iceAfter 56 = .ok (.iload 4, 2) := by decide +kernel
theorem dX3_iceAfter_58 : decode cX3_iceAfter 58 = .ok (.if_icmp .ge 21, 3) := by decide +kernel
theorem dX3_iceAfter_61 : decode cX3_iceAfter 61 = .ok (.iload_n 1, 1) := by decide +kernel
theorem dX3_iceAfter_62 : decode cX3_iceAfter 62 = .ok (.iload 6, 2) := by decide +kernel
theorem dX3_iceAfter_64 : decode cX3_iceAfter 64 = .ok (.invokestatic 15, 3) := by decide +kernel
theorem dX3_iceAfter_67 : decode cX3_iceAfter 67 = .ok (.ifCond .eq 12, 3) := by decide +kernel
theorem dX3_iceAfter_70 : decode cX3_iceAfter 70 = .ok (.iload 5, 2) := by decide +kernel
theorem dX3_iceAfter_72 : decode cX3_iceAfter 72 = .ok (.iconst 1, 1) := by decide +kernel
theorem dX3_iceAfter_73 : decode cX3_iceAfter 73 = .ok (.iload 6, 2) := by decide +kernel
theorem dX3_iceAfter_75 : decode cX3_iceAfter 75 = .ok (.ishl, 1) := by decide +kernel
theorem dX3_iceAfter_76 : decode cX3_iceAfter 76 = .ok (.ior, 1) := by decide +kernel
theorem dX3_iceAfter_77 : decode cX3_iceAfter 77 = .ok (.istore 5, 2) := by decide +kernel
theorem dX3_iceAfter_79 : decode cX3_iceAfter 79 = .ok (.iinc 6 1, 3) := by decide +kernel
theorem dX3_iceAfter_82 : decode cX3_iceAfter 82 = .ok (.goto (-51), 3) := by decide +kernel
theorem dX3_iceAfter_85 : decode cX3_iceAfter 85 = .ok (.iload 5, 2) := by decide +kernel
theorem dX3_iceAfter_87 : decode cX3_iceAfter 87 = .ok (.ireturn, 1) := by decide +kernel
theorem dX3_airAfter_0 : decode cX3_airAfter 0 = .ok (.bipush 6, 2) := by decide +kernel
theorem dX3_airAfter_2 : decode cX3_airAfter 2 = .ok (.iload_n 1, 1) := by decide +kernel
theorem dX3_airAfter_3 : decode cX3_airAfter 3 = .ok (.invokestatic 35, 3) := by decide +kernel
theorem dX3_airAfter_6 : decode cX3_airAfter 6 = .ok (.isub, 1) := by decide +kernel
theorem dX3_airAfter_7 : decode cX3_airAfter 7 = .ok (.istore_n 3, 1) := by decide +kernel
theorem dX3_airAfter_8 : decode cX3_airAfter 8 = .ok (.iload_n 2, 1) := by decide +kernel
theorem dX3_airAfter_9 : decode cX3_airAfter 9 = .ok (.aload_n 0, 1) := by decide +kernel
theorem dX3_airAfter_10 : decode cX3_airAfter 10 = .ok (.getfield 11, 3) := by decide +kernel
theorem dX3_airAfter_13 : decode cX3_airAfter 13 = .ok (.bipush 10, 2) := by decide +kernel
theorem dX3_airAfter_15 : decode cX3_airAfter 15 = .ok (.iaload, 1) := by decide +kernel
theorem dX3_airAfter_16 : decode cX3_airAfter 16 = .ok (.iadd, 1) := by decide +kernel
theorem dX3_airAfter_17 : decode cX3_airAfter 17 = .ok (.aload_n 0, 1) := by decide +kernel
theorem dX3_airAfter_18 : decode cX3_airAfter 18 = .ok (.getfield 11, 3) := by decide +kernel
theorem dX3_airAfter_21 : decode cX3_airAfter 21 = .ok (.bipush 11, 2) := by decide +kernel
theorem dX3_airAfter_23 : decode cX3_airAfter 23 = .ok (.iaload, 1) := by decide +kernel
theorem dX3_airAfter_24 : decode cX3_airAfter 24 = .ok (.iload_n 3, 1) := by decide +kernel
theorem dX3_airAfter_25 : decode cX3_airAfter 25 = .ok (.imul, 1) := by decide +kernel
theorem dX3_airAfter_26 : decode cX3_airAfter 26 = .ok (.isub, 1) := by decide +kernel
theorem dX3_airAfter_27 : decode cX3_airAfter 27 = .ok (.istore 4, 2) := by decide +kernel
theorem dX3_airAfter_29 : decode cX3_airAfter 29 = .ok (.iconst 0, 1) := by decide +kernel
theorem dX3_airAfter_30 : decode cX3_airAfter 30 = .ok (.bipush 99, 2) := by decide +kernel
theorem dX3_airAfter_32 : decode cX3_airAfter 32 = .ok (.iload 4, 2) := by decide +kernel
theorem dX3_airAfter_34 : decode cX3_airAfter 34 = .ok (.invokestatic 25, 3) := by decide +kernel
theorem dX3_airAfter_37 : decode cX3_airAfter 37 = .ok (.invokestatic 19, 3) := by decide +kernel
theorem dX3_airAfter_40 : decode cX3_airAfter 40 = .ok (.ireturn, 1) := by decide +kernel
theorem dX3_stateAfter_0 : decode cX3_stateAfter 0 = .ok (.iload_n 1, 1) := by decide +kernel
theorem dX3_stateAfter_1 : decode cX3_stateAfter 1 = .ok (.invokestatic 41, 3) := by decide +kernel
theorem dX3_stateAfter_4 : decode cX3_stateAfter 4 = .ok (.istore_n 2, 1) := by decide +kernel
theorem dX3_stateAfter_5 : decode cX3_stateAfter 5 = .ok (.iload_n 1, 1) := by decide +kernel
theorem dX3_stateAfter_6 : decode cX3_stateAfter 6 = .ok (.invokestatic 44, 3) := by decide +kernel
theorem dX3_stateAfter_9 : decode cX3_stateAfter 9 = .ok (.istore_n 3, 1) := by decide +kernel
theorem dX3_stateAfter_10 : decode cX3_stateAfter 10 = .ok (.aload_n 0, 1) := by decide +kernel
theorem dX3_stateAfter_11 : decode cX3_stateAfter 11 = .ok (.iload_n 2, 1) := by decide +kernel
theorem dX3_stateAfter_12 : decode cX3_stateAfter 12 = .ok (.iload_n 3, 1) := by decide +kernel
theorem dX3_stateAfter_13 : decode cX3_stateAfter 13 = .ok (.invokevirtual 47, 3) := by decide +kernel
theorem dX3_stateAfter_16 : decode cX3_stateAfter 16 = .ok (.aload_n 0, 1) := by decide +kernel
theorem dX3_stateAfter_17 : decode cX3_stateAfter 17 = .ok (.iload_n 2, 1) := by decide +kernel
theorem dX3_stateAfter_18 : decode cX3_stateAfter 18 = .ok (.iload_n 3, 1) := by decide +kernel
theorem dX3_stateAfter_19 : decode cX3_stateAfter 19 = .ok (.invokevirtual 50, 3) := by decide +kernel
theorem dX3_stateAfter_22 : decode cX3_stateAfter 22 = .ok (.invokestatic 53, 3) := by decide +kernel
theorem dX3_stateAfter_25 : decode cX3_stateAfter 25 = .ok (.ireturn, 1) := by decide +kernel
theorem dX3_isRest_0 : decode cX3_isRest 0 = .ok (.aload_n 0, 1) := by decide +kernel
theorem dX3_isRest_1 : decode cX3_isRest 1 = .ok (.iload_n 1, 1) := by decide +kernel
theorem dX3_isRest_2 : decode cX3_isRest 2 = .ok (.iload_n 2, 1) := by decide +kernel
theorem dX3_isRest_3 : decode cX3_isRest 3 = .ok (.invokevirtual 47, 3) := by decide +kernel
theorem dX3_isRest_6 : decode cX3_isRest 6 = .ok (.iload_n 1, 1) := by decide +kernel
theorem dX3_isRest_7 : decode cX3_isRest 7 = .ok (.if_icmp .ne 7, 3) := by decide +kernel
theorem dX3_isRest_10 : decode cX3_isRest 10 = .ok (.iconst 1, 1) := by decide +kernel
theorem dX3_isRest_11 : decode cX3_isRest 11 = .ok (.goto 4, 3) := by decide +kernel
theorem dX3_isRest_14 : decode cX3_isRest 14 = .ok (.iconst 0, 1) := by decide +kernel
theorem dX3_isRest_15 : decode cX3_isRest 15 = .ok (.ireturn, 1) := by decide +kernel
theorem dX3_settled_0 : decode cX3_settled 0 = .ok (.iload_n 1, 1) := by decide +kernel
theorem dX3_settled_1 : decode cX3_settled 1 = .ok (.istore_n 3, 1) := by decide +kernel
theorem dX3_settled_2 : decode cX3_settled 2 = .ok (.iconst 0, 1) := by decide +kernel
theorem dX3_settled_3 : decode cX3_settled 3 = .ok (.istore 4, 2) := by decide +kernel
theorem dX3_settled_5 : decode cX3_settled 5 = .ok (.iload 4, 2) := by decide +kernel
theorem dX3_settled_7 : decode cX3_settled 7 = .ok (.bipush 63, 2) := by decide +kernel
theorem dX3_settled_9 : decode cX3_settled 9 = .ok (.if_icmp .gt 28, 3) := by decide +kernel
theorem dX3_settled_12 : decode cX3_settled 12 = .ok (.aload_n 0, 1) := by decide +kernel
theorem dX3_settled_13 : decode cX3_settled 13 = .ok (.iload_n 3, 1) := by decide +kernel
theorem dX3_settled_14 : decode cX3_settled 14 = .ok (.iload_n 2, 1) := by decide +kernel
theorem dX3_settled_15 : decode cX3_settled 15 = .ok (.invokevirtual 47, 3) := by decide +kernel
theorem dX3_settled_18 : decode cX3_settled 18 = .ok (.istore 5, 2) := by decide +kernel
theorem dX3_settled_20 : decode cX3_settled 20 = .ok (.iload 5, 2) := by decide +kernel
theorem dX3_settled_22 : decode cX3_settled 22 = .ok (.iload_n 3, 1) := by decide +kernel
theorem dX3_settled_23 : decode cX3_settled 23 = .ok (.if_icmp .ne 5, 3) := by decide +kernel
theorem dX3_settled_26 : decode cX3_settled 26 = .ok (.iload_n 3, 1) := by decide +kernel
theorem dX3_settled_27 : decode cX3_settled 27 = .ok (.ireturn, 1) := by decide +kernel
theorem dX3_settled_28 : decode cX3_settled 28 = .ok (.iload 5, 2) := by decide +kernel
theorem dX3_settled_30 : decode cX3_settled 30 = .ok (.istore_n 3, 1) := by decide +kernel
theorem dX3_settled_31 : decode cX3_settled 31 = .ok (.iinc 4 1, 3) := by decide +kernel
theorem dX3_settled_34 : decode cX3_settled 34 = .ok (.goto (-29), 3) := by decide +kernel
theorem dX3_settled_37 : decode cX3_settled 37 = .ok (.bipush (-9), 2) := by decide +kernel
theorem dX3_settled_39 : decode cX3_settled 39 = .ok (.ireturn, 1) := by decide +kernel
theorem dX4_init_0 : decode cX4_init 0 = .ok (.aload_n 0, 1) := by decide +kernel
theorem dX4_init_1 : decode cX4_init 1 = .ok (.invokespecial 3, 3) := by decide +kernel
theorem dX4_init_4 : decode cX4_init 4 = .ok (.aload_n 0, 1) := by decide +kernel
theorem dX4_init_5 : decode cX4_init 5 = .ok (.bipush 48, 2) := by decide +kernel
theorem dX4_init_7 : decode cX4_init 7 = .ok (.newarray .int, 2) := by decide +kernel
theorem dX4_init_9 : decode cX4_init 9 = .ok (.putfield 11, 3) := by decide +kernel
theorem dX4_init_12 : decode cX4_init 12 = .ok (.aload_n 0, 1) := by decide +kernel
theorem dX4_init_13 : decode cX4_init 13 = .ok (.iconst 4, 1) := by decide +kernel
theorem dX4_init_14 : decode cX4_init 14 = .ok (.newarray .int, 2) := by decide +kernel
theorem dX4_init_16 : decode cX4_init 16 = .ok (.dup, 1) := by decide +kernel
theorem dX4_init_17 : decode cX4_init 17 = .ok (.iconst 0, 1) := by decide +kernel
theorem dX4_init_18 : decode cX4_init 18 = .ok (.iconst 1, 1) := by decide +kernel
theorem dX4_init_19 : decode cX4_init 19 = .ok (.iastore, 1) := by decide +kernel
theorem dX4_init_20 : decode cX4_init 20 = .ok (.dup, 1) := by decide +kernel
theorem dX4_init_21 : decode cX4_init 21 = .ok (.iconst 1, 1) := by decide +kernel
theorem dX4_init_22 : decode cX4_init 22 = .ok (.iconst 1, 1) := by decide +kernel
theorem dX4_init_23 : decode cX4_init 23 = .ok (.iastore, 1) := by decide +kernel
theorem dX4_init_24 : decode cX4_init 24 = .ok (.dup, 1) := by decide +kernel
theorem dX4_init_25 : decode cX4_init 25 = .ok (.iconst 2, 1) := by decide +kernel
theorem dX4_init_26 : decode cX4_init 26 = .ok (.iconst 1, 1) := by decide +kernel
theorem dX4_init_27 : decode cX4_init 27 = .ok (.iastore, 1) := by decide +kernel
theorem dX4_init_28 : decode cX4_init 28 = .ok (.dup, 1) := by decide +kernel
theorem dX4_init_29 : decode cX4_init 29 = .ok (.iconst 3, 1) := by decide +kernel
theorem dX4_init_30 : decode cX4_init 30 = .ok (.iconst 1, 1) := by decide +kernel
theorem dX4_init_31 : decode cX4_init 31 = .ok (.iastore, 1) := by decide +kernel
theorem dX4_init_32 : decode cX4_init 32 = .ok (.putfield 15, 3) := by decide +kernel
theorem dX4_init_35 : decode cX4_init 35 = .ok (.return_, 1) := by decide +kernel
theorem dX4_mark_0 : decode cX4_mark 0 = .ok (.iload_n 1, 1) := by decide +kernel
theorem dX4_mark_1 : decode cX4_mark 1 = .ok (.iconst 0, 1) := by decide +kernel
theorem dX4_mark_2 : decode cX4_mark 2 = .ok (.bipush 7, 2) := by decide +kernel
theorem dX4_mark_4 : decode cX4_mark 4 = .ok (.invokestatic 18, 3) := by decide +kernel
theorem dX4_mark_7 : decode cX4_mark 7 = .ok (.ifCond .eq 24, 3) := by decide +kernel
theorem dX4_mark_10 : decode cX4_mark 10 = .ok (.iload_n 2, 1) := by decide +kernel
theorem dX4_mark_11 : decode cX4_mark 11 = .ok (.iconst 0, 1) := by decide +kernel
theorem dX4_mark_12 : decode cX4_mark 12 = .ok (.iconst 5, 1) := by decide +kernel
theorem dX4_mark_13 : decode cX4_mark 13 = .ok (.invokestatic 18, 3) := by decide +kernel
theorem dX4_mark_16 : decode cX4_mark 16 = .ok (.ifCond .eq 15, 3) := by decide +kernel
theorem dX4_mark_19 : decode cX4_mark 19 = .ok (.aload_n 0, 1) := by decide +kernel
theorem dX4_mark_20 : decode cX4_mark 20 = .ok (.getfield 11, 3) := by decide +kernel
theorem dX4_mark_23 : decode cX4_mark 23 = .ok (.iload_n 1, 1) := by decide +kernel
theorem dX4_mark_24 : decode cX4_mark 24 = .ok (.bipush 6, 2) := by decide +kernel
theorem dX4_mark_26 : decode cX4_mark 26 = .ok (.imul, 1) := by decide +kernel
theorem dX4_mark_27 : decode cX4_mark 27 = .ok (.iload_n 2, 1) := by decide +kernel
theorem dX4_mark_28 : decode cX4_mark 28 = .ok (.iadd, 1) := by decide +kernel
theorem dX4_mark_29 : decode cX4_mark 29 = .ok (.iload_n 3, 1) := by decide +kernel
theorem dX4_mark_30 : decode cX4_mark 30 = .ok (.iastore, 1) := by decide +kernel
theorem dX4_mark_31 : decode cX4_mark 31 = .ok (.return_, 1) := by decide +kernel
theorem dX4_markOf_0 : decode cX4_markOf 0 = .ok (.iload_n 1, 1) := by decide +kernel
theorem dX4_markOf_1 : decode cX4_markOf 1 = .ok (.iconst 0, 1) := by decide +kernel
theorem dX4_markOf_2 : decode cX4_markOf 2 = .ok (.bipush 7, 2) := by decide +kernel
theorem dX4_markOf_4 : decode cX4_markOf 4 = .ok (.invokestatic 18, 3) := by decide +kernel
theorem dX4_markOf_7 : decode cX4_markOf 7 = .ok (.ifCond .eq 16, 3) := by decide +kernel
theorem dX4_markOf_10 : decode cX4_markOf 10 = .ok (.iload_n 2, 1) := by decide +kernel
theorem dX4_markOf_11 : decode cX4_markOf 11 = .ok (.iconst 0, 1) := by decide +kernel
theorem dX4_markOf_12 : decode cX4_markOf 12 = .ok (.iconst 5, 1) := by decide +kernel
theorem dX4_markOf_13 : decode cX4_markOf 13 = .ok (.invokestatic 18, 3) := by decide +kernel
theorem dX4_markOf_16 : decode cX4_markOf 16 = .ok (.ifCond .eq 7, 3) := by decide +kernel
theorem dX4_markOf_19 : decode cX4_markOf 19 = .ok (.iconst 1, 1) := by decide +kernel
theorem dX4_markOf_20 : decode cX4_markOf 20 = .ok (.goto 4, 3) := by decide +kernel
theorem dX4_markOf_23 : decode cX4_markOf 23 = .ok (.iconst 0, 1) := by decide +kernel
theorem dX4_markOf_24 : decode cX4_markOf 24 = .ok (.istore_n 3, 1) := by decide +kernel
theorem dX4_markOf_25 : decode cX4_markOf 25 = .ok (.iload_n 3, 1) := by decide +kernel
theorem dX4_markOf_26 : decode cX4_markOf 26 = .ok (.ifCond .eq 17, 3) := by decide +kernel
theorem dX4_markOf_29 : decode cX4_markOf 29 = .ok (.aload_n 0, 1) := by decide +kernel
theorem dX4_markOf_30 : decode cX4_markOf 30 = .ok (.getfield 11, 3) := by decide +kernel
theorem dX4_markOf_33 : decode cX4_markOf 33 = .ok (.iload_n 1, 1) := by decide +kernel
theorem dX4_markOf_34 : decode cX4_markOf 34 = .ok (.bipush 6, 2) := by decide +kernel
theorem dX4_markOf_36 : decode cX4_markOf 36 = .ok (.imul, 1) := by decide +kernel
theorem dX4_markOf_37 : decode cX4_markOf 37 = .ok (.iload_n 2, 1) := by decide +kernel
theorem dX4_markOf_38 : decode cX4_markOf 38 = .ok (.iadd, 1) := by decide +kernel
theorem dX4_markOf_39 : decode cX4_markOf 39 = .ok (.iaload, 1) := by decide +kernel
theorem dX4_markOf_40 : decode cX4_markOf 40 = .ok (.goto 4, 3) := by decide +kernel
theorem dX4_markOf_43 : decode cX4_markOf 43 = .ok (.iconst 0, 1) := by decide +kernel
theorem dX4_markOf_44 : decode cX4_markOf 44 = .ok (.ireturn, 1) := by decide +kernel
theorem dX4_hasSign_0 : decode cX4_hasSign 0 = .ok (.aload_n 0, 1) := by decide +kernel
theorem dX4_hasSign_1 : decode cX4_hasSign 1 = .ok (.iload_n 1, 1) := by decide +kernel
theorem dX4_hasSign_2 : decode cX4_hasSign 2 = .ok (.iconst 1, 1) := by decide +kernel
theorem dX4_hasSign_3 : decode cX4_hasSign 3 = .ok (.invokevirtual 22, 3) := by decide +kernel
theorem dX4_hasSign_6 : decode cX4_hasSign 6 = .ok (.iload_n 2, 1) := by decide +kernel
theorem dX4_hasSign_7 : decode cX4_hasSign 7 = .ok (.iand, 1) := by decide +kernel
theorem dX4_hasSign_8 : decode cX4_hasSign 8 = .ok (.ifCond .eq 7, 3) := by decide +kernel
theorem dX4_hasSign_11 : decode cX4_hasSign 11 = .ok (.iconst 1, 1) := by decide +kernel
theorem dX4_hasSign_12 : decode cX4_hasSign 12 = .ok (.goto 4, 3) := by decide +kernel
theorem dX4_hasSign_15 : decode cX4_hasSign 15 = .ok (.iconst 0, 1) := by decide +kernel
theorem dX4_hasSign_16 : decode cX4_hasSign 16 = .ok (.ireturn, 1) := by decide +kernel
theorem dX4_isIcy_0 : decode cX4_isIcy 0 = .ok (.aload_n 0, 1) := by decide +kernel
theorem dX4_isIcy_1 : decode cX4_isIcy 1 = .ok (.iload_n 1, 1) := by decide +kernel
theorem dX4_isIcy_2 : decode cX4_isIcy 2 = .ok (.iconst 3, 1) := by decide +kernel
theorem dX4_isIcy_3 : decode cX4_isIcy 3 = .ok (.invokevirtual 26, 3) := by decide +kernel
theorem dX4_isIcy_6 : decode cX4_isIcy 6 = .ok (.ireturn, 1) := by decide +kernel
theorem dX4_liesIn_0 : decode cX4_liesIn 0 = .ok (.aload_n 0, 1) := by decide +kernel
theorem dX4_liesIn_1 : decode cX4_liesIn 1 = .ok (.iload_n 1, 1) := by decide +kernel
theorem dX4_liesIn_2 : decode cX4_liesIn 2 = .ok (.iconst 0, 1) := by decide +kernel
theorem dX4_liesIn_3 : decode cX4_liesIn 3 = .ok (.invokevirtual 22, 3) := by decide +kernel
theorem dX4_liesIn_6 : decode cX4_liesIn 6 = .ok (.iload_n 2, 1) := by decide +kernel
theorem dX4_liesIn_7 : decode cX4_liesIn 7 = .ok (.if_icmp .ne 7, 3) := by decide +kernel
theorem dX4_liesIn_10 : decode cX4_liesIn 10 = .ok (.iconst 1, 1) := by decide +kernel
theorem dX4_liesIn_11 : decode cX4_liesIn 11 = .ok (.goto 4, 3) := by decide +kernel
theorem dX4_liesIn_14 : decode cX4_liesIn 14 = .ok (.iconst 0, 1) := by decide +kernel
theorem dX4_liesIn_15 : decode cX4_liesIn 15 = .ok (.ireturn, 1) := by decide +kernel
theorem dX4_slideTenths_0 : decode cX4_slideTenths 0 = .ok (.aload_n 0, 1) := by decide +kernel
theorem dX4_slideTenths_1 : decode cX4_slideTenths 1 = .ok (.iload_n 1, 1) := by decide +kernel
theorem dX4_slideTenths_2 : decode cX4_slideTenths 2 = .ok (.bipush 8, 2) := by decide +kernel
theorem dX4_slideTenths_4 : decode cX4_slideTenths 4 = .ok (.invokevirtual 26, 3) := by decide +kernel
theorem dX4_slideTenths_7 : decode cX4_slideTenths 7 = .ok (.ifCond .eq 8, 3) := by decide +kernel
theorem dX4_slideTenths_10 : decode cX4_slideTenths 10 = .ok (.bipush 6, 2) := by decide +kernel
theorem dX4_slideTenths_12 : decode cX4_slideTenths 12 = .ok (.goto 4, 3) := by decide +kernel
theorem dX4_slideTenths_15 : decode cX4_slideTenths 15 = .ok (.iconst 2, 1) := by decide +kernel
theorem dX4_slideTenths_16 : decode cX4_slideTenths 16 = .ok (.istore_n 2, 1) := by decide +kernel
theorem dX4_slideTenths_17 : decode cX4_slideTenths 17 = .ok (.aload_n 0, 1) := by decide +kernel
theorem dX4_slideTenths_18 : decode cX4_slideTenths 18 = .ok (.iload_n 1, 1) := by decide +kernel
theorem dX4_slideTenths_19 : decode cX4_slideTenths 19 = .ok (.iconst 2, 1) := by decide +kernel
theorem dX4_slideTenths_20 : decode cX4_slideTenths 20 = .ok (.invokevirtual 26, 3) := by decide +kernel
theorem dX4_slideTenths_23 : decode cX4_slideTenths 23 = .ok (.ifCond .eq 6, 3) := by decide +kernel
theorem dX4_slideTenths_26 : decode cX4_slideTenths 26 = .ok (.iinc 2 (-1), 3) := by decide +kernel
theorem dX4_slideTenths_29 : decode cX4_slideTenths 29 = .ok (.aload_n 0, 1) := by decide +kernel
theorem dX4_slideTenths_30 : decode cX4_slideTenths 30 = .ok (.iload_n 1, 1) := by decide +kernel
theorem dX4_slideTenths_31 : decode cX4_slideTenths 31 = .ok (.iconst 4, 1) := by decide +kernel
theorem dX4_slideTenths_32 : decode cX4_slideTenths 32 = .ok (.invokevirtual 26, 3) := by decide +kernel
theorem dX4_slideTenths_35 : decode cX4_slideTenths 35 = .ok (.ifCond .eq 6, 3) := by decide +kernel
theorem dX4_slideTenths_38 : decode cX4_slideTenths 38 = .ok (.iinc 2 (-1), 3) := by decide +kernel
theorem dX4_slideTenths_41 : decode cX4_slideTenths 41 = .ok (.iload_n 2, 1) := by decide +kernel
theorem dX4_slideTenths_42 : decode cX4_slideTenths 42 = .ok (.ireturn, 1) := by decide +kernel
theorem dX4_icyBeds_0 : decode cX4_icyBeds 0 = .ok (.iconst 0, 1) := by decide +kernel
theorem dX4_icyBeds_1 : decode cX4_icyBeds 1 = .ok (.istore_n 1, 1) := by decide +kernel
theorem dX4_icyBeds_2 : decode cX4_icyBeds 2 = .ok (.iconst 0, 1) := by decide +kernel
theorem dX4_icyBeds_3 : decode cX4_icyBeds 3 = .ok (.istore_n 2, 1) := by decide +kernel
theorem dX4_icyBeds_4 : decode cX4_icyBeds 4 = .ok (.iload_n 2, 1) := by decide +kernel
theorem dX4_icyBeds_5 : decode cX4_icyBeds 5 = .ok (.aload_n 0, 1) := by decide +kernel
theorem dX4_icyBeds_6 : decode cX4_icyBeds 6 = .ok (.getfield 30, 3) := by decide +kernel
theorem dX4_icyBeds_9 : decode cX4_icyBeds 9 = .ok (.if_icmp .ge 20, 3) := by decide +kernel
theorem dX4_icyBeds_12 : decode cX4_icyBeds 12 = .ok (.aload_n 0, 1) := by decide +kernel
theorem dX4_icyBeds_13 : decode cX4_icyBeds 13 = .ok (.iload_n 2, 1) := by decide +kernel
theorem dX4_icyBeds_14 : decode cX4_icyBeds 14 = .ok (.invokevirtual 34, 3) := by decide +kernel
theorem dX4_icyBeds_17 : decode cX4_icyBeds 17 = .ok (.ifCond .eq 6, 3) := by decide +kernel
theorem dX4_icyBeds_20 : decode cX4_icyBeds 20 = .ok (.iinc 1 1, 3) := by decide +kernel
theorem dX4_icyBeds_23 : decode cX4_icyBeds 23 = .ok (.iinc 2 1, 3) := by decide +kernel
theorem dX4_icyBeds_26 : decode cX4_icyBeds 26 = .ok (.goto (-22), 3) := by decide +kernel
theorem dX4_icyBeds_29 : decode cX4_icyBeds 29 = .ok (.iload_n 1, 1) := by decide +kernel
theorem dX4_icyBeds_30 : decode cX4_icyBeds 30 = .ok (.ireturn, 1) := by decide +kernel
theorem dX4_weightsTogether_0 : decode cX4_weightsTogether 0 = .ok (.iconst 0, 1) := by decide +kernel
theorem dX4_weightsTogether_1 : decode cX4_weightsTogether 1 = .ok (.istore_n 1, 1) := by decide +kernel
theorem dX4_weightsTogether_2 : decode cX4_weightsTogether 2 = .ok (.iconst 0, 1) := by decide +kernel
theorem dX4_weightsTogether_3 : decode cX4_weightsTogether 3 = .ok (.istore_n 2, 1) := by decide +kernel
theorem dX4_weightsTogether_4 : decode cX4_weightsTogether 4 = .ok (.iload_n 2, 1) := by decide +kernel
theorem dX4_weightsTogether_5 : decode cX4_weightsTogether 5 = .ok (.iconst 4, 1) := by decide +kernel
theorem dX4_weightsTogether_6 : decode cX4_weightsTogether 6 = .ok (.if_icmp .ge 18, 3) := by decide +kernel
theorem dX4_weightsTogether_9 : decode cX4_weightsTogether 9 = .ok (.iload_n 1, 1) := by decide +kernel
theorem dX4_weightsTogether_10 : decode cX4_weightsTogether 10 = .ok (.aload_n 0, 1) := by decide +kernel
theorem dX4_weightsTogether_11 : decode cX4_weightsTogether 11 = .ok (.getfield 15, 3) := by decide +kernel
theorem dX4_weightsTogether_14 : decode cX4_weightsTogether 14 = .ok (.iload_n 2, 1) := by decide +kernel
theorem dX4_weightsTogether_15 : decode cX4_weightsTogether 15 = .ok (.iaload, 1) := by decide +kernel
theorem dX4_weightsTogether_16 : decode cX4_weightsTogether 16 = .ok (.iadd, 1) := by decide +kernel
theorem dX4_weightsTogether_17 : decode cX4_weightsTogether 17 = .ok (.istore_n 1, 1) := by decide +kernel
theorem dX4_weightsTogether_18 : decode cX4_weightsTogether 18 = .ok (.iinc 2 1, 3) := by decide +kernel
theorem dX4_weightsTogether_21 : decode cX4_weightsTogether 21 = .ok (.goto (-17), 3) := by decide +kernel
theorem dX4_weightsTogether_24 : decode cX4_weightsTogether 24 = .ok (.iload_n 1, 1) := by decide +kernel
theorem dX4_weightsTogether_25 : decode cX4_weightsTogether 25 = .ok (.ireturn, 1) := by decide +kernel
theorem dX4_copyFrom_0 : decode cX4_copyFrom 0 = .ok (.aload_n 1, 1) := by decide +kernel
theorem dX4_copyFrom_1 : decode cX4_copyFrom 1 = .ok (.getfield 11, 3) := by decide +kernel
theorem dX4_copyFrom_4 : decode cX4_copyFrom 4 = .ok (.iconst 0, 1) := by decide +kernel
theorem dX4_copyFrom_5 : decode cX4_copyFrom 5 = .ok (.aload_n 0, 1) := by decide +kernel
theorem dX4_copyFrom_6 : decode cX4_copyFrom 6 = .ok (.getfield 11, 3) := by decide +kernel
theorem dX4_copyFrom_9 : decode cX4_copyFrom 9 = .ok (.iconst 0, 1) := by decide +kernel
theorem dX4_copyFrom_10 : decode cX4_copyFrom 10 = .ok (.bipush 48, 2) := by decide +kernel
theorem dX4_copyFrom_12 : decode cX4_copyFrom 12 = .ok (.invokestatic 38, 3) := by decide +kernel
theorem dX4_copyFrom_15 : decode cX4_copyFrom 15 = .ok (.aload_n 1, 1) := by decide +kernel
theorem dX4_copyFrom_16 : decode cX4_copyFrom 16 = .ok (.getfield 15, 3) := by decide +kernel
theorem dX4_copyFrom_19 : decode cX4_copyFrom 19 = .ok (.iconst 0, 1) := by decide +kernel
theorem dX4_copyFrom_20 : decode cX4_copyFrom 20 = .ok (.aload_n 0, 1) := by decide +kernel
theorem dX4_copyFrom_21 : decode cX4_copyFrom 21 = .ok (.getfield 15, 3) := by decide +kernel
theorem dX4_copyFrom_24 : decode cX4_copyFrom 24 = .ok (.iconst 0, 1) := by decide +kernel
theorem dX4_copyFrom_25 : decode cX4_copyFrom 25 = .ok (.iconst 4, 1) := by decide +kernel
theorem dX4_copyFrom_26 : decode cX4_copyFrom 26 = .ok (.invokestatic 38, 3) := by decide +kernel
theorem dX4_copyFrom_29 : decode cX4_copyFrom 29 = .ok (.aload_n 0, 1) := by decide +kernel
theorem dX4_copyFrom_30 : decode cX4_copyFrom 30 = .ok (.aload_n 1, 1) := by decide +kernel
theorem dX4_copyFrom_31 : decode cX4_copyFrom 31 = .ok (.getfield 30, 3) := by decide +kernel
theorem dX4_copyFrom_34 : decode cX4_copyFrom 34 = .ok (.putfield 30, 3) := by decide +kernel
theorem dX4_copyFrom_37 : decode cX4_copyFrom 37 = .ok (.return_, 1) := by decide +kernel
theorem dX5_init_0 : decode cX5_init 0 = .ok (.aload_n 0, 1) := by decide +kernel
theorem dX5_init_1 : decode cX5_init 1 = .ok (.invokespecial 3, 3) := by decide +kernel
theorem dX5_init_4 : decode cX5_init 4 = .ok (.aload_n 0, 1) := by decide +kernel
theorem dX5_init_5 : decode cX5_init 5 = .ok (.iconst 4, 1) := by decide +kernel
theorem dX5_init_6 : decode cX5_init 6 = .ok (.newarray .long, 2) := by decide +kernel
theorem dX5_init_8 : decode cX5_init 8 = .ok (.putfield 9, 3) := by decide +kernel
theorem dX5_init_11 : decode cX5_init 11 = .ok (.aload_n 0, 1) := by decide +kernel
theorem dX5_init_12 : decode cX5_init 12 = .ok (.bipush 32, 2) := by decide +kernel
theorem dX5_init_14 : decode cX5_init 14 = .ok (.newarray .int, 2) := by decide +kernel
theorem dX5_init_16 : decode cX5_init 16 = .ok (.putfield 17, 3) := by decide +kernel
theorem dX5_init_19 : decode cX5_init 19 = .ok (.return_, 1) := by decide +kernel
theorem dX5_hundredths_0 : decode cX5_hundredths 0 = .ok (.aload_n 1, 1) := by decide +kernel
theorem dX5_hundredths_1 : decode cX5_hundredths 1 = .ok (.iload_n 3, 1) := by decide +kernel
theorem dX5_hundredths_2 : decode cX5_hundredths 2 = .ok (.iconst 2, 1) := by decide +kernel
theorem dX5_hundredths_3 : decode cX5_hundredths 3 = .ok (.invokevirtual 21, 3) := by decide +kernel
theorem dX5_hundredths_6 : decode cX5_hundredths 6 = .ok (.istore 4, 2) := by decide +kernel
theorem dX5_hundredths_8 : decode cX5_hundredths 8 = .ok (.aload_n 1, 1) := by decide +kernel
theorem dX5_hundredths_9 : decode cX5_hundredths 9 = .ok (.iload_n 3, 1) := by decide +kernel
theorem dX5_hundredths_10 : decode cX5_hundredths 10 = .ok (.iconst 3, 1) := by decide +kernel
theorem dX5_hundredths_11 : decode cX5_hundredths 11 = .ok (.invokevirtual 21, 3) := by decide +kernel
theorem dX5_hundredths_14 : decode cX5_hundredths 14 = .ok (.istore 5, 2) := by decide +kernel
theorem dX5_hundredths_16 : decode cX5_hundredths 16 = .ok (.aload_n 1, 1) := by decide +kernel
theorem dX5_hundredths_17 : decode cX5_hundredths 17 = .ok (.iload_n 3, 1) := by decide +kernel
theorem dX5_hundredths_18 : decode cX5_hundredths 18 = .ok (.iconst 4, 1) := by decide +kernel
theorem dX5_hundredths_19 : decode cX5_hundredths 19 = .ok (.invokevirtual 21, 3) := by decide +kernel
theorem dX5_hundredths_22 : decode cX5_hundredths 22 = .ok (.istore 6, 2) := by decide +kernel
theorem dX5_hundredths_24 : decode cX5_hundredths 24 = .ok (.aload_n 1, 1) := by decide +kernel
theorem dX5_hundredths_25 : decode cX5_hundredths 25 = .ok (.iload_n 3, 1) := by decide +kernel
theorem dX5_hundredths_26 : decode cX5_hundredths 26 = .ok (.iconst 5, 1) := by decide +kernel
theorem dX5_hundredths_27 : decode cX5_hundredths 27 = .ok (.invokevirtual 21, 3) := by decide +kernel
theorem dX5_hundredths_30 : decode cX5_hundredths 30 = .ok (.istore 7, 2) := by decide +kernel
theorem dX5_hundredths_32 : decode cX5_hundredths 32 = .ok (.aload_n 1, 1) := by decide +kernel
theorem dX5_hundredths_33 : decode cX5_hundredths 33 = .ok (.iload_n 3, 1) := by decide +kernel
theorem dX5_hundredths_34 : decode cX5_hundredths 34 = .ok (.invokevirtual 25, 3) := by decide +kernel
theorem dX5_hundredths_37 : decode cX5_hundredths 37 = .ok (.ifCond .ne 43, 3) := by decide +kernel
theorem dX5_hundredths_40 : decode cX5_hundredths 40 = .ok (.aload_n 0, 1) := by decide +kernel
theorem dX5_hundredths_41 : decode cX5_hundredths 41 = .ok (.iload_n 2, 1) := by decide +kernel
theorem dX5_hundredths_42 : decode cX5_hundredths 42 = .ok (.iload 4, 2) := by decide +kernel
theorem dX5_hundredths_44 : decode cX5_hundredths 44 = .ok (.iload 5, 2) := by decide +kernel
theorem dX5_hundredths_46 : decode cX5_hundredths 46 = .ok (.invokevirtual 29, 3) := by decide +kernel
theorem dX5_hundredths_49 : decode cX5_hundredths 49 = .ok (.iload 6, 2) := by decide +kernel
theorem dX5_hundredths_51 : decode cX5_hundredths 51 = .ok (.invokestatic 35, 3) := by decide +kernel
theorem dX5_hundredths_54 : decode cX5_hundredths 54 = .ok (.istore 8, 2) := by decide +kernel
theorem dX5_hundredths_56 : decode cX5_hundredths 56 = .ok (.iload 7, 2) := by decide +kernel
theorem dX5_hundredths_58 : decode cX5_hundredths 58 = .ok (.iload 8, 2) := by decide +kernel
theorem dX5_hundredths_60 : decode cX5_hundredths 60 = .ok (.ifCond .eq 7, 3) := by decide +kernel
theorem dX5_hundredths_63 : decode cX5_hundredths 63 = .ok (.iconst 5, 1) := by decide +kernel
theorem dX5_hundredths_64 : decode cX5_hundredths 64 = .ok (.goto 5, 3) := by decide +kernel
theorem dX5_hundredths_67 : decode cX5_hundredths 67 = .ok (.bipush 10, 2) := by decide +kernel
theorem dX5_hundredths_69 : decode cX5_hundredths 69 = .ok (.imul, 1) := by decide +kernel
theorem dX5_hundredths_70 : decode cX5_hundredths 70 = .ok (.bipush 10, 2) := by decide +kernel
theorem dX5_hundredths_72 : decode cX5_hundredths 72 = .ok (.iload 7, 2) := by decide +kernel
theorem dX5_hundredths_74 : decode cX5_hundredths 74 = .ok (.isub, 1) := by decide +kernel
theorem dX5_hundredths_75 : decode cX5_hundredths 75 = .ok (.bipush 10, 2) := by decide +kernel
theorem dX5_hundredths_77 : decode cX5_hundredths 77 = .ok (.imul, 1) := by decide +kernel
theorem dX5_hundredths_78 : decode cX5_hundredths 78 = .ok (.iadd, 1) := by decide +kernel
theorem dX5_hundredths_79 : decode cX5_hundredths 79 = .ok (.ireturn, 1) := by decide +kernel
theorem dX5_hundredths_80 : decode cX5_hundredths 80 = .ok (.aload_n 0, 1) := by decide +kernel
theorem dX5_hundredths_81 : decode cX5_hundredths 81 = .ok (.iload_n 2, 1) := by decide +kernel
theorem dX5_hundredths_82 : decode cX5_hundredths 82 = .ok (.iload 4, 2) := by decide +kernel
theorem dX5_hundredths_84 : decode cX5_hundredths 84 = .ok (.iload 5, 2) := by decide +kernel
theorem dX5_hundredths_86 : decode cX5_hundredths 86 = .ok (.invokevirtual 39, 3) := by decide +kernel
theorem dX5_hundredths_89 : decode cX5_hundredths 89 = .ok (.istore 8, 2) := by decide +kernel
theorem dX5_hundredths_91 : decode cX5_hundredths 91 = .ok (.aload_n 1, 1) := by decide +kernel
theorem dX5_hundredths_92 : decode cX5_hundredths 92 = .ok (.iload_n 3, 1) := by decide +kernel
theorem dX5_hundredths_93 : decode cX5_hundredths 93 = .ok (.invokevirtual 42, 3) := by decide +kernel
theorem dX5_hundredths_96 : decode cX5_hundredths 96 = .ok (.istore 9, 2) := by decide +kernel
theorem dX5_hundredths_98 : decode cX5_hundredths 98 = .ok (.iload 7, 2) := by decide +kernel
theorem dX5_hundredths_100 : decode cX5_hundredths 100 = .ok (.iload 8, 2) := by decide +kernel
theorem dX5_hundredths_102 : decode cX5_hundredths 102 = .ok (.iload 6, 2) := by decide +kernel
theorem dX5_hundredths_104 : decode cX5_hundredths 104 = .ok (.invokestatic 35, 3) := by decide +kernel
theorem dX5_hundredths_107 : decode cX5_hundredths 107 = .ok (.ifCond .eq 8, 3) := by decide +kernel
theorem dX5_hundredths_110 : decode cX5_hundredths 110 = .ok (.bipush 10, 2) := by decide +kernel
theorem dX5_hundredths_112 : decode cX5_hundredths 112 = .ok (.goto 5, 3) := by decide +kernel
theorem dX5_hundredths_115 : decode cX5_hundredths 115 = .ok (.iload 9, 2) := by decide +kernel
theorem dX5_hundredths_117 : decode cX5_hundredths 117 = .ok (.imul, 1) := by decide +kernel
theorem dX5_hundredths_118 : decode cX5_hundredths 118 = .ok (.bipush 10, 2) := by decide +kernel
theorem dX5_hundredths_120 : decode cX5_hundredths 120 = .ok (.iload 7, 2) := by decide +kernel
theorem dX5_hundredths_122 : decode cX5_hundredths 122 = .ok (.isub, 1) := by decide +kernel
theorem dX5_hundredths_123 : decode cX5_hundredths 123 = .ok (.iload 8, 2) := by decide +kernel
theorem dX5_hundredths_125 : decode cX5_hundredths 125 = .ok (.ifCond .eq 8, 3) := by decide +kernel
theorem dX5_hundredths_128 : decode cX5_hundredths 128 = .ok (.bipush 10, 2) := by decide +kernel
theorem dX5_hundredths_130 : decode cX5_hundredths 130 = .ok (.goto 5, 3) := by decide +kernel
theorem dX5_hundredths_133 : decode cX5_hundredths 133 = .ok (.iload 9, 2) := by decide +kernel
theorem dX5_hundredths_135 : decode cX5_hundredths 135 = .ok (.imul, 1) := by decide +kernel
theorem dX5_hundredths_136 : decode cX5_hundredths 136 = .ok (.iadd, 1) := by decide +kernel
theorem dX5_hundredths_137 : decode cX5_hundredths 137 = .ok (.ireturn, 1) := by decide +kernel
theorem dX5_explainedBy_0 : decode cX5_explainedBy 0 = .ok (.iconst 0, 1) := by decide +kernel
theorem dX5_explainedBy_1 : decode cX5_explainedBy 1 = .ok (.istore 4, 2) := by decide +kernel
theorem dX5_explainedBy_3 : decode cX5_explainedBy 3 = .ok (.iconst 0, 1) := by decide +kernel
theorem dX5_explainedBy_4 : decode cX5_explainedBy 4 = .ok (.istore 5, 2) := by decide +kernel
theorem dX5_explainedBy_6 : decode cX5_explainedBy 6 = .ok (.iload 5, 2) := by decide +kernel
theorem dX5_explainedBy_8 : decode cX5_explainedBy 8 = .ok (.aload_n 1, 1) := by decide +kernel
theorem dX5_explainedBy_9 : decode cX5_explainedBy 9 = .ok (.getfield 46, 3) := by decide +kernel
theorem dX5_explainedBy_12 : decode cX5_explainedBy 12 = .ok (.if_icmp .ge 66, 3) := by decide +kernel
theorem dX5_explainedBy_15 : decode cX5_explainedBy 15 = .ok (.aload_n 0, 1) := by decide +kernel
theorem dX5_explainedBy_16 : decode cX5_explainedBy 16 = .ok (.iload_n 2, 1) := by decide +kernel
theorem dX5_explainedBy_17 : decode cX5_explainedBy 17 = .ok (.aload_n 1, 1) := by decide +kernel
theorem dX5_explainedBy_18 : decode cX5_explainedBy 18 = .ok (.iload 5, 2) := by decide +kernel
theorem dX5_explainedBy_20 : decode cX5_explainedBy 20 = .ok (.iconst 2, 1) := by decide +kernel
theorem dX5_explainedBy_21 : decode cX5_explainedBy 21 = .ok (.invokevirtual 21, 3) := by decide +kernel
theorem dX5_explainedBy_24 : decode cX5_explainedBy 24 = .ok (.aload_n 1, 1) := by decide +kernel
theorem dX5_explainedBy_25 : decode cX5_explainedBy 25 = .ok (.iload 5, 2) := by decide +kernel
theorem dX5_explainedBy_27 : decode cX5_explainedBy 27 = .ok (.iconst 3, 1) := by decide +kernel
theorem dX5_explainedBy_28 : decode cX5_explainedBy 28 = .ok (.invokevirtual 21, 3) := by decide +kernel
theorem dX5_explainedBy_31 : decode cX5_explainedBy 31 = .ok (.invokevirtual 39, 3) := by decide +kernel
theorem dX5_explainedBy_34 : decode cX5_explainedBy 34 = .ok (.istore 6, 2) := by decide +kernel
theorem dX5_explainedBy_36 : decode cX5_explainedBy 36 = .ok (.aload_n 1, 1) := by decide +kernel
theorem dX5_explainedBy_37 : decode cX5_explainedBy 37 = .ok (.iload 5, 2) := by decide +kernel
theorem dX5_explainedBy_39 : decode cX5_explainedBy 39 = .ok (.iconst 4, 1) := by decide +kernel
theorem dX5_explainedBy_40 : decode cX5_explainedBy 40 = .ok (.invokevirtual 21, 3) := by decide +kernel
theorem dX5_explainedBy_43 : decode cX5_explainedBy 43 = .ok (.iload_n 3, 1) := by decide +kernel
theorem dX5_explainedBy_44 : decode cX5_explainedBy 44 = .ok (.isub, 1) := by decide +kernel
theorem dX5_explainedBy_45 : decode cX5_explainedBy 45 = .ok (.invokestatic 50, 3) := by decide +kernel
theorem dX5_explainedBy_48 : decode cX5_explainedBy 48 = .ok (.istore 7, 2) := by decide +kernel
theorem dX5_explainedBy_50 : decode cX5_explainedBy 50 = .ok (.aload_n 1, 1) := by decide +kernel
theorem dX5_explainedBy_51 : decode cX5_explainedBy 51 = .ok (.iload 5, 2) := by decide +kernel
theorem dX5_explainedBy_53 : decode cX5_explainedBy 53 = .ok (.invokevirtual 25, 3) := by decide +kernel
theorem dX5_explainedBy_56 : decode cX5_explainedBy 56 = .ok (.ifCond .eq 16, 3) := by decide +kernel
theorem dX5_explainedBy_59 : decode cX5_explainedBy 59 = .ok (.iload 6, 2) := by decide +kernel
theorem dX5_explainedBy_61 : decode cX5_explainedBy 61 = .ok (.iload 7, 2) := by decide +kernel
theorem dX5_explainedBy_63 : decode cX5_explainedBy 63 = .ok (.invokestatic 35, 3) := by decide +kernel
theorem dX5_explainedBy_66 : decode cX5_explainedBy 66 = .ok (.ifCond .eq 6, 3) := by decide +kernel
theorem dX5_explainedBy_69 : decode cX5_explainedBy 69 = .ok (.iinc 4 1, 3) := by decide +kernel
theorem dX5_explainedBy_72 : decode cX5_explainedBy 72 = .ok (.iinc 5 1, 3) := by decide +kernel
theorem dX5_explainedBy_75 : decode cX5_explainedBy 75 = .ok (.goto (-69), 3) := by decide +kernel
theorem dX5_explainedBy_78 : decode cX5_explainedBy 78 = .ok (.iload 4, 2) := by decide +kernel
theorem dX5_explainedBy_80 : decode cX5_explainedBy 80 = .ok (.ireturn, 1) := by decide +kernel
theorem dX5_weigh_0 : decode cX5_weigh 0 = .ok (.iconst 0, 1) := by decide +kernel
theorem dX5_weigh_1 : decode cX5_weigh 1 = .ok (.istore_n 3, 1) := by decide +kernel
theorem dX5_weigh_2 : decode cX5_weigh 2 = .ok (.iload_n 3, 1) := by decide +kernel
theorem dX5_weigh_3 : decode cX5_weigh 3 = .ok (.iconst 4, 1) := by decide +kernel
theorem dX5_weigh_4 : decode cX5_weigh 4 = .ok (.if_icmp .ge 54, 3) := by decide +kernel
theorem dX5_weigh_7 : decode cX5_weigh 7 = .ok (.iconst 0, 1) := by decide +kernel
theorem dX5_weigh_8 : decode cX5_weigh 8 = .ok (.istore 4, 2) := by decide +kernel
theorem dX5_weigh_10 : decode cX5_weigh 10 = .ok (.iload 4, 2) := by decide +kernel
theorem dX5_weigh_12 : decode cX5_weigh 12 = .ok (.aload_n 2, 1) := by decide +kernel
theorem dX5_weigh_13 : decode cX5_weigh 13 = .ok (.getfield 46, 3) := by decide +kernel
theorem dX5_weigh_16 : decode cX5_weigh 16 = .ok (.if_icmp .ge 36, 3) := by decide +kernel
theorem dX5_weigh_19 : decode cX5_weigh 19 = .ok (.iload 4, 2) := by decide +kernel
theorem dX5_weigh_21 : decode cX5_weigh 21 = .ok (.bipush 8, 2) := by decide +kernel
theorem dX5_weigh_23 : decode cX5_weigh 23 = .ok (.if_icmp .ge 29, 3) := by decide +kernel
theorem dX5_weigh_26 : decode cX5_weigh 26 = .ok (.aload_n 0, 1) := by decide +kernel
theorem dX5_weigh_27 : decode cX5_weigh 27 = .ok (.getfield 17, 3) := by decide +kernel
theorem dX5_weigh_30 : decode cX5_weigh 30 = .ok (.iload_n 3, 1) := by decide +kernel
theorem dX5_weigh_31 : decode cX5_weigh 31 = .ok (.bipush 8, 2) := by decide +kernel
theorem dX5_weigh_33 : decode cX5_weigh 33 = .ok (.imul, 1) := by decide +kernel
theorem dX5_weigh_34 : decode cX5_weigh 34 = .ok (.iload 4, 2) := by decide +kernel
theorem dX5_weigh_36 : decode cX5_weigh 36 = .ok (.iadd, 1) := by decide +kernel
theorem dX5_weigh_37 : decode cX5_weigh 37 = .ok (.aload_n 1, 1) := by decide +kernel
theorem dX5_weigh_38 : decode cX5_weigh 38 = .ok (.aload_n 2, 1) := by decide +kernel
theorem dX5_weigh_39 : decode cX5_weigh 39 = .ok (.iload_n 3, 1) := by decide +kernel
theorem dX5_weigh_40 : decode cX5_weigh 40 = .ok (.iload 4, 2) := by decide +kernel
theorem dX5_weigh_42 : decode cX5_weigh 42 = .ok (.invokestatic 55, 3) := by decide +kernel
theorem dX5_weigh_45 : decode cX5_weigh 45 = .ok (.iastore, 1) := by decide +kernel
theorem dX5_weigh_46 : decode cX5_weigh 46 = .ok (.iinc 4 1, 3) := by decide +kernel
theorem dX5_weigh_49 : decode cX5_weigh 49 = .ok (.goto (-39), 3) := by decide +kernel
theorem dX5_weigh_52 : decode cX5_weigh 52 = .ok (.iinc 3 1, 3) := by decide +kernel
theorem dX5_weigh_55 : decode cX5_weigh 55 = .ok (.goto (-53), 3) := by decide +kernel
theorem dX5_weigh_58 : decode cX5_weigh 58 = .ok (.aload_n 0, 1) := by decide +kernel
theorem dX5_weigh_59 : decode cX5_weigh 59 = .ok (.aload_n 2, 1) := by decide +kernel
theorem dX5_weigh_60 : decode cX5_weigh 60 = .ok (.bipush (-9), 2) := by decide +kernel
theorem dX5_weigh_62 : decode cX5_weigh 62 = .ok (.invokevirtual 59, 3) := by decide +kernel
theorem dX5_weigh_65 : decode cX5_weigh 65 = .ok (.return_, 1) := by decide +kernel
theorem dX5_weighWithout_0 : decode cX5_weighWithout 0 = .ok (.aload_n 0, 1) := by decide +kernel
theorem dX5_weighWithout_1 : decode cX5_weighWithout 1 = .ok (.lconst 0, 1) := by decide +kernel
theorem dX5_weighWithout_2 : decode cX5_weighWithout 2 = .ok (.putfield 63, 3) := by decide +kernel
theorem dX5_weighWithout_5 : decode cX5_weighWithout 5 = .ok (.iconst 0, 1) := by decide +kernel
theorem dX5_weighWithout_6 : decode cX5_weighWithout 6 = .ok (.istore_n 3, 1) := by decide +kernel
theorem dX5_weighWithout_7 : decode cX5_weighWithout 7 = .ok (.iload_n 3, 1) := by decide +kernel
theorem dX5_weighWithout_8 : decode cX5_weighWithout 8 = .ok (.iconst 4, 1) := by decide +kernel
theorem dX5_weighWithout_9 : decode cX5_weighWithout 9 = .ok (.if_icmp .ge 86, 3) := by decide +kernel
theorem dX5_weighWithout_12 : decode cX5_weighWithout 12 = .ok (.aload_n 1, 1) := by decide +kernel
theorem dX5_weighWithout_13 : decode cX5_weighWithout 13 = .ok (.getfield 67, 3) := by decide +kernel
theorem dX5_weighWithout_16 : decode cX5_weighWithout 16 = .ok (.iload_n 3, 1) := by decide +kernel
theorem dX5_weighWithout_17 : decode cX5_weighWithout 17 = .ok (.iaload, 1) := by decide +kernel
theorem dX5_weighWithout_18 : decode cX5_weighWithout 18 = .ok (.i2l, 1) := by decide +kernel
theorem dX5_weighWithout_19 : decode cX5_weighWithout 19 = .ok (.lstore 4, 2) := by decide +kernel
theorem dX5_weighWithout_21 : decode cX5_weighWithout 21 = .ok (.iconst 0, 1) := by decide +kernel
theorem dX5_weighWithout_22 : decode cX5_weighWithout 22 = .ok (.istore 6, 2) := by decide +kernel
theorem dX5_weighWithout_24 : decode cX5_weighWithout 24 = .ok (.iload 6, 2) := by decide +kernel
theorem dX5_weighWithout_26 : decode cX5_weighWithout 26 = .ok (.aload_n 1, 1) := by decide +kernel
theorem dX5_weighWithout_27 : decode cX5_weighWithout 27 = .ok (.getfield 46, 3) := by decide +kernel
theorem dX5_weighWithout_30 : decode cX5_weighWithout 30 = .ok (.if_icmp .ge 40, 3) := by decide +kernel
theorem dX5_weighWithout_33 : decode cX5_weighWithout 33 = .ok (.iload 6, 2) := by decide +kernel
theorem dX5_weighWithout_35 : decode cX5_weighWithout 35 = .ok (.bipush 8, 2) := by decide +kernel
theorem dX5_weighWithout_37 : decode cX5_weighWithout 37 = .ok (.if_icmp .ge 33, 3) := by decide +kernel
theorem dX5_weighWithout_40 : decode cX5_weighWithout 40 = .ok (.iload 6, 2) := by decide +kernel
theorem dX5_weighWithout_42 : decode cX5_weighWithout 42 = .ok (.iload_n 2, 1) := by decide +kernel
theorem dX5_weighWithout_43 : decode cX5_weighWithout 43 = .ok (.if_icmp .eq 21, 3) := by decide +kernel
theorem dX5_weighWithout_46 : decode cX5_weighWithout 46 = .ok (.lload 4, 2) := by decide +kernel
theorem dX5_weighWithout_48 : decode cX5_weighWithout 48 = .ok (.aload_n 0, 1) := by decide +kernel
theorem dX5_weighWithout_49 : decode cX5_weighWithout 49 = .ok (.getfield 17, 3) := by decide +kernel
theorem dX5_weighWithout_52 : decode cX5_weighWithout 52 = .ok (.iload_n 3, 1) := by decide +kernel
theorem dX5_weighWithout_53 : decode cX5_weighWithout 53 = .ok (.bipush 8, 2) := by decide +kernel
theorem dX5_weighWithout_55 : decode cX5_weighWithout 55 = .ok (.imul, 1) := by decide +kernel
theorem dX5_weighWithout_56 : decode cX5_weighWithout 56 = .ok (.iload 6, 2) := by decide +kernel
theorem dX5_weighWithout_58 : decode cX5_weighWithout 58 = .ok (.iadd, 1) := by decide +kernel
theorem dX5_weighWithout_59 : decode cX5_weighWithout 59 = .ok (.iaload, 1) := by decide +kernel
theorem dX5_weighWithout_60 : decode cX5_weighWithout 60 = .ok (.i2l, 1) := by decide +kernel
theorem dX5_weighWithout_61 : decode cX5_weighWithout 61 = .ok (.lmul, 1) := by decide +kernel
theorem dX5_weighWithout_62 : decode cX5_weighWithout 62 = .ok (.lstore 4, 2) := by decide +kernel
theorem dX5_weighWithout_64 : decode cX5_weighWithout 64 = .ok (.iinc 6 1, 3) := by decide +kernel
theorem dX5_weighWithout_67 : decode cX5_weighWithout 67 = .ok (.goto (-43), 3) := by decide +kernel
theorem dX5_weighWithout_70 : decode cX5_weighWithout 70 = .ok (.aload_n 0, 1) := by decide +kernel
theorem dX5_weighWithout_71 : decode cX5_weighWithout 71 = .ok (.getfield 9, 3) := by decide +kernel
theorem dX5_weighWithout_74 : decode cX5_weighWithout 74 = .ok (.iload_n 3, 1) := by decide +kernel
theorem dX5_weighWithout_75 : decode cX5_weighWithout 75 = .ok (.lload 4, 2) := by decide +kernel
theorem dX5_weighWithout_77 : decode cX5_weighWithout 77 = .ok (.lastore, 1) := by decide +kernel
theorem dX5_weighWithout_78 : decode cX5_weighWithout 78 = .ok (.aload_n 0, 1) := by decide +kernel
theorem dX5_weighWithout_79 : decode cX5_weighWithout 79 = .ok (.dup, 1) := by decide +kernel
theorem dX5_weighWithout_80 : decode cX5_weighWithout 80 = .ok (.getfield 63, 3) := by decide +kernel
theorem dX5_weighWithout_83 : decode cX5_weighWithout 83 = .ok (.lload 4, 2) := by decide +kernel
theorem dX5_weighWithout_85 : decode cX5_weighWithout 85 = .ok (.ladd, 1) := by decide +kernel
theorem dX5_weighWithout_86 : decode cX5_weighWithout 86 = .ok (.putfield 63, 3) := by decide +kernel
theorem dX5_weighWithout_89 : decode cX5_weighWithout 89 = .ok (.iinc 3 1, 3) := by decide +kernel
theorem dX5_weighWithout_92 : decode cX5_weighWithout 92 = .ok (.goto (-85), 3) := by decide +kernel
theorem dX5_weighWithout_95 : decode cX5_weighWithout 95 = .ok (.return_, 1) := by decide +kernel
theorem dX5_greatest_0 : decode cX5_greatest 0 = .ok (.iconst 0, 1) := by decide +kernel
theorem dX5_greatest_1 : decode cX5_greatest 1 = .ok (.istore_n 1, 1) := by decide +kernel
theorem dX5_greatest_2 : decode cX5_greatest 2 = .ok (.iconst 1, 1) := by decide +kernel
theorem dX5_greatest_3 : decode cX5_greatest 3 = .ok (.istore_n 2, 1) := by decide +kernel
theorem dX5_greatest_4 : decode cX5_greatest 4 = .ok (.iload_n 2, 1) := by decide +kernel
theorem dX5_greatest_5 : decode cX5_greatest 5 = .ok (.iconst 4, 1) := by decide +kernel
theorem dX5_greatest_6 : decode cX5_greatest 6 = .ok (.if_icmp .ge 27, 3) := by decide +kernel
theorem dX5_greatest_9 : decode cX5_greatest 9 = .ok (.aload_n 0, 1) := by decide +kernel
theorem dX5_greatest_10 : decode cX5_greatest 10 = .ok (.getfield 9, 3) := by decide +kernel
theorem dX5_greatest_13 : decode cX5_greatest 13 = .ok (.iload_n 2, 1) := by decide +kernel
theorem dX5_greatest_14 : decode cX5_greatest 14 = .ok (.laload, 1) := by decide +kernel
theorem dX5_greatest_15 : decode cX5_greatest 15 = .ok (.aload_n 0, 1) := by decide +kernel
theorem dX5_greatest_16 : decode cX5_greatest 16 = .ok (.getfield 9, 3) := by decide +kernel
theorem dX5_greatest_19 : decode cX5_greatest 19 = .ok (.iload_n 1, 1) := by decide +kernel
theorem dX5_greatest_20 : decode cX5_greatest 20 = .ok (.laload, 1) := by decide +kernel
theorem dX5_greatest_21 : decode cX5_greatest 21 = .ok (.lcmp, 1) := by decide +kernel
theorem dX5_greatest_22 : decode cX5_greatest 22 = .ok (.ifCond .le 5, 3) := by decide +kernel
theorem dX5_greatest_25 : decode cX5_greatest 25 = .ok (.iload_n 2, 1) := by decide +kernel
theorem dX5_greatest_26 : decode cX5_greatest 26 = .ok (.istore_n 1, 1) := by decide +kernel
theorem dX5_greatest_27 : decode cX5_greatest 27 = .ok (.iinc 2 1, 3) := by decide +kernel
theorem dX5_greatest_30 : decode cX5_greatest 30 = .ok (.goto (-26), 3) := by decide +kernel
theorem dX5_greatest_33 : decode cX5_greatest 33 = .ok (.iload_n 1, 1) := by decide +kernel
theorem dX5_greatest_34 : decode cX5_greatest 34 = .ok (.ireturn, 1) := by decide +kernel
theorem dX5_bedThatMovesMost_0 : decode cX5_bedThatMovesMost 0 = .ok (.aload_n 0, 1) := by decide +kernel
theorem dX5_bedThatMovesMost_1 : decode cX5_bedThatMovesMost 1 = .ok (.invokevirtual 70, 3) := by decide +kernel
theorem dX5_bedThatMovesMost_4 : decode cX5_bedThatMovesMost 4 = .ok (.istore_n 2, 1) := by decide +kernel
theorem dX5_bedThatMovesMost_5 : decode cX5_bedThatMovesMost 5 = .ok (.aload_n 0, 1) := by decide +kernel
theorem dX5_bedThatMovesMost_6 : decode cX5_bedThatMovesMost 6 = .ok (.getfield 9, 3) := by decide +kernel
theorem dX5_bedThatMovesMost_9 : decode cX5_bedThatMovesMost 9 = .ok (.iload_n 2, 1) := by decide +kernel
theorem dX5_bedThatMovesMost_10 : decode cX5_bedThatMovesMost 10 = .ok (.laload, 1) := by decide +kernel
theorem dX5_bedThatMovesMost_11 : decode cX5_bedThatMovesMost 11 = .ok (.aload_n 0, 1) := by decide +kernel
theorem dX5_bedThatMovesMost_12 : decode cX5_bedThatMovesMost 12 = .ok (.getfield 63, 3) := by decide +kernel
theorem dX5_bedThatMovesMost_15 : decode cX5_bedThatMovesMost 15 = .ok (.invokestatic 74, 3) := by decide +kernel
theorem dX5_bedThatMovesMost_18 : decode cX5_bedThatMovesMost 18 = .ok (.istore_n 3, 1) := by decide +kernel
theorem dX5_bedThatMovesMost_19 : decode cX5_bedThatMovesMost 19 = .ok (.bipush (-9), 2) := by decide +kernel
theorem dX5_bedThatMovesMost_21 : decode cX5_bedThatMovesMost 21 = .ok (.istore 4, 2) := by decide +kernel
theorem dX5_bedThatMovesMost_23 : decode cX5_bedThatMovesMost 23 = .ok (.iconst (-1), 1) := by decide +kernel
theorem dX5_bedThatMovesMost_24 : decode cX5_bedThatMovesMost 24 = .ok (.istore 5, 2) := by decide +kernel
theorem dX5_bedThatMovesMost_26 : decode cX5_bedThatMovesMost 26 = .ok (.iconst 0, 1) := by decide +kernel
theorem dX5_bedThatMovesMost_27 : decode cX5_bedThatMovesMost 27 = .ok (.istore 6, 2) := by decide +kernel
theorem dX5_bedThatMovesMost_29 : decode cX5_bedThatMovesMost 29 = .ok (.iload 6, 2) := by decide +kernel
theorem dX5_bedThatMovesMost_31 : decode cX5_bedThatMovesMost 31 = .ok (.aload_n 1, 1) := by decide +kernel
theorem dX5_bedThatMovesMost_32 : decode cX5_bedThatMovesMost 32 = .ok (.getfield 46, 3) := by decide +kernel
theorem dX5_bedThatMovesMost_35 : decode cX5_bedThatMovesMost 35 = .ok (.if_icmp .ge 51, 3) := by decide +kernel
theorem dX5_bedThatMovesMost_38 : decode cX5_bedThatMovesMost 38 = .ok (.aload_n 0, 1) := by decide +kernel
theorem dX5_bedThatMovesMost_39 : decode cX5_bedThatMovesMost 39 = .ok (.aload_n 1, 1) := by decide +kernel
theorem dX5_bedThatMovesMost_40 : decode cX5_bedThatMovesMost 40 = .ok (.iload 6, 2) := by decide +kernel
theorem dX5_bedThatMovesMost_42 : decode cX5_bedThatMovesMost 42 = .ok (.invokevirtual 59, 3) := by decide +kernel
theorem dX5_bedThatMovesMost_45 : decode cX5_bedThatMovesMost 45 = .ok (.aload_n 0, 1) := by decide +kernel
theorem dX5_bedThatMovesMost_46 : decode cX5_bedThatMovesMost 46 = .ok (.getfield 9, 3) := by decide +kernel
theorem dX5_bedThatMovesMost_49 : decode cX5_bedThatMovesMost 49 = .ok (.iload_n 2, 1) := by decide +kernel
theorem dX5_bedThatMovesMost_50 : decode cX5_bedThatMovesMost 50 = .ok (.laload, 1) := by decide +kernel
theorem dX5_bedThatMovesMost_51 : decode cX5_bedThatMovesMost 51 = .ok (.aload_n 0, 1) := by decide +kernel
theorem dX5_bedThatMovesMost_52 : decode cX5_bedThatMovesMost 52 = .ok (.getfield 63, 3) := by decide +kernel
theorem dX5_bedThatMovesMost_55 : decode cX5_bedThatMovesMost 55 = .ok (.invokestatic 74, 3) := by decide +kernel
theorem dX5_bedThatMovesMost_58 : decode cX5_bedThatMovesMost 58 = .ok (.iload_n 3, 1) := by decide +kernel
theorem dX5_bedThatMovesMost_59 : decode cX5_bedThatMovesMost 59 = .ok (.isub, 1) := by decide +kernel
theorem dX5_bedThatMovesMost_60 : decode cX5_bedThatMovesMost 60 = .ok (.invokestatic 50, 3) := by decide +kernel
theorem dX5_bedThatMovesMost_63 : decode cX5_bedThatMovesMost 63 = .ok (.istore 7, 2) := by decide +kernel
theorem dX5_bedThatMovesMost_65 : decode cX5_bedThatMovesMost 65 = .ok (.iload 7, 2) := by decide +kernel
theorem dX5_bedThatMovesMost_67 : decode cX5_bedThatMovesMost 67 = .ok (.iload 5, 2) := by decide +kernel
theorem dX5_bedThatMovesMost_69 : decode cX5_bedThatMovesMost 69 = .ok (.if_icmp .le 11, 3) := by decide +kernel
theorem dX5_bedThatMovesMost_72 : decode cX5_bedThatMovesMost 72 = .ok (.iload 7, 2) := by decide +kernel
theorem dX5_bedThatMovesMost_74 : decode cX5_bedThatMovesMost 74 = .ok (.istore 5, 2) := by decide +kernel
theorem dX5_bedThatMovesMost_76 : decode cX5_bedThatMovesMost 76 = .ok (.iload 6, 2) := by decide +kernel
theorem dX5_bedThatMovesMost_78 : decode cX5_bedThatMovesMost 78 = .ok (.istore 4, 2) := by decide +kernel
theorem dX5_bedThatMovesMost_80 : decode cX5_bedThatMovesMost 80 = .ok (.iinc 6 1, 3) := by decide +kernel
theorem dX5_bedThatMovesMost_83 : decode cX5_bedThatMovesMost 83 = .ok (.goto (-54), 3) := by decide +kernel
theorem dX5_bedThatMovesMost_86 : decode cX5_bedThatMovesMost 86 = .ok (.iload 4, 2) := by decide +kernel
theorem dX5_bedThatMovesMost_88 : decode cX5_bedThatMovesMost 88 = .ok (.ireturn, 1) := by decide +kernel
theorem dX5_millionths_0 : decode cX5_millionths 0 = .ok (.lload_n 2, 1) := by decide +kernel
theorem dX5_millionths_1 : decode cX5_millionths 1 = .ok (.lconst 0, 1) := by decide +kernel
theorem dX5_millionths_2 : decode cX5_millionths 2 = .ok (.lcmp, 1) := by decide +kernel
theorem dX5_millionths_3 : decode cX5_millionths 3 = .ok (.ifCond .gt 5, 3) := by decide +kernel
theorem dX5_millionths_6 : decode cX5_millionths 6 = .ok (.iconst 0, 1) := by decide +kernel
theorem dX5_millionths_7 : decode cX5_millionths 7 = .ok (.ireturn, 1) := by decide +kernel
theorem dX5_millionths_8 : decode cX5_millionths 8 = .ok (.lload_n 0, 1) := by decide +kernel
theorem dX5_millionths_9 : decode cX5_millionths 9 = .ok (.lload_n 2, 1) := by decide +kernel
theorem dX5_millionths_10 : decode cX5_millionths 10 = .ok (.ldiv, 1) := by decide +kernel
theorem dX5_millionths_11 : decode cX5_millionths 11 = .ok (.l2i, 1) := by decide +kernel
theorem dX5_millionths_12 : decode cX5_millionths 12 = .ok (.istore 4, 2) := by decide +kernel
theorem dX5_millionths_14 : decode cX5_millionths 14 = .ok (.lload_n 0, 1) := by decide +kernel
theorem dX5_millionths_15 : decode cX5_millionths 15 = .ok (.lload_n 2, 1) := by decide +kernel
theorem dX5_millionths_16 : decode cX5_millionths 16 = .ok (.lrem, 1) := by decide +kernel
theorem dX5_millionths_17 : decode cX5_millionths 17 = .ok (.lstore 5, 2) := by decide +kernel
theorem dX5_millionths_19 : decode cX5_millionths 19 = .ok (.iconst 0, 1) := by decide +kernel
theorem dX5_millionths_20 : decode cX5_millionths 20 = .ok (.istore 7, 2) := by decide +kernel
theorem dX5_millionths_22 : decode cX5_millionths 22 = .ok (.iload 7, 2) := by decide +kernel
theorem dX5_millionths_24 : decode cX5_millionths 24 = .ok (.bipush 6, 2) := by decide +kernel
theorem dX5_millionths_26 : decode cX5_millionths 26 = .ok (.if_icmp .ge 36, 3) := by decide +kernel
theorem dX5_millionths_29 : decode cX5_millionths 29 = .ok (.lload 5, 2) := by decide +kernel
theorem dX5_millionths_31 : decode cX5_millionths 31 = .ok (.ldc2_w 78, 3) := by decide +kernel
theorem dX5_millionths_34 : decode cX5_millionths 34 = .ok (.lmul, 1) := by decide +kernel
theorem dX5_millionths_35 : decode cX5_millionths 35 = .ok (.lstore 5, 2) := by decide +kernel
theorem dX5_millionths_37 : decode cX5_millionths 37 = .ok (.bipush 10, 2) := by decide +kernel
theorem dX5_millionths_39 : decode cX5_millionths 39 = .ok (.iload 4, 2) := by decide +kernel
theorem dX5_millionths_41 : decode cX5_millionths 41 = .ok (.imul, 1) := by decide +kernel
theorem dX5_millionths_42 : decode cX5_millionths 42 = .ok (.lload 5, 2) := by decide +kernel
theorem dX5_millionths_44 : decode cX5_millionths 44 = .ok (.lload_n 2, 1) := by decide +kernel
theorem dX5_millionths_45 : decode cX5_millionths 45 = .ok (.ldiv, 1) := by decide +kernel
theorem dX5_millionths_46 : decode cX5_millionths 46 = .ok (.l2i, 1) := by decide +kernel
theorem dX5_millionths_47 : decode cX5_millionths 47 = .ok (.iadd, 1) := by decide +kernel
theorem dX5_millionths_48 : decode cX5_millionths 48 = .ok (.istore 4, 2) := by decide +kernel
theorem dX5_millionths_50 : decode cX5_millionths 50 = .ok (.lload 5, 2) := by decide +kernel
theorem dX5_millionths_52 : decode cX5_millionths 52 = .ok (.lload_n 2, 1) := by decide +kernel
theorem dX5_millionths_53 : decode cX5_millionths 53 = .ok (.lrem, 1) := by decide +kernel
theorem dX5_millionths_54 : decode cX5_millionths 54 = .ok (.lstore 5, 2) := by decide +kernel
theorem dX5_millionths_56 : decode cX5_millionths 56 = .ok (.iinc 7 1, 3) := by decide +kernel
theorem dX5_millionths_59 : decode cX5_millionths 59 = .ok (.goto (-37), 3) := by decide +kernel
theorem dX5_millionths_62 : decode cX5_millionths 62 = .ok (.iload 4, 2) := by decide +kernel
theorem dX5_millionths_64 : decode cX5_millionths 64 = .ok (.ireturn, 1) := by decide +kernel
theorem dX5_whereToGo_0 : decode cX5_whereToGo 0 = .ok (.iconst 0, 1) := by decide +kernel
theorem dX5_whereToGo_1 : decode cX5_whereToGo 1 = .ok (.istore_n 2, 1) := by decide +kernel
theorem dX5_whereToGo_2 : decode cX5_whereToGo 2 = .ok (.aload_n 0, 1) := by decide +kernel
theorem dX5_whereToGo_3 : decode cX5_whereToGo 3 = .ok (.getfield 63, 3) := by decide +kernel
theorem dX5_whereToGo_6 : decode cX5_whereToGo 6 = .ok (.lconst 1, 1) := by decide +kernel
theorem dX5_whereToGo_7 : decode cX5_whereToGo 7 = .ok (.ladd, 1) := by decide +kernel
theorem dX5_whereToGo_8 : decode cX5_whereToGo 8 = .ok (.lstore_n 3, 1) := by decide +kernel
theorem dX5_whereToGo_9 : decode cX5_whereToGo 9 = .ok (.iconst 0, 1) := by decide +kernel
theorem dX5_whereToGo_10 : decode cX5_whereToGo 10 = .ok (.istore 5, 2) := by decide +kernel
theorem dX5_whereToGo_12 : decode cX5_whereToGo 12 = .ok (.iload 5, 2) := by decide +kernel
theorem dX5_whereToGo_14 : decode cX5_whereToGo 14 = .ok (.bipush 6, 2) := by decide +kernel
theorem dX5_whereToGo_16 : decode cX5_whereToGo 16 = .ok (.if_icmp .ge 70, 3) := by decide +kernel
theorem dX5_whereToGo_19 : decode cX5_whereToGo 19 = .ok (.iconst 0, 1) := by decide +kernel
theorem dX5_whereToGo_20 : decode cX5_whereToGo 20 = .ok (.istore 6, 2) := by decide +kernel
theorem dX5_whereToGo_22 : decode cX5_whereToGo 22 = .ok (.iload 6, 2) := by decide +kernel
theorem dX5_whereToGo_24 : decode cX5_whereToGo 24 = .ok (.bipush 10, 2) := by decide +kernel
theorem dX5_whereToGo_26 : decode cX5_whereToGo 26 = .ok (.if_icmp .ge 54, 3) := by decide +kernel
theorem dX5_whereToGo_29 : decode cX5_whereToGo 29 = .ok (.ldc2_w 80, 3) := by decide +kernel
theorem dX5_whereToGo_32 : decode cX5_whereToGo 32 = .ok (.aload_n 0, 1) := by decide +kernel
theorem dX5_whereToGo_33 : decode cX5_whereToGo 33 = .ok (.aload_n 1, 1) := by decide +kernel
theorem dX5_whereToGo_34 : decode cX5_whereToGo 34 = .ok (.iload 5, 2) := by decide +kernel
theorem dX5_whereToGo_36 : decode cX5_whereToGo 36 = .ok (.bipush 10, 2) := by decide +kernel
theorem dX5_whereToGo_38 : decode cX5_whereToGo 38 = .ok (.iload 6, 2) := by decide +kernel
theorem dX5_whereToGo_40 : decode cX5_whereToGo 40 = .ok (.imul, 1) := by decide +kernel
theorem dX5_whereToGo_41 : decode cX5_whereToGo 41 = .ok (.invokevirtual 82, 3) := by decide +kernel
theorem dX5_whereToGo_44 : decode cX5_whereToGo 44 = .ok (.lmul, 1) := by decide +kernel
theorem dX5_whereToGo_45 : decode cX5_whereToGo 45 = .ok (.aload_n 0, 1) := by decide +kernel
theorem dX5_whereToGo_46 : decode cX5_whereToGo 46 = .ok (.getfield 63, 3) := by decide +kernel
theorem dX5_whereToGo_49 : decode cX5_whereToGo 49 = .ok (.lsub, 1) := by decide +kernel
theorem dX5_whereToGo_50 : decode cX5_whereToGo 50 = .ok (.invokestatic 86, 3) := by decide +kernel
theorem dX5_whereToGo_53 : decode cX5_whereToGo 53 = .ok (.lstore 7, 2) := by decide +kernel
theorem dX5_whereToGo_55 : decode cX5_whereToGo 55 = .ok (.lload 7, 2) := by decide +kernel
theorem dX5_whereToGo_57 : decode cX5_whereToGo 57 = .ok (.lload_n 3, 1) := by decide +kernel
theorem dX5_whereToGo_58 : decode cX5_whereToGo 58 = .ok (.lcmp, 1) := by decide +kernel
theorem dX5_whereToGo_59 : decode cX5_whereToGo 59 = .ok (.ifCond .ge 15, 3) := by decide +kernel
theorem dX5_whereToGo_62 : decode cX5_whereToGo 62 = .ok (.lload 7, 2) := by decide +kernel
theorem dX5_whereToGo_64 : decode cX5_whereToGo 64 = .ok (.lstore_n 3, 1) := by decide +kernel
theorem dX5_whereToGo_65 : decode cX5_whereToGo 65 = .ok (.bipush 10, 2) := by decide +kernel
theorem dX5_whereToGo_67 : decode cX5_whereToGo 67 = .ok (.iload 5, 2) := by decide +kernel
theorem dX5_whereToGo_69 : decode cX5_whereToGo 69 = .ok (.imul, 1) := by decide +kernel
theorem dX5_whereToGo_70 : decode cX5_whereToGo 70 = .ok (.iload 6, 2) := by decide +kernel
theorem dX5_whereToGo_72 : decode cX5_whereToGo 72 = .ok (.iadd, 1) := by decide +kernel
theorem dX5_whereToGo_73 : decode cX5_whereToGo 73 = .ok (.istore_n 2, 1) := by decide +kernel
theorem dX5_whereToGo_74 : decode cX5_whereToGo 74 = .ok (.iinc 6 1, 3) := by decide +kernel
theorem dX5_whereToGo_77 : decode cX5_whereToGo 77 = .ok (.goto (-55), 3) := by decide +kernel
theorem dX5_whereToGo_80 : decode cX5_whereToGo 80 = .ok (.iinc 5 1, 3) := by decide +kernel
theorem dX5_whereToGo_83 : decode cX5_whereToGo 83 = .ok (.goto (-71), 3) := by decide +kernel
theorem dX5_whereToGo_86 : decode cX5_whereToGo 86 = .ok (.iload_n 2, 1) := by decide +kernel
theorem dX5_whereToGo_87 : decode cX5_whereToGo 87 = .ok (.ireturn, 1) := by decide +kernel
theorem dX5_shareWithIce_0 : decode cX5_shareWithIce 0 = .ok (.lconst 0, 1) := by decide +kernel
theorem dX5_shareWithIce_1 : decode cX5_shareWithIce 1 = .ok (.lstore 4, 2) := by decide +kernel
theorem dX5_shareWithIce_3 : decode cX5_shareWithIce 3 = .ok (.iconst 0, 1) := by decide +kernel
theorem dX5_shareWithIce_4 : decode cX5_shareWithIce 4 = .ok (.istore 6, 2) := by decide +kernel
theorem dX5_shareWithIce_6 : decode cX5_shareWithIce 6 = .ok (.iload 6, 2) := by decide +kernel
theorem dX5_shareWithIce_8 : decode cX5_shareWithIce 8 = .ok (.iconst 4, 1) := by decide +kernel
theorem dX5_shareWithIce_9 : decode cX5_shareWithIce 9 = .ok (.if_icmp .ge 35, 3) := by decide +kernel
theorem dX5_shareWithIce_12 : decode cX5_shareWithIce 12 = .ok (.aload_n 1, 1) := by decide +kernel
theorem dX5_shareWithIce_13 : decode cX5_shareWithIce 13 = .ok (.iload 6, 2) := by decide +kernel
theorem dX5_shareWithIce_15 : decode cX5_shareWithIce 15 = .ok (.iload_n 3, 1) := by decide +kernel
theorem dX5_shareWithIce_16 : decode cX5_shareWithIce 16 = .ok (.invokevirtual 89, 3) := by decide +kernel
theorem dX5_shareWithIce_19 : decode cX5_shareWithIce 19 = .ok (.iload_n 2, 1) := by decide +kernel
theorem dX5_shareWithIce_20 : decode cX5_shareWithIce 20 = .ok (.invokestatic 35, 3) := by decide +kernel
theorem dX5_shareWithIce_23 : decode cX5_shareWithIce 23 = .ok (.ifCond .eq 15, 3) := by decide +kernel
theorem dX5_shareWithIce_26 : decode cX5_shareWithIce 26 = .ok (.lload 4, 2) := by decide +kernel
theorem dX5_shareWithIce_28 : decode cX5_shareWithIce 28 = .ok (.aload_n 0, 1) := by decide +kernel
theorem dX5_shareWithIce_29 : decode cX5_shareWithIce 29 = .ok (.getfield 9, 3) := by decide +kernel
theorem dX5_shareWithIce_32 : decode cX5_shareWithIce 32 = .ok (.iload 6, 2) := by decide +kernel
theorem dX5_shareWithIce_34 : decode cX5_shareWithIce 34 = .ok (.laload, 1) := by decide +kernel
theorem dX5_shareWithIce_35 : decode cX5_shareWithIce 35 = .ok (.ladd, 1) := by decide +kernel
theorem dX5_shareWithIce_36 : decode cX5_shareWithIce 36 = .ok (.lstore 4, 2) := by decide +kernel
theorem dX5_shareWithIce_38 : decode cX5_shareWithIce 38 = .ok (.iinc 6 1, 3) := by decide +kernel
theorem dX5_shareWithIce_41 : decode cX5_shareWithIce 41 = .ok (.goto (-35), 3) := by decide +kernel
theorem dX5_shareWithIce_44 : decode cX5_shareWithIce 44 = .ok (.lload 4, 2) := by decide +kernel
theorem dX5_shareWithIce_46 : decode cX5_shareWithIce 46 = .ok (.lreturn, 1) := by decide +kernel
theorem dX6_init_0 : decode cX6_init 0 = .ok (.aload_n 0, 1) := by decide +kernel
theorem dX6_init_1 : decode cX6_init 1 = .ok (.invokespecial 3, 3) := by decide +kernel
theorem dX6_init_4 : decode cX6_init 4 = .ok (.aload_n 0, 1) := by decide +kernel
theorem dX6_init_5 : decode cX6_init 5 = .ok (.bipush 12, 2) := by decide +kernel
theorem dX6_init_7 : decode cX6_init 7 = .ok (.newarray .int, 2) := by decide +kernel
theorem dX6_init_9 : decode cX6_init 9 = .ok (.putfield 11, 3) := by decide +kernel
theorem dX6_init_12 : decode cX6_init 12 = .ok (.return_, 1) := by decide +kernel
theorem dX6_faultOf_0 : decode cX6_faultOf 0 = .ok (.aload_n 0, 1) := by decide +kernel
theorem dX6_faultOf_1 : decode cX6_faultOf 1 = .ok (.invokevirtual 17, 3) := by decide +kernel
theorem dX6_faultOf_4 : decode cX6_faultOf 4 = .ok (.iconst 0, 1) := by decide +kernel
theorem dX6_faultOf_5 : decode cX6_faultOf 5 = .ok (.istore_n 2, 1) := by decide +kernel
theorem dX6_faultOf_6 : decode cX6_faultOf 6 = .ok (.iload_n 2, 1) := by decide +kernel
theorem dX6_faultOf_7 : decode cX6_faultOf 7 = .ok (.aload_n 1, 1) := by decide +kernel
theorem dX6_faultOf_8 : decode cX6_faultOf 8 = .ok (.getfield 20, 3) := by decide +kernel
theorem dX6_faultOf_11 : decode cX6_faultOf 11 = .ok (.if_icmp .ge 30, 3) := by decide +kernel
theorem dX6_faultOf_14 : decode cX6_faultOf 14 = .ok (.iload_n 2, 1) := by decide +kernel
theorem dX6_faultOf_15 : decode cX6_faultOf 15 = .ok (.bipush 48, 2) := by decide +kernel
theorem dX6_faultOf_17 : decode cX6_faultOf 17 = .ok (.if_icmp .ge 24, 3) := by decide +kernel
theorem dX6_faultOf_20 : decode cX6_faultOf 20 = .ok (.aload_n 0, 1) := by decide +kernel
theorem dX6_faultOf_21 : decode cX6_faultOf 21 = .ok (.aload_n 1, 1) := by decide +kernel
theorem dX6_faultOf_22 : decode cX6_faultOf 22 = .ok (.getfield 26, 3) := by decide +kernel
theorem dX6_faultOf_25 : decode cX6_faultOf 25 = .ok (.iload_n 2, 1) := by decide +kernel
theorem dX6_faultOf_26 : decode cX6_faultOf 26 = .ok (.iaload, 1) := by decide +kernel
theorem dX6_faultOf_27 : decode cX6_faultOf 27 = .ok (.invokevirtual 29, 3) := by decide +kernel
theorem dX6_faultOf_30 : decode cX6_faultOf 30 = .ok (.ifCond .ne 5, 3) := by decide +kernel
theorem dX6_faultOf_33 : decode cX6_faultOf 33 = .ok (.iload_n 2, 1) := by decide +kernel
theorem dX6_faultOf_34 : decode cX6_faultOf 34 = .ok (.ireturn, 1) := by decide +kernel
theorem dX6_faultOf_35 : decode cX6_faultOf 35 = .ok (.iinc 2 1, 3) := by decide +kernel
theorem dX6_faultOf_38 : decode cX6_faultOf 38 = .ok (.goto (-32), 3) := by decide +kernel
theorem dX6_faultOf_41 : decode cX6_faultOf 41 = .ok (.aload_n 0, 1) := by decide +kernel
theorem dX6_faultOf_42 : decode cX6_faultOf 42 = .ok (.getfield 33, 3) := by decide +kernel
theorem dX6_faultOf_45 : decode cX6_faultOf 45 = .ok (.ifCond .gt 10, 3) := by decide +kernel
theorem dX6_faultOf_48 : decode cX6_faultOf 48 = .ok (.aload_n 0, 1) := by decide +kernel
theorem dX6_faultOf_49 : decode cX6_faultOf 49 = .ok (.getfield 36, 3) := by decide +kernel
theorem dX6_faultOf_52 : decode cX6_faultOf 52 = .ok (.ifCond .eq 10, 3) := by decide +kernel
theorem dX6_faultOf_55 : decode cX6_faultOf 55 = .ok (.aload_n 1, 1) := by decide +kernel
theorem dX6_faultOf_56 : decode cX6_faultOf 56 = .ok (.getfield 20, 3) := by decide +kernel
theorem dX6_faultOf_59 : decode cX6_faultOf 59 = .ok (.goto 5, 3) := by decide +kernel
theorem dX6_faultOf_62 : decode cX6_faultOf 62 = .ok (.bipush (-9), 2) := by decide +kernel
theorem dX6_faultOf_64 : decode cX6_faultOf 64 = .ok (.ireturn, 1) := by decide +kernel
theorem dX6_giveTo_0 : decode cX6_giveTo 0 = .ok (.iconst 0, 1) := by decide +kernel
theorem dX6_giveTo_1 : decode cX6_giveTo 1 = .ok (.istore_n 2, 1) := by decide +kernel
theorem dX6_giveTo_2 : decode cX6_giveTo 2 = .ok (.iload_n 2, 1) := by decide +kernel
theorem dX6_giveTo_3 : decode cX6_giveTo 3 = .ok (.bipush 12, 2) := by decide +kernel
theorem dX6_giveTo_5 : decode cX6_giveTo 5 = .ok (.if_icmp .ge 25, 3) := by decide +kernel
theorem dX6_giveTo_8 : decode cX6_giveTo 8 = .ok (.aload_n 1, 1) := by decide +kernel
theorem dX6_giveTo_9 : decode cX6_giveTo 9 = .ok (.getfield 40, 3) := by decide +kernel
theorem dX6_giveTo_12 : decode cX6_giveTo 12 = .ok (.iload_n 2, 1) := by decide +kernel
theorem dX6_giveTo_13 : decode cX6_giveTo 13 = .ok (.aload_n 0, 1) := by decide +kernel
theorem dX6_giveTo_14 : decode cX6_giveTo 14 = .ok (.getfield 11, 3) := by decide +kernel
theorem dX6_giveTo_17 : decode cX6_giveTo 17 = .ok (.iload_n 2, 1) := by decide +kernel
theorem dX6_giveTo_18 : decode cX6_giveTo 18 = .ok (.iaload, 1) := by decide +kernel
theorem dX6_giveTo_19 : decode cX6_giveTo 19 = .ok (.iconst 0, 1) := by decide +kernel
theorem dX6_giveTo_20 : decode cX6_giveTo 20 = .ok (.invokestatic 43, 3) := by decide +kernel
theorem dX6_giveTo_23 : decode cX6_giveTo 23 = .ok (.iastore, 1) := by decide +kernel
theorem dX6_giveTo_24 : decode cX6_giveTo 24 = .ok (.iinc 2 1, 3) := by decide +kernel
theorem dX6_giveTo_27 : decode cX6_giveTo 27 = .ok (.goto (-25), 3) := by decide +kernel
theorem dX6_giveTo_30 : decode cX6_giveTo 30 = .ok (.return_, 1) := by decide +kernel
theorem dX6_begin_0 : decode cX6_begin 0 = .ok (.iconst 0, 1) := by decide +kernel
theorem dX6_begin_1 : decode cX6_begin 1 = .ok (.istore_n 1, 1) := by decide +kernel
theorem dX6_begin_2 : decode cX6_begin 2 = .ok (.iload_n 1, 1) := by decide +kernel
theorem dX6_begin_3 : decode cX6_begin 3 = .ok (.bipush 12, 2) := by decide +kernel
theorem dX6_begin_5 : decode cX6_begin 5 = .ok (.if_icmp .ge 16, 3) := by decide +kernel
theorem dX6_begin_8 : decode cX6_begin 8 = .ok (.aload_n 0, 1) := by decide +kernel
theorem dX6_begin_9 : decode cX6_begin 9 = .ok (.getfield 11, 3) := by decide +kernel
theorem dX6_begin_12 : decode cX6_begin 12 = .ok (.iload_n 1, 1) := by decide +kernel
theorem dX6_begin_13 : decode cX6_begin 13 = .ok (.iconst (-1), 1) := by decide +kernel
theorem dX6_begin_14 : decode cX6_begin 14 = .ok (.iastore, 1) := by decide +kernel
theorem dX6_begin_15 : decode cX6_begin 15 = .ok (.iinc 1 1, 3) := by decide +kernel
theorem dX6_begin_18 : decode cX6_begin 18 = .ok (.goto (-16), 3) := by decide +kernel
theorem dX6_begin_21 : decode cX6_begin 21 = .ok (.aload_n 0, 1) := by decide +kernel
theorem dX6_begin_22 : decode cX6_begin 22 = .ok (.iconst 0, 1) := by decide +kernel
theorem dX6_begin_23 : decode cX6_begin 23 = .ok (.putfield 49, 3) := by decide +kernel
theorem dX6_begin_26 : decode cX6_begin 26 = .ok (.aload_n 0, 1) := by decide +kernel
theorem dX6_begin_27 : decode cX6_begin 27 = .ok (.iconst 0, 1) := by decide +kernel
theorem dX6_begin_28 : decode cX6_begin 28 = .ok (.putfield 33, 3) := by decide +kernel
theorem dX6_begin_31 : decode cX6_begin 31 = .ok (.aload_n 0, 1) := by decide +kernel
theorem dX6_begin_32 : decode cX6_begin 32 = .ok (.iconst 0, 1) := by decide +kernel
theorem dX6_begin_33 : decode cX6_begin 33 = .ok (.putfield 52, 3) := by decide +kernel
theorem dX6_begin_36 : decode cX6_begin 36 = .ok (.aload_n 0, 1) := by decide +kernel
theorem dX6_begin_37 : decode cX6_begin 37 = .ok (.iconst 0, 1) := by decide +kernel
theorem dX6_begin_38 : decode cX6_begin 38 = .ok (.putfield 36, 3) := by decide +kernel
theorem dX6_begin_41 : decode cX6_begin 41 = .ok (.return_, 1) := by decide +kernel
theorem dX6_takes_0 : decode cX6_takes 0 = .ok (.aload_n 0, 1) := by decide +kernel
theorem dX6_takes_1 : decode cX6_takes 1 = .ok (.getfield 33, 3) := by decide +kernel
theorem dX6_takes_4 : decode cX6_takes 4 = .ok (.ifCond .le 9, 3) := by decide +kernel
theorem dX6_takes_7 : decode cX6_takes 7 = .ok (.aload_n 0, 1) := by decide +kernel
theorem dX6_takes_8 : decode cX6_takes 8 = .ok (.iload_n 1, 1) := by decide +kernel
theorem dX6_takes_9 : decode cX6_takes 9 = .ok (.invokevirtual 55, 3) := by decide +kernel
theorem dX6_takes_12 : decode cX6_takes 12 = .ok (.ireturn, 1) := by decide +kernel
theorem dX6_takes_13 : decode cX6_takes 13 = .ok (.aload_n 0, 1) := by decide +kernel
theorem dX6_takes_14 : decode cX6_takes 14 = .ok (.getfield 36, 3) := by decide +kernel
theorem dX6_takes_17 : decode cX6_takes 17 = .ok (.ifCond .eq 9, 3) := by decide +kernel
theorem dX6_takes_20 : decode cX6_takes 20 = .ok (.aload_n 0, 1) := by decide +kernel
theorem dX6_takes_21 : decode cX6_takes 21 = .ok (.iload_n 1, 1) := by decide +kernel
theorem dX6_takes_22 : decode cX6_takes 22 = .ok (.invokevirtual 58, 3) := by decide +kernel
theorem dX6_takes_25 : decode cX6_takes 25 = .ok (.ireturn, 1) := by decide +kernel
theorem dX6_takes_26 : decode cX6_takes 26 = .ok (.aload_n 0, 1) := by decide +kernel
theorem dX6_takes_27 : decode cX6_takes 27 = .ok (.iload_n 1, 1) := by decide +kernel
theorem dX6_takes_28 : decode cX6_takes 28 = .ok (.invokevirtual 61, 3) := by decide +kernel
theorem dX6_takes_31 : decode cX6_takes 31 = .ok (.ireturn, 1) := by decide +kernel
theorem dX6_takesKind_0 : decode cX6_takesKind 0 = .ok (.iload_n 1, 1) := by decide +kernel
theorem dX6_takesKind_1 : decode cX6_takesKind 1 = .ok (.bipush 76, 2) := by decide +kernel
theorem dX6_takesKind_3 : decode cX6_takesKind 3 = .ok (.if_icmp .ne 16, 3) := by decide +kernel
theorem dX6_takesKind_6 : decode cX6_takesKind 6 = .ok (.aload_n 0, 1) := by decide +kernel
theorem dX6_takesKind_7 : decode cX6_takesKind 7 = .ok (.aload_n 0, 1) := by decide +kernel
theorem dX6_takesKind_8 : decode cX6_takesKind 8 = .ok (.invokevirtual 64, 3) := by decide +kernel
theorem dX6_takesKind_11 : decode cX6_takesKind 11 = .ok (.putfield 36, 3) := by decide +kernel
theorem dX6_takesKind_14 : decode cX6_takesKind 14 = .ok (.aload_n 0, 1) := by decide +kernel
theorem dX6_takesKind_15 : decode cX6_takesKind 15 = .ok (.getfield 36, 3) := by decide +kernel
theorem dX6_takesKind_18 : decode cX6_takesKind 18 = .ok (.ireturn, 1) := by decide +kernel
theorem dX6_takesKind_19 : decode cX6_takesKind 19 = .ok (.ldc 68, 2) := by decide +kernel
theorem dX6_takesKind_21 : decode cX6_takesKind 21 = .ok (.iload_n 1, 1) := by decide +kernel
theorem dX6_takesKind_22 : decode cX6_takesKind 22 = .ok (.i2c, 1) := by decide +kernel
theorem dX6_takesKind_23 : decode cX6_takesKind 23 = .ok (.invokevirtual 70, 3) := by decide +kernel
theorem dX6_takesKind_26 : decode cX6_takesKind 26 = .ok (.istore_n 2, 1) := by decide +kernel
theorem dX6_takesKind_27 : decode cX6_takesKind 27 = .ok (.iload_n 2, 1) := by decide +kernel
theorem dX6_takesKind_28 : decode cX6_takesKind 28 = .ok (.ifCond .lt 18, 3) := by decide +kernel
theorem dX6_takesKind_31 : decode cX6_takesKind 31 = .ok (.aload_n 0, 1) := by decide +kernel
theorem dX6_takesKind_32 : decode cX6_takesKind 32 = .ok (.bipush 6, 2) := by decide +kernel
theorem dX6_takesKind_34 : decode cX6_takesKind 34 = .ok (.iload_n 2, 1) := by decide +kernel
theorem dX6_takesKind_35 : decode cX6_takesKind 35 = .ok (.iadd, 1) := by decide +kernel
theorem dX6_takesKind_36 : decode cX6_takesKind 36 = .ok (.invokevirtual 76, 3) := by decide +kernel
theorem dX6_takesKind_39 : decode cX6_takesKind 39 = .ok (.ifCond .eq 7, 3) := by decide +kernel
theorem dX6_takesKind_42 : decode cX6_takesKind 42 = .ok (.iconst 1, 1) := by decide +kernel
theorem dX6_takesKind_43 : decode cX6_takesKind 43 = .ok (.goto 4, 3) := by decide +kernel
theorem dX6_takesKind_46 : decode cX6_takesKind 46 = .ok (.iconst 0, 1) := by decide +kernel
theorem dX6_takesKind_47 : decode cX6_takesKind 47 = .ok (.ireturn, 1) := by decide +kernel
theorem dX6_takesBand_0 : decode cX6_takesBand 0 = .ok (.aload_n 0, 1) := by decide +kernel
theorem dX6_takesBand_1 : decode cX6_takesBand 1 = .ok (.iconst 0, 1) := by decide +kernel
theorem dX6_takesBand_2 : decode cX6_takesBand 2 = .ok (.putfield 36, 3) := by decide +kernel
theorem dX6_takesBand_5 : decode cX6_takesBand 5 = .ok (.iload_n 1, 1) := by decide +kernel
theorem dX6_takesBand_6 : decode cX6_takesBand 6 = .ok (.invokestatic 79, 3) := by decide +kernel
theorem dX6_takesBand_9 : decode cX6_takesBand 9 = .ok (.istore_n 2, 1) := by decide +kernel
theorem dX6_takesBand_10 : decode cX6_takesBand 10 = .ok (.iload_n 2, 1) := by decide +kernel
theorem dX6_takesBand_11 : decode cX6_takesBand 11 = .ok (.invokestatic 82, 3) := by decide +kernel
theorem dX6_takesBand_14 : decode cX6_takesBand 14 = .ok (.ifCond .eq 15, 3) := by decide +kernel
theorem dX6_takesBand_17 : decode cX6_takesBand 17 = .ok (.aload_n 0, 1) := by decide +kernel
theorem dX6_takesBand_18 : decode cX6_takesBand 18 = .ok (.iload_n 2, 1) := by decide +kernel
theorem dX6_takesBand_19 : decode cX6_takesBand 19 = .ok (.invokevirtual 76, 3) := by decide +kernel
theorem dX6_takesBand_22 : decode cX6_takesBand 22 = .ok (.ifCond .eq 7, 3) := by decide +kernel
theorem dX6_takesBand_25 : decode cX6_takesBand 25 = .ok (.iconst 1, 1) := by decide +kernel
theorem dX6_takesBand_26 : decode cX6_takesBand 26 = .ok (.goto 4, 3) := by decide +kernel
theorem dX6_takesBand_29 : decode cX6_takesBand 29 = .ok (.iconst 0, 1) := by decide +kernel
theorem dX6_takesBand_30 : decode cX6_takesBand 30 = .ok (.ireturn, 1) := by decide +kernel
theorem dX6_takesFigure_0 : decode cX6_takesFigure 0 = .ok (.iload_n 1, 1) := by decide +kernel
theorem dX6_takesFigure_1 : decode cX6_takesFigure 1 = .ok (.invokestatic 79, 3) := by decide +kernel
theorem dX6_takesFigure_4 : decode cX6_takesFigure 4 = .ok (.istore_n 2, 1) := by decide +kernel
theorem dX6_takesFigure_5 : decode cX6_takesFigure 5 = .ok (.iload_n 2, 1) := by decide +kernel
theorem dX6_takesFigure_6 : decode cX6_takesFigure 6 = .ok (.bipush (-9), 2) := by decide +kernel
theorem dX6_takesFigure_8 : decode cX6_takesFigure 8 = .ok (.if_icmp .eq 16, 3) := by decide +kernel
theorem dX6_takesFigure_11 : decode cX6_takesFigure 11 = .ok (.aload_n 0, 1) := by decide +kernel
theorem dX6_takesFigure_12 : decode cX6_takesFigure 12 = .ok (.getfield 52, 3) := by decide +kernel
theorem dX6_takesFigure_15 : decode cX6_takesFigure 15 = .ok (.iconst 0, 1) := by decide +kernel
theorem dX6_takesFigure_16 : decode cX6_takesFigure 16 = .ok (.bipush 11, 2) := by decide +kernel
theorem dX6_takesFigure_18 : decode cX6_takesFigure 18 = .ok (.invokestatic 85, 3) := by decide +kernel
theorem dX6_takesFigure_21 : decode cX6_takesFigure 21 = .ok (.ifCond .ne 5, 3) := by decide +kernel
theorem dX6_takesFigure_24 : decode cX6_takesFigure 24 = .ok (.iconst 0, 1) := by decide +kernel
theorem dX6_takesFigure_25 : decode cX6_takesFigure 25 = .ok (.ireturn, 1) := by decide +kernel
theorem dX6_takesFigure_26 : decode cX6_takesFigure 26 = .ok (.aload_n 0, 1) := by decide +kernel
theorem dX6_takesFigure_27 : decode cX6_takesFigure 27 = .ok (.getfield 11, 3) := by decide +kernel
theorem dX6_takesFigure_30 : decode cX6_takesFigure 30 = .ok (.aload_n 0, 1) := by decide +kernel
theorem dX6_takesFigure_31 : decode cX6_takesFigure 31 = .ok (.getfield 52, 3) := by decide +kernel
theorem dX6_takesFigure_34 : decode cX6_takesFigure 34 = .ok (.bipush 10, 2) := by decide +kernel
theorem dX6_takesFigure_36 : decode cX6_takesFigure 36 = .ok (.aload_n 0, 1) := by decide +kernel
theorem dX6_takesFigure_37 : decode cX6_takesFigure 37 = .ok (.getfield 11, 3) := by decide +kernel
theorem dX6_takesFigure_40 : decode cX6_takesFigure 40 = .ok (.aload_n 0, 1) := by decide +kernel
theorem dX6_takesFigure_41 : decode cX6_takesFigure 41 = .ok (.getfield 52, 3) := by decide +kernel
theorem dX6_takesFigure_44 : decode cX6_takesFigure 44 = .ok (.iaload, 1) := by decide +kernel
theorem dX6_takesFigure_45 : decode cX6_takesFigure 45 = .ok (.imul, 1) := by decide +kernel
theorem dX6_takesFigure_46 : decode cX6_takesFigure 46 = .ok (.iload_n 2, 1) := by decide +kernel
theorem dX6_takesFigure_47 : decode cX6_takesFigure 47 = .ok (.iadd, 1) := by decide +kernel
theorem dX6_takesFigure_48 : decode cX6_takesFigure 48 = .ok (.iastore, 1) := by decide +kernel
theorem dX6_takesFigure_49 : decode cX6_takesFigure 49 = .ok (.aload_n 0, 1) := by decide +kernel
theorem dX6_takesFigure_50 : decode cX6_takesFigure 50 = .ok (.dup, 1) := by decide +kernel
theorem dX6_takesFigure_51 : decode cX6_takesFigure 51 = .ok (.getfield 33, 3) := by decide +kernel
theorem dX6_takesFigure_54 : decode cX6_takesFigure 54 = .ok (.iconst 1, 1) := by decide +kernel
theorem dX6_takesFigure_55 : decode cX6_takesFigure 55 = .ok (.isub, 1) := by decide +kernel
theorem dX6_takesFigure_56 : decode cX6_takesFigure 56 = .ok (.putfield 33, 3) := by decide +kernel
theorem dX6_takesFigure_59 : decode cX6_takesFigure 59 = .ok (.aload_n 0, 1) := by decide +kernel
theorem dX6_takesFigure_60 : decode cX6_takesFigure 60 = .ok (.getfield 33, 3) := by decide +kernel
theorem dX6_takesFigure_63 : decode cX6_takesFigure 63 = .ok (.ifCond .ne 13, 3) := by decide +kernel
theorem dX6_takesFigure_66 : decode cX6_takesFigure 66 = .ok (.aload_n 0, 1) := by decide +kernel
theorem dX6_takesFigure_67 : decode cX6_takesFigure 67 = .ok (.dup, 1) := by decide +kernel
theorem dX6_takesFigure_68 : decode cX6_takesFigure 68 = .ok (.getfield 49, 3) := by decide +kernel
theorem dX6_takesFigure_71 : decode cX6_takesFigure 71 = .ok (.iconst 1, 1) := by decide +kernel
theorem dX6_takesFigure_72 : decode cX6_takesFigure 72 = .ok (.iadd, 1) := by decide +kernel
theorem dX6_takesFigure_73 : decode cX6_takesFigure 73 = .ok (.putfield 49, 3) := by decide +kernel
theorem dX6_takesFigure_76 : decode cX6_takesFigure 76 = .ok (.iconst 1, 1) := by decide +kernel
theorem dX6_takesFigure_77 : decode cX6_takesFigure 77 = .ok (.ireturn, 1) := by decide +kernel
theorem dX6_opens_0 : decode cX6_opens 0 = .ok (.iload_n 1, 1) := by decide +kernel
theorem dX6_opens_1 : decode cX6_opens 1 = .ok (.iconst 0, 1) := by decide +kernel
theorem dX6_opens_2 : decode cX6_opens 2 = .ok (.bipush 11, 2) := by decide +kernel
theorem dX6_opens_4 : decode cX6_opens 4 = .ok (.invokestatic 85, 3) := by decide +kernel
theorem dX6_opens_7 : decode cX6_opens 7 = .ok (.ifCond .eq 13, 3) := by decide +kernel
theorem dX6_opens_10 : decode cX6_opens 10 = .ok (.aload_n 0, 1) := by decide +kernel
theorem dX6_opens_11 : decode cX6_opens 11 = .ok (.getfield 11, 3) := by decide +kernel
theorem dX6_opens_14 : decode cX6_opens 14 = .ok (.iload_n 1, 1) := by decide +kernel
theorem dX6_opens_15 : decode cX6_opens 15 = .ok (.iaload, 1) := by decide +kernel
theorem dX6_opens_16 : decode cX6_opens 16 = .ok (.iconst (-1), 1) := by decide +kernel
theorem dX6_opens_17 : decode cX6_opens 17 = .ok (.if_icmp .eq 5, 3) := by decide +kernel
theorem dX6_opens_20 : decode cX6_opens 20 = .ok (.iconst 0, 1) := by decide +kernel
theorem dX6_opens_21 : decode cX6_opens 21 = .ok (.ireturn, 1) := by decide +kernel
theorem dX6_opens_22 : decode cX6_opens 22 = .ok (.aload_n 0, 1) := by decide +kernel
theorem dX6_opens_23 : decode cX6_opens 23 = .ok (.iload_n 1, 1) := by decide +kernel
theorem dX6_opens_24 : decode cX6_opens 24 = .ok (.putfield 52, 3) := by decide +kernel
theorem dX6_opens_27 : decode cX6_opens 27 = .ok (.aload_n 0, 1) := by decide +kernel
theorem dX6_opens_28 : decode cX6_opens 28 = .ok (.getfield 11, 3) := by decide +kernel
theorem dX6_opens_31 : decode cX6_opens 31 = .ok (.iload_n 1, 1) := by decide +kernel
theorem dX6_opens_32 : decode cX6_opens 32 = .ok (.iconst 0, 1) := by decide +kernel
theorem dX6_opens_33 : decode cX6_opens 33 = .ok (.iastore, 1) := by decide +kernel
theorem dX6_opens_34 : decode cX6_opens 34 = .ok (.aload_n 0, 1) := by decide +kernel
theorem dX6_opens_35 : decode cX6_opens 35 = .ok (.iload_n 1, 1) := by decide +kernel
theorem dX6_opens_36 : decode cX6_opens 36 = .ok (.bipush 6, 2) := by decide +kernel
theorem dX6_opens_38 : decode cX6_opens 38 = .ok (.if_icmp .lt 9, 3) := by decide +kernel
theorem dX6_opens_41 : decode cX6_opens 41 = .ok (.iload_n 1, 1) := by decide +kernel
theorem dX6_opens_42 : decode cX6_opens 42 = .ok (.bipush 8, 2) := by decide +kernel
theorem dX6_opens_44 : decode cX6_opens 44 = .ok (.if_icmp .ne 7, 3) := by decide +kernel
theorem dX6_opens_47 : decode cX6_opens 47 = .ok (.iconst 2, 1) := by decide +kernel
theorem dX6_opens_48 : decode cX6_opens 48 = .ok (.goto 4, 3) := by decide +kernel
theorem dX6_opens_51 : decode cX6_opens 51 = .ok (.iconst 1, 1) := by decide +kernel
theorem dX6_opens_52 : decode cX6_opens 52 = .ok (.putfield 33, 3) := by decide +kernel
theorem dX6_opens_55 : decode cX6_opens 55 = .ok (.iconst 1, 1) := by decide +kernel
theorem dX6_opens_56 : decode cX6_opens 56 = .ok (.ireturn, 1) := by decide +kernel
theorem dX6_someBandIsUntold_0 : decode cX6_someBandIsUntold 0 = .ok (.iconst 0, 1) := by decide +kernel
theorem dX6_someBandIsUntold_1 : decode cX6_someBandIsUntold 1 = .ok (.istore_n 1, 1) := by decide +kernel
theorem dX6_someBandIsUntold_2 : decode cX6_someBandIsUntold 2 = .ok (.iload_n 1, 1) := by decide +kernel
theorem dX6_someBandIsUntold_3 : decode cX6_someBandIsUntold 3 = .ok (.bipush 6, 2) := by decide +kernel
theorem dX6_someBandIsUntold_5 : decode cX6_someBandIsUntold 5 = .ok (.if_icmp .ge 21, 3) := by decide +kernel
theorem dX6_someBandIsUntold_8 : decode cX6_someBandIsUntold 8 = .ok (.aload_n 0, 1) := by decide +kernel
theorem dX6_someBandIsUntold_9 : decode cX6_someBandIsUntold 9 = .ok (.getfield 11, 3) := by decide +kernel
theorem dX6_someBandIsUntold_12 : decode cX6_someBandIsUntold 12 = .ok (.iload_n 1, 1) := by decide +kernel
theorem dX6_someBandIsUntold_13 : decode cX6_someBandIsUntold 13 = .ok (.iaload, 1) := by decide +kernel
theorem dX6_someBandIsUntold_14 : decode cX6_someBandIsUntold 14 = .ok (.iconst (-1), 1) := by decide +kernel
theorem dX6_someBandIsUntold_15 : decode cX6_someBandIsUntold 15 = .ok (.if_icmp .ne 5, 3) := by decide +kernel
theorem dX6_someBandIsUntold_18 : decode cX6_someBandIsUntold 18 = .ok (.iconst 1, 1) := by decide +kernel
theorem dX6_someBandIsUntold_19 : decode cX6_someBandIsUntold 19 = .ok (.ireturn, 1) := by decide +kernel
theorem dX6_someBandIsUntold_20 : decode cX6_someBandIsUntold 20 = .ok (.iinc 1 1, 3) := by decide +kernel
theorem dX6_someBandIsUntold_23 : decode cX6_someBandIsUntold 23 = .ok (.goto (-21), 3) := by decide +kernel
theorem dX6_someBandIsUntold_26 : decode cX6_someBandIsUntold 26 = .ok (.iconst 0, 1) := by decide +kernel
theorem dX6_someBandIsUntold_27 : decode cX6_someBandIsUntold 27 = .ok (.ireturn, 1) := by decide +kernel
theorem dX7_init_0 : decode cX7_init 0 = .ok (.aload_n 0, 1) := by decide +kernel
theorem dX7_init_1 : decode cX7_init 1 = .ok (.invokespecial 3, 3) := by decide +kernel
theorem dX7_init_4 : decode cX7_init 4 = .ok (.aload_n 0, 1) := by decide +kernel
theorem dX7_init_5 : decode cX7_init 5 = .ok (.sipush 6400, 3) := by decide +kernel
theorem dX7_init_8 : decode cX7_init 8 = .ok (.newarray .int, 2) := by decide +kernel
theorem dX7_init_10 : decode cX7_init 10 = .ok (.putfield 11, 3) := by decide +kernel
theorem dX7_init_13 : decode cX7_init 13 = .ok (.aload_n 0, 1) := by decide +kernel
theorem dX7_init_14 : decode cX7_init 14 = .ok (.sipush 6400, 3) := by decide +kernel
theorem dX7_init_17 : decode cX7_init 17 = .ok (.newarray .int, 2) := by decide +kernel
theorem dX7_init_19 : decode cX7_init 19 = .ok (.putfield 17, 3) := by decide +kernel
theorem dX7_init_22 : decode cX7_init 22 = .ok (.return_, 1) := by decide +kernel
theorem dX7_follow_0 : decode cX7_follow 0 = .ok (.iload_n 2, 1) := by decide +kernel
theorem dX7_follow_1 : decode cX7_follow 1 = .ok (.iload_n 3, 1) := by decide +kernel
theorem dX7_follow_2 : decode cX7_follow 2 = .ok (.invokestatic 20, 3) := by decide +kernel
theorem dX7_follow_5 : decode cX7_follow 5 = .ok (.istore 4, 2) := by decide +kernel
theorem dX7_follow_7 : decode cX7_follow 7 = .ok (.aload_n 0, 1) := by decide +kernel
theorem dX7_follow_8 : decode cX7_follow 8 = .ok (.iconst 0, 1) := by decide +kernel
theorem dX7_follow_9 : decode cX7_follow 9 = .ok (.putfield 24, 3) := by decide +kernel
theorem dX7_follow_12 : decode cX7_follow 12 = .ok (.aload_n 0, 1) := by decide +kernel
theorem dX7_follow_13 : decode cX7_follow 13 = .ok (.getfield 24, 3) := by decide +kernel
theorem dX7_follow_16 : decode cX7_follow 16 = .ok (.sipush 6400, 3) := by decide +kernel
theorem dX7_follow_19 : decode cX7_follow 19 = .ok (.if_icmp .ge 55, 3) := by decide +kernel
theorem dX7_follow_22 : decode cX7_follow 22 = .ok (.aload_n 0, 1) := by decide +kernel
theorem dX7_follow_23 : decode cX7_follow 23 = .ok (.iload 4, 2) := by decide +kernel
theorem dX7_follow_25 : decode cX7_follow 25 = .ok (.invokevirtual 28, 3) := by decide +kernel
theorem dX7_follow_28 : decode cX7_follow 28 = .ok (.ifCond .eq 46, 3) := by decide +kernel
theorem dX7_follow_31 : decode cX7_follow 31 = .ok (.aload_n 0, 1) := by decide +kernel
theorem dX7_follow_32 : decode cX7_follow 32 = .ok (.getfield 11, 3) := by decide +kernel
theorem dX7_follow_35 : decode cX7_follow 35 = .ok (.aload_n 0, 1) := by decide +kernel
theorem dX7_follow_36 : decode cX7_follow 36 = .ok (.getfield 24, 3) := by decide +kernel
theorem dX7_follow_39 : decode cX7_follow 39 = .ok (.iload 4, 2) := by decide +kernel
theorem dX7_follow_41 : decode cX7_follow 41 = .ok (.iastore, 1) := by decide +kernel
theorem dX7_follow_42 : decode cX7_follow 42 = .ok (.aload_n 0, 1) := by decide +kernel
theorem dX7_follow_43 : decode cX7_follow 43 = .ok (.dup, 1) := by decide +kernel
theorem dX7_follow_44 : decode cX7_follow 44 = .ok (.getfield 24, 3) := by decide +kernel
theorem dX7_follow_47 : decode cX7_follow 47 = .ok (.iconst 1, 1) := by decide +kernel
theorem dX7_follow_48 : decode cX7_follow 48 = .ok (.iadd, 1) := by decide +kernel
theorem dX7_follow_49 : decode cX7_follow 49 = .ok (.putfield 24, 3) := by decide +kernel
theorem dX7_follow_52 : decode cX7_follow 52 = .ok (.aload_n 0, 1) := by decide +kernel
theorem dX7_follow_53 : decode cX7_follow 53 = .ok (.getfield 17, 3) := by decide +kernel
theorem dX7_follow_56 : decode cX7_follow 56 = .ok (.iload 4, 2) := by decide +kernel
theorem dX7_follow_58 : decode cX7_follow 58 = .ok (.aload_n 0, 1) := by decide +kernel
theorem dX7_follow_59 : decode cX7_follow 59 = .ok (.getfield 24, 3) := by decide +kernel
theorem dX7_follow_62 : decode cX7_follow 62 = .ok (.iastore, 1) := by decide +kernel
theorem dX7_follow_63 : decode cX7_follow 63 = .ok (.aload_n 1, 1) := by decide +kernel
theorem dX7_follow_64 : decode cX7_follow 64 = .ok (.iload 4, 2) := by decide +kernel
theorem dX7_follow_66 : decode cX7_follow 66 = .ok (.invokevirtual 32, 3) := by decide +kernel
theorem dX7_follow_69 : decode cX7_follow 69 = .ok (.istore 4, 2) := by decide +kernel
theorem dX7_follow_71 : decode cX7_follow 71 = .ok (.goto (-59), 3) := by decide +kernel
theorem dX7_follow_74 : decode cX7_follow 74 = .ok (.aload_n 0, 1) := by decide +kernel
theorem dX7_follow_75 : decode cX7_follow 75 = .ok (.iload 4, 2) := by decide +kernel
theorem dX7_follow_77 : decode cX7_follow 77 = .ok (.iconst 0, 1) := by decide +kernel
theorem dX7_follow_78 : decode cX7_follow 78 = .ok (.sipush 6399, 3) := by decide +kernel
theorem dX7_follow_81 : decode cX7_follow 81 = .ok (.invokestatic 36, 3) := by decide +kernel
theorem dX7_follow_84 : decode cX7_follow 84 = .ok (.ifCond .eq 19, 3) := by decide +kernel
theorem dX7_follow_87 : decode cX7_follow 87 = .ok (.aload_n 0, 1) := by decide +kernel
theorem dX7_follow_88 : decode cX7_follow 88 = .ok (.getfield 17, 3) := by decide +kernel
theorem dX7_follow_91 : decode cX7_follow 91 = .ok (.iload 4, 2) := by decide +kernel
theorem dX7_follow_93 : decode cX7_follow 93 = .ok (.iaload, 1) := by decide +kernel
theorem dX7_follow_94 : decode cX7_follow 94 = .ok (.iconst 1, 1) := by decide +kernel
theorem dX7_follow_95 : decode cX7_follow 95 = .ok (.isub, 1) := by decide +kernel
theorem dX7_follow_96 : decode cX7_follow 96 = .ok (.iconst 0, 1) := by decide +kernel
theorem dX7_follow_97 : decode cX7_follow 97 = .ok (.invokestatic 40, 3) := by decide +kernel
theorem dX7_follow_100 : decode cX7_follow 100 = .ok (.goto 4, 3) := by decide +kernel
theorem dX7_follow_103 : decode cX7_follow 103 = .ok (.iconst 0, 1) := by decide +kernel
theorem dX7_follow_104 : decode cX7_follow 104 = .ok (.putfield 45, 3) := by decide +kernel
theorem dX7_follow_107 : decode cX7_follow 107 = .ok (.iconst 0, 1) := by decide +kernel
theorem dX7_follow_108 : decode cX7_follow 108 = .ok (.istore 5, 2) := by decide +kernel
theorem dX7_follow_110 : decode cX7_follow 110 = .ok (.iload 5, 2) := by decide +kernel
theorem dX7_follow_112 : decode cX7_follow 112 = .ok (.aload_n 0, 1) := by decide +kernel
theorem dX7_follow_113 : decode cX7_follow 113 = .ok (.getfield 24, 3) := by decide +kernel
theorem dX7_follow_116 : decode cX7_follow 116 = .ok (.if_icmp .ge 22, 3) := by decide +kernel
theorem dX7_follow_119 : decode cX7_follow 119 = .ok (.aload_n 0, 1) := by decide +kernel
theorem dX7_follow_120 : decode cX7_follow 120 = .ok (.getfield 17, 3) := by decide +kernel
theorem dX7_follow_123 : decode cX7_follow 123 = .ok (.aload_n 0, 1) := by decide +kernel
theorem dX7_follow_124 : decode cX7_follow 124 = .ok (.getfield 11, 3) := by decide +kernel
theorem dX7_follow_127 : decode cX7_follow 127 = .ok (.iload 5, 2) := by decide +kernel
theorem dX7_follow_129 : decode cX7_follow 129 = .ok (.iaload, 1) := by decide +kernel
theorem dX7_follow_130 : decode cX7_follow 130 = .ok (.iconst 0, 1) := by decide +kernel
theorem dX7_follow_131 : decode cX7_follow 131 = .ok (.iastore, 1) := by decide +kernel
theorem dX7_follow_132 : decode cX7_follow 132 = .ok (.iinc 5 1, 3) := by decide +kernel
theorem dX7_follow_135 : decode cX7_follow 135 = .ok (.goto (-25), 3) := by decide +kernel
theorem dX7_follow_138 : decode cX7_follow 138 = .ok (.return_, 1) := by decide +kernel
theorem dX7_isNew_0 : decode cX7_isNew 0 = .ok (.iload_n 1, 1) := by decide +kernel
theorem dX7_isNew_1 : decode cX7_isNew 1 = .ok (.iconst 0, 1) := by decide +kernel
theorem dX7_isNew_2 : decode cX7_isNew 2 = .ok (.sipush 6399, 3) := by decide +kernel
theorem dX7_isNew_5 : decode cX7_isNew 5 = .ok (.invokestatic 36, 3) := by decide +kernel
theorem dX7_isNew_8 : decode cX7_isNew 8 = .ok (.ifCond .eq 16, 3) := by decide +kernel
theorem dX7_isNew_11 : decode cX7_isNew 11 = .ok (.aload_n 0, 1) := by decide +kernel
theorem dX7_isNew_12 : decode cX7_isNew 12 = .ok (.getfield 17, 3) := by decide +kernel
theorem dX7_isNew_15 : decode cX7_isNew 15 = .ok (.iload_n 1, 1) := by decide +kernel
theorem dX7_isNew_16 : decode cX7_isNew 16 = .ok (.iaload, 1) := by decide +kernel
theorem dX7_isNew_17 : decode cX7_isNew 17 = .ok (.ifCond .ne 7, 3) := by decide +kernel
theorem dX7_isNew_20 : decode cX7_isNew 20 = .ok (.iconst 1, 1) := by decide +kernel
theorem dX7_isNew_21 : decode cX7_isNew 21 = .ok (.goto 4, 3) := by decide +kernel
theorem dX7_isNew_24 : decode cX7_isNew 24 = .ok (.iconst 0, 1) := by decide +kernel
theorem dX7_isNew_25 : decode cX7_isNew 25 = .ok (.ireturn, 1) := by decide +kernel
theorem dX7_ring_0 : decode cX7_ring 0 = .ok (.aload_n 0, 1) := by decide +kernel
theorem dX7_ring_1 : decode cX7_ring 1 = .ok (.getfield 24, 3) := by decide +kernel
theorem dX7_ring_4 : decode cX7_ring 4 = .ok (.aload_n 0, 1) := by decide +kernel
theorem dX7_ring_5 : decode cX7_ring 5 = .ok (.getfield 45, 3) := by decide +kernel
theorem dX7_ring_8 : decode cX7_ring 8 = .ok (.isub, 1) := by decide +kernel
theorem dX7_ring_9 : decode cX7_ring 9 = .ok (.ireturn, 1) := by decide +kernel
theorem dX7_stateAt_0 : decode cX7_stateAt 0 = .ok (.iload_n 1, 1) := by decide +kernel
theorem dX7_stateAt_1 : decode cX7_stateAt 1 = .ok (.istore_n 2, 1) := by decide +kernel
theorem dX7_stateAt_2 : decode cX7_stateAt 2 = .ok (.iload_n 1, 1) := by decide +kernel
theorem dX7_stateAt_3 : decode cX7_stateAt 3 = .ok (.aload_n 0, 1) := by decide +kernel
theorem dX7_stateAt_4 : decode cX7_stateAt 4 = .ok (.getfield 24, 3) := by decide +kernel
theorem dX7_stateAt_7 : decode cX7_stateAt 7 = .ok (.if_icmp .lt 27, 3) := by decide +kernel
theorem dX7_stateAt_10 : decode cX7_stateAt 10 = .ok (.aload_n 0, 1) := by decide +kernel
theorem dX7_stateAt_11 : decode cX7_stateAt 11 = .ok (.invokevirtual 48, 3) := by decide +kernel
theorem dX7_stateAt_14 : decode cX7_stateAt 14 = .ok (.ifCond .le 20, 3) := by decide +kernel
theorem dX7_stateAt_17 : decode cX7_stateAt 17 = .ok (.aload_n 0, 1) := by decide +kernel
theorem dX7_stateAt_18 : decode cX7_stateAt 18 = .ok (.getfield 45, 3) := by decide +kernel
theorem dX7_stateAt_21 : decode cX7_stateAt 21 = .ok (.iload_n 1, 1) := by decide +kernel
theorem dX7_stateAt_22 : decode cX7_stateAt 22 = .ok (.aload_n 0, 1) := by decide +kernel
theorem dX7_stateAt_23 : decode cX7_stateAt 23 = .ok (.getfield 45, 3) := by decide +kernel
theorem dX7_stateAt_26 : decode cX7_stateAt 26 = .ok (.isub, 1) := by decide +kernel
theorem dX7_stateAt_27 : decode cX7_stateAt 27 = .ok (.aload_n 0, 1) := by decide +kernel
theorem dX7_stateAt_28 : decode cX7_stateAt 28 = .ok (.invokevirtual 48, 3) := by decide +kernel
theorem dX7_stateAt_31 : decode cX7_stateAt 31 = .ok (.irem, 1) := by decide +kernel
theorem dX7_stateAt_32 : decode cX7_stateAt 32 = .ok (.iadd, 1) := by decide +kernel
theorem dX7_stateAt_33 : decode cX7_stateAt 33 = .ok (.istore_n 2, 1) := by decide +kernel
theorem dX7_stateAt_34 : decode cX7_stateAt 34 = .ok (.iload_n 2, 1) := by decide +kernel
theorem dX7_stateAt_35 : decode cX7_stateAt 35 = .ok (.iconst 0, 1) := by decide +kernel
theorem dX7_stateAt_36 : decode cX7_stateAt 36 = .ok (.aload_n 0, 1) := by decide +kernel
theorem dX7_stateAt_37 : decode cX7_stateAt 37 = .ok (.getfield 24, 3) := by decide +kernel
theorem dX7_stateAt_40 : decode cX7_stateAt 40 = .ok (.iconst 1, 1) := by decide +kernel
theorem dX7_stateAt_41 : decode cX7_stateAt 41 = .ok (.isub, 1) := by decide +kernel
theorem dX7_stateAt_42 : decode cX7_stateAt 42 = .ok (.invokestatic 36, 3) := by decide +kernel
theorem dX7_stateAt_45 : decode cX7_stateAt 45 = .ok (.ifCond .eq 12, 3) := by decide +kernel
theorem dX7_stateAt_48 : decode cX7_stateAt 48 = .ok (.aload_n 0, 1) := by decide +kernel
theorem dX7_stateAt_49 : decode cX7_stateAt 49 = .ok (.getfield 11, 3) := by decide +kernel
theorem dX7_stateAt_52 : decode cX7_stateAt 52 = .ok (.iload_n 2, 1) := by decide +kernel
theorem dX7_stateAt_53 : decode cX7_stateAt 53 = .ok (.iaload, 1) := by decide +kernel
theorem dX7_stateAt_54 : decode cX7_stateAt 54 = .ok (.goto 5, 3) := by decide +kernel
theorem dX7_stateAt_57 : decode cX7_stateAt 57 = .ok (.bipush (-9), 2) := by decide +kernel
theorem dX7_stateAt_59 : decode cX7_stateAt 59 = .ok (.ireturn, 1) := by decide +kernel
theorem dX7_whiteInRing_0 : decode cX7_whiteInRing 0 = .ok (.iconst 0, 1) := by decide +kernel
theorem dX7_whiteInRing_1 : decode cX7_whiteInRing 1 = .ok (.istore_n 1, 1) := by decide +kernel
theorem dX7_whiteInRing_2 : decode cX7_whiteInRing 2 = .ok (.aload_n 0, 1) := by decide +kernel
theorem dX7_whiteInRing_3 : decode cX7_whiteInRing 3 = .ok (.getfield 45, 3) := by decide +kernel
theorem dX7_whiteInRing_6 : decode cX7_whiteInRing 6 = .ok (.istore_n 2, 1) := by decide +kernel
theorem dX7_whiteInRing_7 : decode cX7_whiteInRing 7 = .ok (.iload_n 2, 1) := by decide +kernel
theorem dX7_whiteInRing_8 : decode cX7_whiteInRing 8 = .ok (.aload_n 0, 1) := by decide +kernel
theorem dX7_whiteInRing_9 : decode cX7_whiteInRing 9 = .ok (.getfield 24, 3) := by decide +kernel
theorem dX7_whiteInRing_12 : decode cX7_whiteInRing 12 = .ok (.if_icmp .ge 26, 3) := by decide +kernel
theorem dX7_whiteInRing_15 : decode cX7_whiteInRing 15 = .ok (.aload_n 0, 1) := by decide +kernel
theorem dX7_whiteInRing_16 : decode cX7_whiteInRing 16 = .ok (.getfield 11, 3) := by decide +kernel
theorem dX7_whiteInRing_19 : decode cX7_whiteInRing 19 = .ok (.iload_n 2, 1) := by decide +kernel
theorem dX7_whiteInRing_20 : decode cX7_whiteInRing 20 = .ok (.iaload, 1) := by decide +kernel
theorem dX7_whiteInRing_21 : decode cX7_whiteInRing 21 = .ok (.invokestatic 52, 3) := by decide +kernel
theorem dX7_whiteInRing_24 : decode cX7_whiteInRing 24 = .ok (.bipush 63, 2) := by decide +kernel
theorem dX7_whiteInRing_26 : decode cX7_whiteInRing 26 = .ok (.if_icmp .ne 6, 3) := by decide +kernel
theorem dX7_whiteInRing_29 : decode cX7_whiteInRing 29 = .ok (.iinc 1 1, 3) := by decide +kernel
theorem dX7_whiteInRing_32 : decode cX7_whiteInRing 32 = .ok (.iinc 2 1, 3) := by decide +kernel
theorem dX7_whiteInRing_35 : decode cX7_whiteInRing 35 = .ok (.goto (-28), 3) := by decide +kernel
theorem dX7_whiteInRing_38 : decode cX7_whiteInRing 38 = .ok (.iload_n 1, 1) := by decide +kernel
theorem dX7_whiteInRing_39 : decode cX7_whiteInRing 39 = .ok (.ireturn, 1) := by decide +kernel
theorem dX7_leastAirInRing_0 : decode cX7_leastAirInRing 0 = .ok (.bipush 100, 2) := by decide +kernel
theorem dX7_leastAirInRing_2 : decode cX7_leastAirInRing 2 = .ok (.istore_n 1, 1) := by decide +kernel
theorem dX7_leastAirInRing_3 : decode cX7_leastAirInRing 3 = .ok (.aload_n 0, 1) := by decide +kernel
theorem dX7_leastAirInRing_4 : decode cX7_leastAirInRing 4 = .ok (.getfield 45, 3) := by decide +kernel
theorem dX7_leastAirInRing_7 : decode cX7_leastAirInRing 7 = .ok (.istore_n 2, 1) := by decide +kernel
theorem dX7_leastAirInRing_8 : decode cX7_leastAirInRing 8 = .ok (.iload_n 2, 1) := by decide +kernel
theorem dX7_leastAirInRing_9 : decode cX7_leastAirInRing 9 = .ok (.aload_n 0, 1) := by decide +kernel
theorem dX7_leastAirInRing_10 : decode cX7_leastAirInRing 10 = .ok (.getfield 24, 3) := by decide +kernel
theorem dX7_leastAirInRing_13 : decode cX7_leastAirInRing 13 = .ok (.if_icmp .ge 23, 3) := by decide +kernel
theorem dX7_leastAirInRing_16 : decode cX7_leastAirInRing 16 = .ok (.iload_n 1, 1) := by decide +kernel
theorem dX7_leastAirInRing_17 : decode cX7_leastAirInRing 17 = .ok (.aload_n 0, 1) := by decide +kernel
theorem dX7_leastAirInRing_18 : decode cX7_leastAirInRing 18 = .ok (.getfield 11, 3) := by decide +kernel
theorem dX7_leastAirInRing_21 : decode cX7_leastAirInRing 21 = .ok (.iload_n 2, 1) := by decide +kernel
theorem dX7_leastAirInRing_22 : decode cX7_leastAirInRing 22 = .ok (.iaload, 1) := by decide +kernel
theorem dX7_leastAirInRing_23 : decode cX7_leastAirInRing 23 = .ok (.invokestatic 55, 3) := by decide +kernel
theorem dX7_leastAirInRing_26 : decode cX7_leastAirInRing 26 = .ok (.invokestatic 58, 3) := by decide +kernel
theorem dX7_leastAirInRing_29 : decode cX7_leastAirInRing 29 = .ok (.istore_n 1, 1) := by decide +kernel
theorem dX7_leastAirInRing_30 : decode cX7_leastAirInRing 30 = .ok (.iinc 2 1, 3) := by decide +kernel
theorem dX7_leastAirInRing_33 : decode cX7_leastAirInRing 33 = .ok (.goto (-25), 3) := by decide +kernel
theorem dX7_leastAirInRing_36 : decode cX7_leastAirInRing 36 = .ok (.iload_n 1, 1) := by decide +kernel
theorem dX7_leastAirInRing_37 : decode cX7_leastAirInRing 37 = .ok (.ireturn, 1) := by decide +kernel
theorem dX7_greatestAirInRing_0 : decode cX7_greatestAirInRing 0 = .ok (.iconst 0, 1) := by decide +kernel
theorem dX7_greatestAirInRing_1 : decode cX7_greatestAirInRing 1 = .ok (.istore_n 1, 1) := by decide +kernel
theorem dX7_greatestAirInRing_2 : decode cX7_greatestAirInRing 2 = .ok (.aload_n 0, 1) := by decide +kernel
theorem dX7_greatestAirInRing_3 : decode cX7_greatestAirInRing 3 = .ok (.getfield 45, 3) := by decide +kernel
theorem dX7_greatestAirInRing_6 : decode cX7_greatestAirInRing 6 = .ok (.istore_n 2, 1) := by decide +kernel
theorem dX7_greatestAirInRing_7 : decode cX7_greatestAirInRing 7 = .ok (.iload_n 2, 1) := by decide +kernel
theorem dX7_greatestAirInRing_8 : decode cX7_greatestAirInRing 8 = .ok (.aload_n 0, 1) := by decide +kernel
theorem dX7_greatestAirInRing_9 : decode cX7_greatestAirInRing 9 = .ok (.getfield 24, 3) := by decide +kernel
theorem dX7_greatestAirInRing_12 : decode cX7_greatestAirInRing 12 = .ok (.if_icmp .ge 23, 3) := by decide +kernel
theorem dX7_greatestAirInRing_15 : decode cX7_greatestAirInRing 15 = .ok (.iload_n 1, 1) := by decide +kernel
theorem dX7_greatestAirInRing_16 : decode cX7_greatestAirInRing 16 = .ok (.aload_n 0, 1) := by decide +kernel
theorem dX7_greatestAirInRing_17 : decode cX7_greatestAirInRing 17 = .ok (.getfield 11, 3) := by decide +kernel
theorem dX7_greatestAirInRing_20 : decode cX7_greatestAirInRing 20 = .ok (.iload_n 2, 1) := by decide +kernel
theorem dX7_greatestAirInRing_21 : decode cX7_greatestAirInRing 21 = .ok (.iaload, 1) := by decide +kernel
theorem dX7_greatestAirInRing_22 : decode cX7_greatestAirInRing 22 = .ok (.invokestatic 55, 3) := by decide +kernel
theorem dX7_greatestAirInRing_25 : decode cX7_greatestAirInRing 25 = .ok (.invokestatic 40, 3) := by decide +kernel
theorem dX7_greatestAirInRing_28 : decode cX7_greatestAirInRing 28 = .ok (.istore_n 1, 1) := by decide +kernel
theorem dX7_greatestAirInRing_29 : decode cX7_greatestAirInRing 29 = .ok (.iinc 2 1, 3) := by decide +kernel
theorem dX7_greatestAirInRing_32 : decode cX7_greatestAirInRing 32 = .ok (.goto (-25), 3) := by decide +kernel
theorem dX7_greatestAirInRing_35 : decode cX7_greatestAirInRing 35 = .ok (.iload_n 1, 1) := by decide +kernel
theorem dX7_greatestAirInRing_36 : decode cX7_greatestAirInRing 36 = .ok (.ireturn, 1) := by decide +kernel
theorem dX7_firstWhite_0 : decode cX7_firstWhite 0 = .ok (.iconst 0, 1) := by decide +kernel
theorem dX7_firstWhite_1 : decode cX7_firstWhite 1 = .ok (.istore_n 2, 1) := by decide +kernel
theorem dX7_firstWhite_2 : decode cX7_firstWhite 2 = .ok (.iload_n 2, 1) := by decide +kernel
theorem dX7_firstWhite_3 : decode cX7_firstWhite 3 = .ok (.aload_n 0, 1) := by decide +kernel
theorem dX7_firstWhite_4 : decode cX7_firstWhite 4 = .ok (.getfield 24, 3) := by decide +kernel
theorem dX7_firstWhite_7 : decode cX7_firstWhite 7 = .ok (.if_icmp .ge 34, 3) := by decide +kernel
theorem dX7_firstWhite_10 : decode cX7_firstWhite 10 = .ok (.aload_n 0, 1) := by decide +kernel
theorem dX7_firstWhite_11 : decode cX7_firstWhite 11 = .ok (.getfield 11, 3) := by decide +kernel
theorem dX7_firstWhite_14 : decode cX7_firstWhite 14 = .ok (.iload_n 2, 1) := by decide +kernel
theorem dX7_firstWhite_15 : decode cX7_firstWhite 15 = .ok (.iaload, 1) := by decide +kernel
theorem dX7_firstWhite_16 : decode cX7_firstWhite 16 = .ok (.invokestatic 52, 3) := by decide +kernel
theorem dX7_firstWhite_19 : decode cX7_firstWhite 19 = .ok (.bipush 63, 2) := by decide +kernel
theorem dX7_firstWhite_21 : decode cX7_firstWhite 21 = .ok (.if_icmp .ne 7, 3) := by decide +kernel
theorem dX7_firstWhite_24 : decode cX7_firstWhite 24 = .ok (.iconst 1, 1) := by decide +kernel
theorem dX7_firstWhite_25 : decode cX7_firstWhite 25 = .ok (.goto 4, 3) := by decide +kernel
theorem dX7_firstWhite_28 : decode cX7_firstWhite 28 = .ok (.iconst 0, 1) := by decide +kernel
theorem dX7_firstWhite_29 : decode cX7_firstWhite 29 = .ok (.iload_n 1, 1) := by decide +kernel
theorem dX7_firstWhite_30 : decode cX7_firstWhite 30 = .ok (.if_icmp .ne 5, 3) := by decide +kernel
theorem dX7_firstWhite_33 : decode cX7_firstWhite 33 = .ok (.iload_n 2, 1) := by decide +kernel
theorem dX7_firstWhite_34 : decode cX7_firstWhite 34 = .ok (.ireturn, 1) := by decide +kernel
theorem dX7_firstWhite_35 : decode cX7_firstWhite 35 = .ok (.iinc 2 1, 3) := by decide +kernel
theorem dX7_firstWhite_38 : decode cX7_firstWhite 38 = .ok (.goto (-36), 3) := by decide +kernel
theorem dX7_firstWhite_41 : decode cX7_firstWhite 41 = .ok (.bipush (-9), 2) := by decide +kernel
theorem dX7_firstWhite_43 : decode cX7_firstWhite 43 = .ok (.ireturn, 1) := by decide +kernel
theorem dX8_init_0 : decode cX8_init 0 = .ok (.aload_n 0, 1) := by decide +kernel
theorem dX8_init_1 : decode cX8_init 1 = .ok (.invokespecial 3, 3) := by decide +kernel
theorem dX8_init_4 : decode cX8_init 4 = .ok (.aload_n 0, 1) := by decide +kernel
theorem dX8_init_5 : decode cX8_init 5 = .ok (.bipush 100, 2) := by decide +kernel
theorem dX8_init_7 : decode cX8_init 7 = .ok (.newarray .int, 2) := by decide +kernel
theorem dX8_init_9 : decode cX8_init 9 = .ok (.putfield 9, 3) := by decide +kernel
theorem dX8_init_12 : decode cX8_init 12 = .ok (.return_, 1) := by decide +kernel
theorem dX8_faultOf_0 : decode cX8_faultOf 0 = .ok (.aload_n 0, 1) := by decide +kernel
theorem dX8_faultOf_1 : decode cX8_faultOf 1 = .ok (.invokevirtual 15, 3) := by decide +kernel
theorem dX8_faultOf_4 : decode cX8_faultOf 4 = .ok (.iconst 0, 1) := by decide +kernel
theorem dX8_faultOf_5 : decode cX8_faultOf 5 = .ok (.istore_n 2, 1) := by decide +kernel
theorem dX8_faultOf_6 : decode cX8_faultOf 6 = .ok (.iload_n 2, 1) := by decide +kernel
theorem dX8_faultOf_7 : decode cX8_faultOf 7 = .ok (.aload_n 1, 1) := by decide +kernel
theorem dX8_faultOf_8 : decode cX8_faultOf 8 = .ok (.getfield 18, 3) := by decide +kernel
theorem dX8_faultOf_11 : decode cX8_faultOf 11 = .ok (.if_icmp .ge 30, 3) := by decide +kernel
theorem dX8_faultOf_14 : decode cX8_faultOf 14 = .ok (.iload_n 2, 1) := by decide +kernel
theorem dX8_faultOf_15 : decode cX8_faultOf 15 = .ok (.bipush 48, 2) := by decide +kernel
theorem dX8_faultOf_17 : decode cX8_faultOf 17 = .ok (.if_icmp .ge 24, 3) := by decide +kernel
theorem dX8_faultOf_20 : decode cX8_faultOf 20 = .ok (.aload_n 0, 1) := by decide +kernel
theorem dX8_faultOf_21 : decode cX8_faultOf 21 = .ok (.aload_n 1, 1) := by decide +kernel
theorem dX8_faultOf_22 : decode cX8_faultOf 22 = .ok (.getfield 24, 3) := by decide +kernel
theorem dX8_faultOf_25 : decode cX8_faultOf 25 = .ok (.iload_n 2, 1) := by decide +kernel
theorem dX8_faultOf_26 : decode cX8_faultOf 26 = .ok (.iaload, 1) := by decide +kernel
theorem dX8_faultOf_27 : decode cX8_faultOf 27 = .ok (.invokevirtual 27, 3) := by decide +kernel
theorem dX8_faultOf_30 : decode cX8_faultOf 30 = .ok (.ifCond .ne 5, 3) := by decide +kernel
theorem dX8_faultOf_33 : decode cX8_faultOf 33 = .ok (.iload_n 2, 1) := by decide +kernel
theorem dX8_faultOf_34 : decode cX8_faultOf 34 = .ok (.ireturn, 1) := by decide +kernel
theorem dX8_faultOf_35 : decode cX8_faultOf 35 = .ok (.iinc 2 1, 3) := by decide +kernel
theorem dX8_faultOf_38 : decode cX8_faultOf 38 = .ok (.goto (-32), 3) := by decide +kernel
theorem dX8_faultOf_41 : decode cX8_faultOf 41 = .ok (.aload_n 0, 1) := by decide +kernel
theorem dX8_faultOf_42 : decode cX8_faultOf 42 = .ok (.getfield 31, 3) := by decide +kernel
theorem dX8_faultOf_45 : decode cX8_faultOf 45 = .ok (.iconst 3, 1) := by decide +kernel
theorem dX8_faultOf_46 : decode cX8_faultOf 46 = .ok (.if_icmp .ne 8, 3) := by decide +kernel
theorem dX8_faultOf_49 : decode cX8_faultOf 49 = .ok (.bipush (-9), 2) := by decide +kernel
theorem dX8_faultOf_51 : decode cX8_faultOf 51 = .ok (.goto 7, 3) := by decide +kernel
theorem dX8_faultOf_54 : decode cX8_faultOf 54 = .ok (.aload_n 1, 1) := by decide +kernel
theorem dX8_faultOf_55 : decode cX8_faultOf 55 = .ok (.getfield 18, 3) := by decide +kernel
theorem dX8_faultOf_58 : decode cX8_faultOf 58 = .ok (.ireturn, 1) := by decide +kernel
theorem dX8_giveTo_0 : decode cX8_giveTo 0 = .ok (.iconst 0, 1) := by decide +kernel
theorem dX8_giveTo_1 : decode cX8_giveTo 1 = .ok (.istore_n 3, 1) := by decide +kernel
theorem dX8_giveTo_2 : decode cX8_giveTo 2 = .ok (.iconst 0, 1) := by decide +kernel
theorem dX8_giveTo_3 : decode cX8_giveTo 3 = .ok (.istore 4, 2) := by decide +kernel
theorem dX8_giveTo_5 : decode cX8_giveTo 5 = .ok (.iload 4, 2) := by decide +kernel
theorem dX8_giveTo_7 : decode cX8_giveTo 7 = .ok (.bipush 100, 2) := by decide +kernel
theorem dX8_giveTo_9 : decode cX8_giveTo 9 = .ok (.if_icmp .ge 36, 3) := by decide +kernel
theorem dX8_giveTo_12 : decode cX8_giveTo 12 = .ok (.aload_n 0, 1) := by decide +kernel
theorem dX8_giveTo_13 : decode cX8_giveTo 13 = .ok (.getfield 9, 3) := by decide +kernel
theorem dX8_giveTo_16 : decode cX8_giveTo 16 = .ok (.iload 4, 2) := by decide +kernel
theorem dX8_giveTo_18 : decode cX8_giveTo 18 = .ok (.iaload, 1) := by decide +kernel
theorem dX8_giveTo_19 : decode cX8_giveTo 19 = .ok (.iconst (-1), 1) := by decide +kernel
theorem dX8_giveTo_20 : decode cX8_giveTo 20 = .ok (.if_icmp .eq 11, 3) := by decide +kernel
theorem dX8_giveTo_23 : decode cX8_giveTo 23 = .ok (.aload_n 0, 1) := by decide +kernel
theorem dX8_giveTo_24 : decode cX8_giveTo 24 = .ok (.getfield 9, 3) := by decide +kernel
theorem dX8_giveTo_27 : decode cX8_giveTo 27 = .ok (.iload 4, 2) := by decide +kernel
theorem dX8_giveTo_29 : decode cX8_giveTo 29 = .ok (.iaload, 1) := by decide +kernel
theorem dX8_giveTo_30 : decode cX8_giveTo 30 = .ok (.istore_n 3, 1) := by decide +kernel
theorem dX8_giveTo_31 : decode cX8_giveTo 31 = .ok (.aload_n 1, 1) := by decide +kernel
theorem dX8_giveTo_32 : decode cX8_giveTo 32 = .ok (.iload_n 2, 1) := by decide +kernel
theorem dX8_giveTo_33 : decode cX8_giveTo 33 = .ok (.iload 4, 2) := by decide +kernel
theorem dX8_giveTo_35 : decode cX8_giveTo 35 = .ok (.iload_n 3, 1) := by decide +kernel
theorem dX8_giveTo_36 : decode cX8_giveTo 36 = .ok (.invokevirtual 34, 3) := by decide +kernel
theorem dX8_giveTo_39 : decode cX8_giveTo 39 = .ok (.iinc 4 1, 3) := by decide +kernel
theorem dX8_giveTo_42 : decode cX8_giveTo 42 = .ok (.goto (-37), 3) := by decide +kernel
theorem dX8_giveTo_45 : decode cX8_giveTo 45 = .ok (.return_, 1) := by decide +kernel
theorem dX8_begin_0 : decode cX8_begin 0 = .ok (.iconst 0, 1) := by decide +kernel
theorem dX8_begin_1 : decode cX8_begin 1 = .ok (.istore_n 1, 1) := by decide +kernel
theorem dX8_begin_2 : decode cX8_begin 2 = .ok (.iload_n 1, 1) := by decide +kernel
theorem dX8_begin_3 : decode cX8_begin 3 = .ok (.bipush 100, 2) := by decide +kernel
theorem dX8_begin_5 : decode cX8_begin 5 = .ok (.if_icmp .ge 16, 3) := by decide +kernel
theorem dX8_begin_8 : decode cX8_begin 8 = .ok (.aload_n 0, 1) := by decide +kernel
theorem dX8_begin_9 : decode cX8_begin 9 = .ok (.getfield 9, 3) := by decide +kernel
theorem dX8_begin_12 : decode cX8_begin 12 = .ok (.iload_n 1, 1) := by decide +kernel
theorem dX8_begin_13 : decode cX8_begin 13 = .ok (.iconst (-1), 1) := by decide +kernel
theorem dX8_begin_14 : decode cX8_begin 14 = .ok (.iastore, 1) := by decide +kernel
theorem dX8_begin_15 : decode cX8_begin 15 = .ok (.iinc 1 1, 3) := by decide +kernel
theorem dX8_begin_18 : decode cX8_begin 18 = .ok (.goto (-16), 3) := by decide +kernel
theorem dX8_begin_21 : decode cX8_begin 21 = .ok (.aload_n 0, 1) := by decide +kernel
theorem dX8_begin_22 : decode cX8_begin 22 = .ok (.iconst 0, 1) := by decide +kernel
theorem dX8_begin_23 : decode cX8_begin 23 = .ok (.putfield 40, 3) := by decide +kernel
theorem dX8_begin_26 : decode cX8_begin 26 = .ok (.aload_n 0, 1) := by decide +kernel
theorem dX8_begin_27 : decode cX8_begin 27 = .ok (.iconst 0, 1) := by decide +kernel
theorem dX8_begin_28 : decode cX8_begin 28 = .ok (.putfield 31, 3) := by decide +kernel
theorem dX8_begin_31 : decode cX8_begin 31 = .ok (.aload_n 0, 1) := by decide +kernel
theorem dX8_begin_32 : decode cX8_begin 32 = .ok (.iconst (-1), 1) := by decide +kernel
theorem dX8_begin_33 : decode cX8_begin 33 = .ok (.putfield 43, 3) := by decide +kernel
theorem dX8_begin_36 : decode cX8_begin 36 = .ok (.aload_n 0, 1) := by decide +kernel
theorem dX8_begin_37 : decode cX8_begin 37 = .ok (.iconst 0, 1) := by decide +kernel
theorem dX8_begin_38 : decode cX8_begin 38 = .ok (.putfield 46, 3) := by decide +kernel
theorem dX8_begin_41 : decode cX8_begin 41 = .ok (.aload_n 0, 1) := by decide +kernel
theorem dX8_begin_42 : decode cX8_begin 42 = .ok (.iconst 0, 1) := by decide +kernel
theorem dX8_begin_43 : decode cX8_begin 43 = .ok (.putfield 49, 3) := by decide +kernel
theorem dX8_begin_46 : decode cX8_begin 46 = .ok (.aload_n 0, 1) := by decide +kernel
theorem dX8_begin_47 : decode cX8_begin 47 = .ok (.iconst (-1), 1) := by decide +kernel
theorem dX8_begin_48 : decode cX8_begin 48 = .ok (.putfield 52, 3) := by decide +kernel
theorem dX8_begin_51 : decode cX8_begin 51 = .ok (.return_, 1) := by decide +kernel
theorem dX8_takes_0 : decode cX8_takes 0 = .ok (.aload_n 0, 1) := by decide +kernel
theorem dX8_takes_1 : decode cX8_takes 1 = .ok (.getfield 31, 3) := by decide +kernel
theorem dX8_takes_4 : decode cX8_takes 4 = .ok (.tableswitch 46 0 2 #[28, 34, 40], 28) := by decide +kernel
theorem dX8_takes_32 : decode cX8_takes 32 = .ok (.aload_n 0, 1) := by decide +kernel
theorem dX8_takes_33 : decode cX8_takes 33 = .ok (.iload_n 1, 1) := by decide +kernel
theorem dX8_takes_34 : decode cX8_takes 34 = .ok (.invokevirtual 55, 3) := by decide +kernel
theorem dX8_takes_37 : decode cX8_takes 37 = .ok (.ireturn, 1) := by decide +kernel
theorem dX8_takes_38 : decode cX8_takes 38 = .ok (.aload_n 0, 1) := by decide +kernel
theorem dX8_takes_39 : decode cX8_takes 39 = .ok (.iload_n 1, 1) := by decide +kernel
theorem dX8_takes_40 : decode cX8_takes 40 = .ok (.invokevirtual 58, 3) := by decide +kernel
theorem dX8_takes_43 : decode cX8_takes 43 = .ok (.ireturn, 1) := by decide +kernel
theorem dX8_takes_44 : decode cX8_takes 44 = .ok (.aload_n 0, 1) := by decide +kernel
theorem dX8_takes_45 : decode cX8_takes 45 = .ok (.iload_n 1, 1) := by decide +kernel
theorem dX8_takes_46 : decode cX8_takes 46 = .ok (.invokevirtual 61, 3) := by decide +kernel
theorem dX8_takes_49 : decode cX8_takes 49 = .ok (.ireturn, 1) := by decide +kernel
theorem dX8_takes_50 : decode cX8_takes 50 = .ok (.iload_n 1, 1) := by decide +kernel
theorem dX8_takes_51 : decode cX8_takes 51 = .ok (.bipush 59, 2) := by decide +kernel
theorem dX8_takes_53 : decode cX8_takes 53 = .ok (.if_icmp .ne 10, 3) := by decide +kernel
theorem dX8_takes_56 : decode cX8_takes 56 = .ok (.aload_n 0, 1) := by decide +kernel
theorem dX8_takes_57 : decode cX8_takes 57 = .ok (.invokevirtual 64, 3) := by decide +kernel
theorem dX8_takes_60 : decode cX8_takes 60 = .ok (.goto 8, 3) := by decide +kernel
theorem dX8_takes_63 : decode cX8_takes 63 = .ok (.aload_n 0, 1) := by decide +kernel
theorem dX8_takes_64 : decode cX8_takes 64 = .ok (.iload_n 1, 1) := by decide +kernel
theorem dX8_takes_65 : decode cX8_takes 65 = .ok (.invokevirtual 68, 3) := by decide +kernel
theorem dX8_takes_68 : decode cX8_takes 68 = .ok (.ireturn, 1) := by decide +kernel
theorem dX8_takesTens_0 : decode cX8_takesTens 0 = .ok (.aload_n 0, 1) := by decide +kernel
theorem dX8_takesTens_1 : decode cX8_takesTens 1 = .ok (.iload_n 1, 1) := by decide +kernel
theorem dX8_takesTens_2 : decode cX8_takesTens 2 = .ok (.invokestatic 71, 3) := by decide +kernel
theorem dX8_takesTens_5 : decode cX8_takesTens 5 = .ok (.putfield 46, 3) := by decide +kernel
theorem dX8_takesTens_8 : decode cX8_takesTens 8 = .ok (.aload_n 0, 1) := by decide +kernel
theorem dX8_takesTens_9 : decode cX8_takesTens 9 = .ok (.iconst 1, 1) := by decide +kernel
theorem dX8_takesTens_10 : decode cX8_takesTens 10 = .ok (.putfield 31, 3) := by decide +kernel
theorem dX8_takesTens_13 : decode cX8_takesTens 13 = .ok (.aload_n 0, 1) := by decide +kernel
theorem dX8_takesTens_14 : decode cX8_takesTens 14 = .ok (.getfield 46, 3) := by decide +kernel
theorem dX8_takesTens_17 : decode cX8_takesTens 17 = .ok (.bipush (-9), 2) := by decide +kernel
theorem dX8_takesTens_19 : decode cX8_takesTens 19 = .ok (.if_icmp .eq 24, 3) := by decide +kernel
theorem dX8_takesTens_22 : decode cX8_takesTens 22 = .ok (.bipush 10, 2) := by decide +kernel
theorem dX8_takesTens_24 : decode cX8_takesTens 24 = .ok (.aload_n 0, 1) := by decide +kernel
theorem dX8_takesTens_25 : decode cX8_takesTens 25 = .ok (.getfield 46, 3) := by decide +kernel
theorem dX8_takesTens_28 : decode cX8_takesTens 28 = .ok (.imul, 1) := by decide +kernel
theorem dX8_takesTens_29 : decode cX8_takesTens 29 = .ok (.bipush 9, 2) := by decide +kernel
theorem dX8_takesTens_31 : decode cX8_takesTens 31 = .ok (.iadd, 1) := by decide +kernel
theorem dX8_takesTens_32 : decode cX8_takesTens 32 = .ok (.aload_n 0, 1) := by decide +kernel
theorem dX8_takesTens_33 : decode cX8_takesTens 33 = .ok (.getfield 43, 3) := by decide +kernel
theorem dX8_takesTens_36 : decode cX8_takesTens 36 = .ok (.if_icmp .le 7, 3) := by decide +kernel
theorem dX8_takesTens_39 : decode cX8_takesTens 39 = .ok (.iconst 1, 1) := by decide +kernel
theorem dX8_takesTens_40 : decode cX8_takesTens 40 = .ok (.goto 4, 3) := by decide +kernel
theorem dX8_takesTens_43 : decode cX8_takesTens 43 = .ok (.iconst 0, 1) := by decide +kernel
theorem dX8_takesTens_44 : decode cX8_takesTens 44 = .ok (.ireturn, 1) := by decide +kernel
theorem dX8_takesOnes_0 : decode cX8_takesOnes 0 = .ok (.iload_n 1, 1) := by decide +kernel
theorem dX8_takesOnes_1 : decode cX8_takesOnes 1 = .ok (.invokestatic 71, 3) := by decide +kernel
theorem dX8_takesOnes_4 : decode cX8_takesOnes 4 = .ok (.istore_n 2, 1) := by decide +kernel
theorem dX8_takesOnes_5 : decode cX8_takesOnes 5 = .ok (.aload_n 0, 1) := by decide +kernel
theorem dX8_takesOnes_6 : decode cX8_takesOnes 6 = .ok (.bipush 10, 2) := by decide +kernel
theorem dX8_takesOnes_8 : decode cX8_takesOnes 8 = .ok (.aload_n 0, 1) := by decide +kernel
theorem dX8_takesOnes_9 : decode cX8_takesOnes 9 = .ok (.getfield 46, 3) := by decide +kernel
theorem dX8_takesOnes_12 : decode cX8_takesOnes 12 = .ok (.imul, 1) := by decide +kernel
theorem dX8_takesOnes_13 : decode cX8_takesOnes 13 = .ok (.iload_n 2, 1) := by decide +kernel
theorem dX8_takesOnes_14 : decode cX8_takesOnes 14 = .ok (.iadd, 1) := by decide +kernel
theorem dX8_takesOnes_15 : decode cX8_takesOnes 15 = .ok (.putfield 49, 3) := by decide +kernel
theorem dX8_takesOnes_18 : decode cX8_takesOnes 18 = .ok (.aload_n 0, 1) := by decide +kernel
theorem dX8_takesOnes_19 : decode cX8_takesOnes 19 = .ok (.iconst 2, 1) := by decide +kernel
theorem dX8_takesOnes_20 : decode cX8_takesOnes 20 = .ok (.putfield 31, 3) := by decide +kernel
theorem dX8_takesOnes_23 : decode cX8_takesOnes 23 = .ok (.iload_n 2, 1) := by decide +kernel
theorem dX8_takesOnes_24 : decode cX8_takesOnes 24 = .ok (.bipush (-9), 2) := by decide +kernel
theorem dX8_takesOnes_26 : decode cX8_takesOnes 26 = .ok (.if_icmp .eq 18, 3) := by decide +kernel
theorem dX8_takesOnes_29 : decode cX8_takesOnes 29 = .ok (.aload_n 0, 1) := by decide +kernel
theorem dX8_takesOnes_30 : decode cX8_takesOnes 30 = .ok (.getfield 49, 3) := by decide +kernel
theorem dX8_takesOnes_33 : decode cX8_takesOnes 33 = .ok (.aload_n 0, 1) := by decide +kernel
theorem dX8_takesOnes_34 : decode cX8_takesOnes 34 = .ok (.getfield 43, 3) := by decide +kernel
theorem dX8_takesOnes_37 : decode cX8_takesOnes 37 = .ok (.if_icmp .le 7, 3) := by decide +kernel
theorem dX8_takesOnes_40 : decode cX8_takesOnes 40 = .ok (.iconst 1, 1) := by decide +kernel
theorem dX8_takesOnes_41 : decode cX8_takesOnes 41 = .ok (.goto 4, 3) := by decide +kernel
theorem dX8_takesOnes_44 : decode cX8_takesOnes 44 = .ok (.iconst 0, 1) := by decide +kernel
theorem dX8_takesOnes_45 : decode cX8_takesOnes 45 = .ok (.ireturn, 1) := by decide +kernel
theorem dX8_takesColon_0 : decode cX8_takesColon 0 = .ok (.iload_n 1, 1) := by decide +kernel
theorem dX8_takesColon_1 : decode cX8_takesColon 1 = .ok (.bipush 58, 2) := by decide +kernel
theorem dX8_takesColon_3 : decode cX8_takesColon 3 = .ok (.if_icmp .ne 13, 3) := by decide +kernel
theorem dX8_takesColon_6 : decode cX8_takesColon 6 = .ok (.aload_n 0, 1) := by decide +kernel
theorem dX8_takesColon_7 : decode cX8_takesColon 7 = .ok (.getfield 49, 3) := by decide +kernel
theorem dX8_takesColon_10 : decode cX8_takesColon 10 = .ok (.invokestatic 75, 3) := by decide +kernel
theorem dX8_takesColon_13 : decode cX8_takesColon 13 = .ok (.ifCond .ne 5, 3) := by decide +kernel
theorem dX8_takesColon_16 : decode cX8_takesColon 16 = .ok (.iconst 0, 1) := by decide +kernel
theorem dX8_takesColon_17 : decode cX8_takesColon 17 = .ok (.ireturn, 1) := by decide +kernel
theorem dX8_takesColon_18 : decode cX8_takesColon 18 = .ok (.aload_n 0, 1) := by decide +kernel
theorem dX8_takesColon_19 : decode cX8_takesColon 19 = .ok (.getfield 9, 3) := by decide +kernel
theorem dX8_takesColon_22 : decode cX8_takesColon 22 = .ok (.aload_n 0, 1) := by decide +kernel
theorem dX8_takesColon_23 : decode cX8_takesColon 23 = .ok (.getfield 49, 3) := by decide +kernel
theorem dX8_takesColon_26 : decode cX8_takesColon 26 = .ok (.iconst 0, 1) := by decide +kernel
theorem dX8_takesColon_27 : decode cX8_takesColon 27 = .ok (.iastore, 1) := by decide +kernel
theorem dX8_takesColon_28 : decode cX8_takesColon 28 = .ok (.aload_n 0, 1) := by decide +kernel
theorem dX8_takesColon_29 : decode cX8_takesColon 29 = .ok (.dup, 1) := by decide +kernel
theorem dX8_takesColon_30 : decode cX8_takesColon 30 = .ok (.getfield 40, 3) := by decide +kernel
theorem dX8_takesColon_33 : decode cX8_takesColon 33 = .ok (.iconst 1, 1) := by decide +kernel
theorem dX8_takesColon_34 : decode cX8_takesColon 34 = .ok (.iadd, 1) := by decide +kernel
theorem dX8_takesColon_35 : decode cX8_takesColon 35 = .ok (.putfield 40, 3) := by decide +kernel
theorem dX8_takesColon_38 : decode cX8_takesColon 38 = .ok (.aload_n 0, 1) := by decide +kernel
theorem dX8_takesColon_39 : decode cX8_takesColon 39 = .ok (.iconst (-1), 1) := by decide +kernel
theorem dX8_takesColon_40 : decode cX8_takesColon 40 = .ok (.putfield 52, 3) := by decide +kernel
theorem dX8_takesColon_43 : decode cX8_takesColon 43 = .ok (.aload_n 0, 1) := by decide +kernel
theorem dX8_takesColon_44 : decode cX8_takesColon 44 = .ok (.iconst 3, 1) := by decide +kernel
theorem dX8_takesColon_45 : decode cX8_takesColon 45 = .ok (.putfield 31, 3) := by decide +kernel
theorem dX8_takesColon_48 : decode cX8_takesColon 48 = .ok (.iconst 1, 1) := by decide +kernel
theorem dX8_takesColon_49 : decode cX8_takesColon 49 = .ok (.ireturn, 1) := by decide +kernel
theorem dX8_takesNextEntry_0 : decode cX8_takesNextEntry 0 = .ok (.aload_n 0, 1) := by decide +kernel
theorem dX8_takesNextEntry_1 : decode cX8_takesNextEntry 1 = .ok (.aload_n 0, 1) := by decide +kernel
theorem dX8_takesNextEntry_2 : decode cX8_takesNextEntry 2 = .ok (.getfield 49, 3) := by decide +kernel
theorem dX8_takesNextEntry_5 : decode cX8_takesNextEntry 5 = .ok (.putfield 43, 3) := by decide +kernel
theorem dX8_takesNextEntry_8 : decode cX8_takesNextEntry 8 = .ok (.aload_n 0, 1) := by decide +kernel
theorem dX8_takesNextEntry_9 : decode cX8_takesNextEntry 9 = .ok (.iconst 0, 1) := by decide +kernel
theorem dX8_takesNextEntry_10 : decode cX8_takesNextEntry 10 = .ok (.putfield 31, 3) := by decide +kernel
theorem dX8_takesNextEntry_13 : decode cX8_takesNextEntry 13 = .ok (.aload_n 0, 1) := by decide +kernel
theorem dX8_takesNextEntry_14 : decode cX8_takesNextEntry 14 = .ok (.getfield 49, 3) := by decide +kernel
theorem dX8_takesNextEntry_17 : decode cX8_takesNextEntry 17 = .ok (.bipush 99, 2) := by decide +kernel
theorem dX8_takesNextEntry_19 : decode cX8_takesNextEntry 19 = .ok (.if_icmp .ge 7, 3) := by decide +kernel
theorem dX8_takesNextEntry_22 : decode cX8_takesNextEntry 22 = .ok (.iconst 1, 1) := by decide +kernel
theorem dX8_takesNextEntry_23 : decode cX8_takesNextEntry 23 = .ok (.goto 4, 3) := by decide +kernel
theorem dX8_takesNextEntry_26 : decode cX8_takesNextEntry 26 = .ok (.iconst 0, 1) := by decide +kernel
theorem dX8_takesNextEntry_27 : decode cX8_takesNextEntry 27 = .ok (.ireturn, 1) := by decide +kernel
theorem dX8_takesBand_0 : decode cX8_takesBand 0 = .ok (.iload_n 1, 1) := by decide +kernel
theorem dX8_takesBand_1 : decode cX8_takesBand 1 = .ok (.invokestatic 71, 3) := by decide +kernel
theorem dX8_takesBand_4 : decode cX8_takesBand 4 = .ok (.istore_n 2, 1) := by decide +kernel
theorem dX8_takesBand_5 : decode cX8_takesBand 5 = .ok (.iload_n 2, 1) := by decide +kernel
theorem dX8_takesBand_6 : decode cX8_takesBand 6 = .ok (.invokestatic 78, 3) := by decide +kernel
theorem dX8_takesBand_9 : decode cX8_takesBand 9 = .ok (.ifCond .eq 21, 3) := by decide +kernel
theorem dX8_takesBand_12 : decode cX8_takesBand 12 = .ok (.iload_n 2, 1) := by decide +kernel
theorem dX8_takesBand_13 : decode cX8_takesBand 13 = .ok (.aload_n 0, 1) := by decide +kernel
theorem dX8_takesBand_14 : decode cX8_takesBand 14 = .ok (.getfield 52, 3) := by decide +kernel
theorem dX8_takesBand_17 : decode cX8_takesBand 17 = .ok (.if_icmp .le 13, 3) := by decide +kernel
theorem dX8_takesBand_20 : decode cX8_takesBand 20 = .ok (.aload_n 0, 1) := by decide +kernel
theorem dX8_takesBand_21 : decode cX8_takesBand 21 = .ok (.getfield 49, 3) := by decide +kernel
theorem dX8_takesBand_24 : decode cX8_takesBand 24 = .ok (.invokestatic 75, 3) := by decide +kernel
theorem dX8_takesBand_27 : decode cX8_takesBand 27 = .ok (.ifCond .ne 5, 3) := by decide +kernel
theorem dX8_takesBand_30 : decode cX8_takesBand 30 = .ok (.iconst 0, 1) := by decide +kernel
theorem dX8_takesBand_31 : decode cX8_takesBand 31 = .ok (.ireturn, 1) := by decide +kernel
theorem dX8_takesBand_32 : decode cX8_takesBand 32 = .ok (.aload_n 0, 1) := by decide +kernel
theorem dX8_takesBand_33 : decode cX8_takesBand 33 = .ok (.getfield 9, 3) := by decide +kernel
theorem dX8_takesBand_36 : decode cX8_takesBand 36 = .ok (.aload_n 0, 1) := by decide +kernel
theorem dX8_takesBand_37 : decode cX8_takesBand 37 = .ok (.getfield 49, 3) := by decide +kernel
theorem dX8_takesBand_40 : decode cX8_takesBand 40 = .ok (.dup2, 1) := by decide +kernel
theorem dX8_takesBand_41 : decode cX8_takesBand 41 = .ok (.iaload, 1) := by decide +kernel
theorem dX8_takesBand_42 : decode cX8_takesBand 42 = .ok (.iconst 1, 1) := by decide +kernel
theorem dX8_takesBand_43 : decode cX8_takesBand 43 = .ok (.iload_n 2, 1) := by decide +kernel
theorem dX8_takesBand_44 : decode cX8_takesBand 44 = .ok (.ishl, 1) := by decide +kernel
theorem dX8_takesBand_45 : decode cX8_takesBand 45 = .ok (.ior, 1) := by decide +kernel
theorem dX8_takesBand_46 : decode cX8_takesBand 46 = .ok (.iastore, 1) := by decide +kernel
theorem dX8_takesBand_47 : decode cX8_takesBand 47 = .ok (.aload_n 0, 1) := by decide +kernel
theorem dX8_takesBand_48 : decode cX8_takesBand 48 = .ok (.iload_n 2, 1) := by decide +kernel
theorem dX8_takesBand_49 : decode cX8_takesBand 49 = .ok (.putfield 52, 3) := by decide +kernel
theorem dX8_takesBand_52 : decode cX8_takesBand 52 = .ok (.iconst 1, 1) := by decide +kernel
theorem dX8_takesBand_53 : decode cX8_takesBand 53 = .ok (.ireturn, 1) := by decide +kernel
theorem dX9_init_0 : decode cX9_init 0 = .ok (.aload_n 0, 1) := by decide +kernel
theorem dX9_init_1 : decode cX9_init 1 = .ok (.invokespecial 1, 3) := by decide +kernel
theorem dX9_init_4 : decode cX9_init 4 = .ok (.aload_n 0, 1) := by decide +kernel
theorem dX9_init_5 : decode cX9_init 5 = .ok (.bipush 48, 2) := by decide +kernel
theorem dX9_init_7 : decode cX9_init 7 = .ok (.newarray .int, 2) := by decide +kernel
theorem dX9_init_9 : decode cX9_init 9 = .ok (.putfield 9, 3) := by decide +kernel
theorem dX9_init_12 : decode cX9_init 12 = .ok (.return_, 1) := by decide +kernel
theorem dX9_hasRoomFor_0 : decode cX9_hasRoomFor 0 = .ok (.iload_n 1, 1) := by decide +kernel
theorem dX9_hasRoomFor_1 : decode cX9_hasRoomFor 1 = .ok (.bipush 48, 2) := by decide +kernel
theorem dX9_hasRoomFor_3 : decode cX9_hasRoomFor 3 = .ok (.aload_n 0, 1) := by decide +kernel
theorem dX9_hasRoomFor_4 : decode cX9_hasRoomFor 4 = .ok (.getfield 13, 3) := by decide +kernel
theorem dX9_hasRoomFor_7 : decode cX9_hasRoomFor 7 = .ok (.isub, 1) := by decide +kernel
theorem dX9_hasRoomFor_8 : decode cX9_hasRoomFor 8 = .ok (.if_icmp .gt 7, 3) := by decide +kernel
theorem dX9_hasRoomFor_11 : decode cX9_hasRoomFor 11 = .ok (.iconst 1, 1) := by decide +kernel
theorem dX9_hasRoomFor_12 : decode cX9_hasRoomFor 12 = .ok (.goto 4, 3) := by decide +kernel
theorem dX9_hasRoomFor_15 : decode cX9_hasRoomFor 15 = .ok (.iconst 0, 1) := by decide +kernel
theorem dX9_hasRoomFor_16 : decode cX9_hasRoomFor 16 = .ok (.ireturn, 1) := by decide +kernel
theorem dX9_put_0 : decode cX9_put 0 = .ok (.iload_n 1, 1) := by decide +kernel
theorem dX9_put_1 : decode cX9_put 1 = .ok (.iconst 1, 1) := by decide +kernel
theorem dX9_put_2 : decode cX9_put 2 = .ok (.isub, 1) := by decide +kernel
theorem dX9_put_3 : decode cX9_put 3 = .ok (.istore 4, 2) := by decide +kernel
theorem dX9_put_5 : decode cX9_put 5 = .ok (.iload 4, 2) := by decide +kernel
theorem dX9_put_7 : decode cX9_put 7 = .ok (.ifCond .lt 49, 3) := by decide +kernel
theorem dX9_put_10 : decode cX9_put 10 = .ok (.aload_n 0, 1) := by decide +kernel
theorem dX9_put_11 : decode cX9_put 11 = .ok (.getfield 13, 3) := by decide +kernel
theorem dX9_put_14 : decode cX9_put 14 = .ok (.bipush 48, 2) := by decide +kernel
theorem dX9_put_16 : decode cX9_put 16 = .ok (.if_icmp .ge 40, 3) := by decide +kernel
theorem dX9_put_19 : decode cX9_put 19 = .ok (.aload_n 0, 1) := by decide +kernel
theorem dX9_put_20 : decode cX9_put 20 = .ok (.getfield 9, 3) := by decide +kernel
theorem dX9_put_23 : decode cX9_put 23 = .ok (.aload_n 0, 1) := by decide +kernel
theorem dX9_put_24 : decode cX9_put 24 = .ok (.getfield 13, 3) := by decide +kernel
theorem dX9_put_27 : decode cX9_put 27 = .ok (.lload_n 2, 1) := by decide +kernel
theorem dX9_put_28 : decode cX9_put 28 = .ok (.bipush 8, 2) := by decide +kernel
theorem dX9_put_30 : decode cX9_put 30 = .ok (.iload 4, 2) := by decide +kernel
theorem dX9_put_32 : decode cX9_put 32 = .ok (.imul, 1) := by decide +kernel
theorem dX9_put_33 : decode cX9_put 33 = .ok (.lushr, 1) := by decide +kernel
theorem dX9_put_34 : decode cX9_put 34 = .ok (.l2i, 1) := by decide +kernel
theorem dX9_put_35 : decode cX9_put 35 = .ok (.sipush 255, 3) := by decide +kernel
theorem dX9_put_38 : decode cX9_put 38 = .ok (.iand, 1) := by decide +kernel
theorem dX9_put_39 : decode cX9_put 39 = .ok (.iastore, 1) := by decide +kernel
theorem dX9_put_40 : decode cX9_put 40 = .ok (.aload_n 0, 1) := by decide +kernel
theorem dX9_put_41 : decode cX9_put 41 = .ok (.dup, 1) := by decide +kernel
theorem dX9_put_42 : decode cX9_put 42 = .ok (.getfield 13, 3) := by decide +kernel
theorem dX9_put_45 : decode cX9_put 45 = .ok (.iconst 1, 1) := by decide +kernel
theorem dX9_put_46 : decode cX9_put 46 = .ok (.iadd, 1) := by decide +kernel
theorem dX9_put_47 : decode cX9_put 47 = .ok (.putfield 13, 3) := by decide +kernel
theorem dX9_put_50 : decode cX9_put 50 = .ok (.iinc 4 (-1), 3) := by decide +kernel
theorem dX9_put_53 : decode cX9_put 53 = .ok (.goto (-48), 3) := by decide +kernel
theorem dX9_put_56 : decode cX9_put 56 = .ok (.return_, 1) := by decide +kernel
theorem dJ11_isValidCodePoint_9a6ad_0 : decode cJ11_isValidCodePoint_9a6ad 0 = .ok (.iload_n 0, 1) := by decide +kernel
theorem dJ11_isValidCodePoint_9a6ad_1 : decode cJ11_isValidCodePoint_9a6ad 1 = .ok (.bipush 16, 2) := by decide +kernel
theorem dJ11_isValidCodePoint_9a6ad_3 : decode cJ11_isValidCodePoint_9a6ad 3 = .ok (.iushr, 1) := by decide +kernel
theorem dJ11_isValidCodePoint_9a6ad_4 : decode cJ11_isValidCodePoint_9a6ad 4 = .ok (.istore_n 1, 1) := by decide +kernel
theorem dJ11_isValidCodePoint_9a6ad_5 : decode cJ11_isValidCodePoint_9a6ad 5 = .ok (.iload_n 1, 1) := by decide +kernel
theorem dJ11_isValidCodePoint_9a6ad_6 : decode cJ11_isValidCodePoint_9a6ad 6 = .ok (.bipush 17, 2) := by decide +kernel
theorem dJ11_isValidCodePoint_9a6ad_8 : decode cJ11_isValidCodePoint_9a6ad 8 = .ok (.if_icmp .ge 7, 3) := by decide +kernel
theorem dJ11_isValidCodePoint_9a6ad_11 : decode cJ11_isValidCodePoint_9a6ad 11 = .ok (.iconst 1, 1) := by decide +kernel
theorem dJ11_isValidCodePoint_9a6ad_12 : decode cJ11_isValidCodePoint_9a6ad 12 = .ok (.goto 4, 3) := by decide +kernel
theorem dJ11_isValidCodePoint_9a6ad_15 : decode cJ11_isValidCodePoint_9a6ad 15 = .ok (.iconst 0, 1) := by decide +kernel
theorem dJ11_isValidCodePoint_9a6ad_16 : decode cJ11_isValidCodePoint_9a6ad 16 = .ok (.ireturn, 1) := by decide +kernel
theorem dJ11_highSurrogate_5068e_0 : decode cJ11_highSurrogate_5068e 0 = .ok (.iload_n 0, 1) := by decide +kernel
theorem dJ11_highSurrogate_5068e_1 : decode cJ11_highSurrogate_5068e 1 = .ok (.bipush 10, 2) := by decide +kernel
theorem dJ11_highSurrogate_5068e_3 : decode cJ11_highSurrogate_5068e 3 = .ok (.iushr, 1) := by decide +kernel
theorem dJ11_highSurrogate_5068e_4 : decode cJ11_highSurrogate_5068e 4 = .ok (.ldc 110, 2) := by decide +kernel
theorem dJ11_highSurrogate_5068e_6 : decode cJ11_highSurrogate_5068e 6 = .ok (.iadd, 1) := by decide +kernel
theorem dJ11_highSurrogate_5068e_7 : decode cJ11_highSurrogate_5068e 7 = .ok (.i2c, 1) := by decide +kernel
theorem dJ11_highSurrogate_5068e_8 : decode cJ11_highSurrogate_5068e 8 = .ok (.ireturn, 1) := by decide +kernel
theorem dJ11_lowSurrogate_5068e_0 : decode cJ11_lowSurrogate_5068e 0 = .ok (.iload_n 0, 1) := by decide +kernel
theorem dJ11_lowSurrogate_5068e_1 : decode cJ11_lowSurrogate_5068e 1 = .ok (.sipush 1023, 3) := by decide +kernel
theorem dJ11_lowSurrogate_5068e_4 : decode cJ11_lowSurrogate_5068e 4 = .ok (.iand, 1) := by decide +kernel
theorem dJ11_lowSurrogate_5068e_5 : decode cJ11_lowSurrogate_5068e 5 = .ok (.ldc 76, 2) := by decide +kernel
theorem dJ11_lowSurrogate_5068e_7 : decode cJ11_lowSurrogate_5068e 7 = .ok (.iadd, 1) := by decide +kernel
theorem dJ11_lowSurrogate_5068e_8 : decode cJ11_lowSurrogate_5068e 8 = .ok (.i2c, 1) := by decide +kernel
theorem dJ11_lowSurrogate_5068e_9 : decode cJ11_lowSurrogate_5068e 9 = .ok (.ireturn, 1) := by decide +kernel
theorem dJ6_bitCount_0f7a4_0 : decode cJ6_bitCount_0f7a4 0 = .ok (.iload_n 0, 1) := by decide +kernel
theorem dJ6_bitCount_0f7a4_1 : decode cJ6_bitCount_0f7a4 1 = .ok (.iload_n 0, 1) := by decide +kernel
theorem dJ6_bitCount_0f7a4_2 : decode cJ6_bitCount_0f7a4 2 = .ok (.iconst 1, 1) := by decide +kernel
theorem dJ6_bitCount_0f7a4_3 : decode cJ6_bitCount_0f7a4 3 = .ok (.iushr, 1) := by decide +kernel
theorem dJ6_bitCount_0f7a4_4 : decode cJ6_bitCount_0f7a4 4 = .ok (.ldc_w 265, 3) := by decide +kernel
theorem dJ6_bitCount_0f7a4_7 : decode cJ6_bitCount_0f7a4 7 = .ok (.iand, 1) := by decide +kernel
theorem dJ6_bitCount_0f7a4_8 : decode cJ6_bitCount_0f7a4 8 = .ok (.isub, 1) := by decide +kernel
theorem dJ6_bitCount_0f7a4_9 : decode cJ6_bitCount_0f7a4 9 = .ok (.istore_n 0, 1) := by decide +kernel
theorem dJ6_bitCount_0f7a4_10 : decode cJ6_bitCount_0f7a4 10 = .ok (.iload_n 0, 1) := by decide +kernel
theorem dJ6_bitCount_0f7a4_11 : decode cJ6_bitCount_0f7a4 11 = .ok (.ldc_w 266, 3) := by decide +kernel
theorem dJ6_bitCount_0f7a4_14 : decode cJ6_bitCount_0f7a4 14 = .ok (.iand, 1) := by decide +kernel
theorem dJ6_bitCount_0f7a4_15 : decode cJ6_bitCount_0f7a4 15 = .ok (.iload_n 0, 1) := by decide +kernel
theorem dJ6_bitCount_0f7a4_16 : decode cJ6_bitCount_0f7a4 16 = .ok (.iconst 2, 1) := by decide +kernel
theorem dJ6_bitCount_0f7a4_17 : decode cJ6_bitCount_0f7a4 17 = .ok (.iushr, 1) := by decide +kernel
theorem dJ6_bitCount_0f7a4_18 : decode cJ6_bitCount_0f7a4 18 = .ok (.ldc_w 266, 3) := by decide +kernel
theorem dJ6_bitCount_0f7a4_21 : decode cJ6_bitCount_0f7a4 21 = .ok (.iand, 1) := by decide +kernel
theorem dJ6_bitCount_0f7a4_22 : decode cJ6_bitCount_0f7a4 22 = .ok (.iadd, 1) := by decide +kernel
theorem dJ6_bitCount_0f7a4_23 : decode cJ6_bitCount_0f7a4 23 = .ok (.istore_n 0, 1) := by decide +kernel
theorem dJ6_bitCount_0f7a4_24 : decode cJ6_bitCount_0f7a4 24 = .ok (.iload_n 0, 1) := by decide +kernel
theorem dJ6_bitCount_0f7a4_25 : decode cJ6_bitCount_0f7a4 25 = .ok (.iload_n 0, 1) := by decide +kernel
theorem dJ6_bitCount_0f7a4_26 : decode cJ6_bitCount_0f7a4 26 = .ok (.iconst 4, 1) := by decide +kernel
theorem dJ6_bitCount_0f7a4_27 : decode cJ6_bitCount_0f7a4 27 = .ok (.iushr, 1) := by decide +kernel
theorem dJ6_bitCount_0f7a4_28 : decode cJ6_bitCount_0f7a4 28 = .ok (.iadd, 1) := by decide +kernel
theorem dJ6_bitCount_0f7a4_29 : decode cJ6_bitCount_0f7a4 29 = .ok (.ldc_w 267, 3) := by decide +kernel
theorem dJ6_bitCount_0f7a4_32 : decode cJ6_bitCount_0f7a4 32 = .ok (.iand, 1) := by decide +kernel
theorem dJ6_bitCount_0f7a4_33 : decode cJ6_bitCount_0f7a4 33 = .ok (.istore_n 0, 1) := by decide +kernel
theorem dJ6_bitCount_0f7a4_34 : decode cJ6_bitCount_0f7a4 34 = .ok (.iload_n 0, 1) := by decide +kernel
theorem dJ6_bitCount_0f7a4_35 : decode cJ6_bitCount_0f7a4 35 = .ok (.iload_n 0, 1) := by decide +kernel
theorem dJ6_bitCount_0f7a4_36 : decode cJ6_bitCount_0f7a4 36 = .ok (.bipush 8, 2) := by decide +kernel
theorem dJ6_bitCount_0f7a4_38 : decode cJ6_bitCount_0f7a4 38 = .ok (.iushr, 1) := by decide +kernel
theorem dJ6_bitCount_0f7a4_39 : decode cJ6_bitCount_0f7a4 39 = .ok (.iadd, 1) := by decide +kernel
theorem dJ6_bitCount_0f7a4_40 : decode cJ6_bitCount_0f7a4 40 = .ok (.istore_n 0, 1) := by decide +kernel
theorem dJ6_bitCount_0f7a4_41 : decode cJ6_bitCount_0f7a4 41 = .ok (.iload_n 0, 1) := by decide +kernel
theorem dJ6_bitCount_0f7a4_42 : decode cJ6_bitCount_0f7a4 42 = .ok (.iload_n 0, 1) := by decide +kernel
theorem dJ6_bitCount_0f7a4_43 : decode cJ6_bitCount_0f7a4 43 = .ok (.bipush 16, 2) := by decide +kernel
theorem dJ6_bitCount_0f7a4_45 : decode cJ6_bitCount_0f7a4 45 = .ok (.iushr, 1) := by decide +kernel
theorem dJ6_bitCount_0f7a4_46 : decode cJ6_bitCount_0f7a4 46 = .ok (.iadd, 1) := by decide +kernel
theorem dJ6_bitCount_0f7a4_47 : decode cJ6_bitCount_0f7a4 47 = .ok (.istore_n 0, 1) := by decide +kernel
theorem dJ6_bitCount_0f7a4_48 : decode cJ6_bitCount_0f7a4 48 = .ok (.iload_n 0, 1) := by decide +kernel
theorem dJ6_bitCount_0f7a4_49 : decode cJ6_bitCount_0f7a4 49 = .ok (.bipush 63, 2) := by decide +kernel
theorem dJ6_bitCount_0f7a4_51 : decode cJ6_bitCount_0f7a4 51 = .ok (.iand, 1) := by decide +kernel
theorem dJ6_bitCount_0f7a4_52 : decode cJ6_bitCount_0f7a4 52 = .ok (.ireturn, 1) := by decide +kernel
theorem dJ9_abs_0f7a4_0 : decode cJ9_abs_0f7a4 0 = .ok (.iload_n 0, 1) := by decide +kernel
theorem dJ9_abs_0f7a4_1 : decode cJ9_abs_0f7a4 1 = .ok (.ifCond .ge 8, 3) := by decide +kernel
theorem dJ9_abs_0f7a4_4 : decode cJ9_abs_0f7a4 4 = .ok (.iload_n 0, 1) := by decide +kernel
theorem dJ9_abs_0f7a4_5 : decode cJ9_abs_0f7a4 5 = .ok (.ineg, 1) := by decide +kernel
theorem dJ9_abs_0f7a4_6 : decode cJ9_abs_0f7a4 6 = .ok (.goto 4, 3) := by decide +kernel
theorem dJ9_abs_0f7a4_9 : decode cJ9_abs_0f7a4 9 = .ok (.iload_n 0, 1) := by decide +kernel
theorem dJ9_abs_0f7a4_10 : decode cJ9_abs_0f7a4 10 = .ok (.ireturn, 1) := by decide +kernel
theorem dJ9_abs_067f4_0 : decode cJ9_abs_067f4 0 = .ok (.lload_n 0, 1) := by decide +kernel
theorem dJ9_abs_067f4_1 : decode cJ9_abs_067f4 1 = .ok (.lconst 0, 1) := by decide +kernel
theorem dJ9_abs_067f4_2 : decode cJ9_abs_067f4 2 = .ok (.lcmp, 1) := by decide +kernel
theorem dJ9_abs_067f4_3 : decode cJ9_abs_067f4 3 = .ok (.ifCond .ge 8, 3) := by decide +kernel
theorem dJ9_abs_067f4_6 : decode cJ9_abs_067f4 6 = .ok (.lload_n 0, 1) := by decide +kernel
theorem dJ9_abs_067f4_7 : decode cJ9_abs_067f4 7 = .ok (.lneg, 1) := by decide +kernel
theorem dJ9_abs_067f4_8 : decode cJ9_abs_067f4 8 = .ok (.goto 4, 3) := by decide +kernel
theorem dJ9_abs_067f4_11 : decode cJ9_abs_067f4 11 = .ok (.lload_n 0, 1) := by decide +kernel
theorem dJ9_abs_067f4_12 : decode cJ9_abs_067f4 12 = .ok (.lreturn, 1) := by decide +kernel
theorem dJ9_max_7cf53_0 : decode cJ9_max_7cf53 0 = .ok (.iload_n 0, 1) := by decide +kernel
theorem dJ9_max_7cf53_1 : decode cJ9_max_7cf53 1 = .ok (.iload_n 1, 1) := by decide +kernel
theorem dJ9_max_7cf53_2 : decode cJ9_max_7cf53 2 = .ok (.if_icmp .lt 7, 3) := by decide +kernel
theorem dJ9_max_7cf53_5 : decode cJ9_max_7cf53 5 = .ok (.iload_n 0, 1) := by decide +kernel
theorem dJ9_max_7cf53_6 : decode cJ9_max_7cf53 6 = .ok (.goto 4, 3) := by decide +kernel
theorem dJ9_max_7cf53_9 : decode cJ9_max_7cf53 9 = .ok (.iload_n 1, 1) := by decide +kernel
theorem dJ9_max_7cf53_10 : decode cJ9_max_7cf53 10 = .ok (.ireturn, 1) := by decide +kernel
theorem dJ9_min_7cf53_0 : decode cJ9_min_7cf53 0 = .ok (.iload_n 0, 1) := by decide +kernel
theorem dJ9_min_7cf53_1 : decode cJ9_min_7cf53 1 = .ok (.iload_n 1, 1) := by decide +kernel
theorem dJ9_min_7cf53_2 : decode cJ9_min_7cf53 2 = .ok (.if_icmp .gt 7, 3) := by decide +kernel
theorem dJ9_min_7cf53_5 : decode cJ9_min_7cf53 5 = .ok (.iload_n 0, 1) := by decide +kernel
theorem dJ9_min_7cf53_6 : decode cJ9_min_7cf53 6 = .ok (.goto 4, 3) := by decide +kernel
theorem dJ9_min_7cf53_9 : decode cJ9_min_7cf53 9 = .ok (.iload_n 1, 1) := by decide +kernel
theorem dJ9_min_7cf53_10 : decode cJ9_min_7cf53 10 = .ok (.ireturn, 1) := by decide +kernel
theorem dJ0_length_8abf5_0 : decode cJ0_length_8abf5 0 = .ok (.aload_n 0, 1) := by decide +kernel
theorem dJ0_length_8abf5_1 : decode cJ0_length_8abf5 1 = .ok (.getfield 9, 3) := by decide +kernel
theorem dJ0_length_8abf5_4 : decode cJ0_length_8abf5 4 = .ok (.arraylength, 1) := by decide +kernel
theorem dJ0_length_8abf5_5 : decode cJ0_length_8abf5 5 = .ok (.aload_n 0, 1) := by decide +kernel
theorem dJ0_length_8abf5_6 : decode cJ0_length_8abf5 6 = .ok (.invokevirtual 335, 3) := by decide +kernel
theorem dJ0_length_8abf5_9 : decode cJ0_length_8abf5 9 = .ok (.ishr, 1) := by decide +kernel
theorem dJ0_length_8abf5_10 : decode cJ0_length_8abf5 10 = .ok (.ireturn, 1) := by decide +kernel
theorem dJ0_indexOf_0f7a4_0 : decode cJ0_indexOf_0f7a4 0 = .ok (.aload_n 0, 1) := by decide +kernel
theorem dJ0_indexOf_0f7a4_1 : decode cJ0_indexOf_0f7a4 1 = .ok (.iload_n 1, 1) := by decide +kernel
theorem dJ0_indexOf_0f7a4_2 : decode cJ0_indexOf_0f7a4 2 = .ok (.iconst 0, 1) := by decide +kernel
theorem dJ0_indexOf_0f7a4_3 : decode cJ0_indexOf_0f7a4 3 = .ok (.invokevirtual 633, 3) := by decide +kernel
theorem dJ0_indexOf_0f7a4_6 : decode cJ0_indexOf_0f7a4 6 = .ok (.ireturn, 1) := by decide +kernel
theorem dJ0_indexOf_7cf53_0 : decode cJ0_indexOf_7cf53 0 = .ok (.aload_n 0, 1) := by decide +kernel
theorem dJ0_indexOf_7cf53_1 : decode cJ0_indexOf_7cf53 1 = .ok (.invokevirtual 492, 3) := by decide +kernel
theorem dJ0_indexOf_7cf53_4 : decode cJ0_indexOf_7cf53 4 = .ok (.ifCond .eq 19, 3) := by decide +kernel
theorem dJ0_indexOf_7cf53_7 : decode cJ0_indexOf_7cf53 7 = .ok (.aload_n 0, 1) := by decide +kernel
theorem dJ0_indexOf_7cf53_8 : decode cJ0_indexOf_7cf53 8 = .ok (.getfield 9, 3) := by decide +kernel
theorem dJ0_indexOf_7cf53_11 : decode cJ0_indexOf_7cf53 11 = .ok (.iload_n 1, 1) := by decide +kernel
theorem dJ0_indexOf_7cf53_12 : decode cJ0_indexOf_7cf53 12 = .ok (.iload_n 2, 1) := by decide +kernel
theorem dJ0_indexOf_7cf53_13 : decode cJ0_indexOf_7cf53 13 = .ok (.aload_n 0, 1) := by decide +kernel
theorem dJ0_indexOf_7cf53_14 : decode cJ0_indexOf_7cf53 14 = .ok (.invokevirtual 505, 3) := by decide +kernel
theorem dJ0_indexOf_7cf53_17 : decode cJ0_indexOf_7cf53 17 = .ok (.invokestatic 637, 3) := by decide +kernel
theorem dJ0_indexOf_7cf53_20 : decode cJ0_indexOf_7cf53 20 = .ok (.goto 16, 3) := by decide +kernel
theorem dJ0_indexOf_7cf53_23 : decode cJ0_indexOf_7cf53 23 = .ok (.aload_n 0, 1) := by decide +kernel
theorem dJ0_indexOf_7cf53_24 : decode cJ0_indexOf_7cf53 24 = .ok (.getfield 9, 3) := by decide +kernel
theorem dJ0_indexOf_7cf53_27 : decode cJ0_indexOf_7cf53 27 = .ok (.iload_n 1, 1) := by decide +kernel
theorem dJ0_indexOf_7cf53_28 : decode cJ0_indexOf_7cf53 28 = .ok (.iload_n 2, 1) := by decide +kernel
theorem dJ0_indexOf_7cf53_29 : decode cJ0_indexOf_7cf53 29 = .ok (.aload_n 0, 1) := by decide +kernel
theorem dJ0_indexOf_7cf53_30 : decode cJ0_indexOf_7cf53 30 = .ok (.invokevirtual 505, 3) := by decide +kernel
theorem dJ0_indexOf_7cf53_33 : decode cJ0_indexOf_7cf53 33 = .ok (.invokestatic 640, 3) := by decide +kernel
theorem dJ0_indexOf_7cf53_36 : decode cJ0_indexOf_7cf53 36 = .ok (.ireturn, 1) := by decide +kernel
theorem dJ0_coder_7d493_0 : decode cJ0_coder_7d493 0 = .ok (.getstatic 38, 3) := by decide +kernel
theorem dJ0_coder_7d493_3 : decode cJ0_coder_7d493 3 = .ok (.ifCond .eq 10, 3) := by decide +kernel
theorem dJ0_coder_7d493_6 : decode cJ0_coder_7d493 6 = .ok (.aload_n 0, 1) := by decide +kernel
theorem dJ0_coder_7d493_7 : decode cJ0_coder_7d493 7 = .ok (.getfield 15, 3) := by decide +kernel
theorem dJ0_coder_7d493_10 : decode cJ0_coder_7d493 10 = .ok (.goto 4, 3) := by decide +kernel
theorem dJ0_coder_7d493_13 : decode cJ0_coder_7d493 13 = .ok (.iconst 1, 1) := by decide +kernel
theorem dJ0_coder_7d493_14 : decode cJ0_coder_7d493 14 = .ok (.ireturn, 1) := by decide +kernel
theorem dJ0_isLatin1_aae02_0 : decode cJ0_isLatin1_aae02 0 = .ok (.getstatic 38, 3) := by decide +kernel
theorem dJ0_isLatin1_aae02_3 : decode cJ0_isLatin1_aae02 3 = .ok (.ifCond .eq 14, 3) := by decide +kernel
theorem dJ0_isLatin1_aae02_6 : decode cJ0_isLatin1_aae02 6 = .ok (.aload_n 0, 1) := by decide +kernel
theorem dJ0_isLatin1_aae02_7 : decode cJ0_isLatin1_aae02 7 = .ok (.getfield 15, 3) := by decide +kernel
theorem dJ0_isLatin1_aae02_10 : decode cJ0_isLatin1_aae02 10 = .ok (.ifCond .ne 7, 3) := by decide +kernel
theorem dJ0_isLatin1_aae02_13 : decode cJ0_isLatin1_aae02 13 = .ok (.iconst 1, 1) := by decide +kernel
theorem dJ0_isLatin1_aae02_14 : decode cJ0_isLatin1_aae02 14 = .ok (.goto 4, 3) := by decide +kernel
theorem dJ0_isLatin1_aae02_17 : decode cJ0_isLatin1_aae02 17 = .ok (.iconst 0, 1) := by decide +kernel
theorem dJ0_isLatin1_aae02_18 : decode cJ0_isLatin1_aae02 18 = .ok (.ireturn, 1) := by decide +kernel
theorem dJ0_checkBoundsBeginEnd_23922_0 : decode cJ0_checkBoundsBeginEnd_23922 0 = .ok (.iload_n 0, 1) := by decide +kernel
theorem dJ0_checkBoundsBeginEnd_23922_1 : decode cJ0_checkBoundsBeginEnd_23922 1 = .ok (.iload_n 1, 1) := by decide +kernel
theorem dJ0_checkBoundsBeginEnd_23922_2 : decode cJ0_checkBoundsBeginEnd_23922 2 = .ok (.iload_n 2, 1) := by decide +kernel
theorem dJ0_checkBoundsBeginEnd_23922_3 : decode cJ0_checkBoundsBeginEnd_23922 3 = .ok (.getstatic 1053, 3) := by decide +kernel
theorem dJ0_checkBoundsBeginEnd_23922_6 : decode cJ0_checkBoundsBeginEnd_23922 6 = .ok (.invokestatic 1062, 3) := by decide +kernel
theorem dJ0_checkBoundsBeginEnd_23922_9 : decode cJ0_checkBoundsBeginEnd_23922 9 = .ok (.pop, 1) := by decide +kernel
theorem dJ0_checkBoundsBeginEnd_23922_10 : decode cJ0_checkBoundsBeginEnd_23922 10 = .ok (.return_, 1) := by decide +kernel
theorem dJ1_canEncode_9a6ad_0 : decode cJ1_canEncode_9a6ad 0 = .ok (.iload_n 0, 1) := by decide +kernel
theorem dJ1_canEncode_9a6ad_1 : decode cJ1_canEncode_9a6ad 1 = .ok (.ifCond .lt 14, 3) := by decide +kernel
theorem dJ1_canEncode_9a6ad_4 : decode cJ1_canEncode_9a6ad 4 = .ok (.iload_n 0, 1) := by decide +kernel
theorem dJ1_canEncode_9a6ad_5 : decode cJ1_canEncode_9a6ad 5 = .ok (.sipush 255, 3) := by decide +kernel
theorem dJ1_canEncode_9a6ad_8 : decode cJ1_canEncode_9a6ad 8 = .ok (.if_icmp .gt 7, 3) := by decide +kernel
theorem dJ1_canEncode_9a6ad_11 : decode cJ1_canEncode_9a6ad 11 = .ok (.iconst 1, 1) := by decide +kernel
theorem dJ1_canEncode_9a6ad_12 : decode cJ1_canEncode_9a6ad 12 = .ok (.goto 4, 3) := by decide +kernel
theorem dJ1_canEncode_9a6ad_15 : decode cJ1_canEncode_9a6ad 15 = .ok (.iconst 0, 1) := by decide +kernel
theorem dJ1_canEncode_9a6ad_16 : decode cJ1_canEncode_9a6ad 16 = .ok (.ireturn, 1) := by decide +kernel
theorem dJ1_indexOf_4cfef_0 : decode cJ1_indexOf_4cfef 0 = .ok (.iload_n 1, 1) := by decide +kernel
theorem dJ1_indexOf_4cfef_1 : decode cJ1_indexOf_4cfef 1 = .ok (.invokestatic 88, 3) := by decide +kernel
theorem dJ1_indexOf_4cfef_4 : decode cJ1_indexOf_4cfef 4 = .ok (.ifCond .ne 5, 3) := by decide +kernel
theorem dJ1_indexOf_4cfef_7 : decode cJ1_indexOf_4cfef 7 = .ok (.iconst (-1), 1) := by decide +kernel
theorem dJ1_indexOf_4cfef_8 : decode cJ1_indexOf_4cfef 8 = .ok (.ireturn, 1) := by decide +kernel
theorem dJ1_indexOf_4cfef_9 : decode cJ1_indexOf_4cfef 9 = .ok (.iload_n 2, 1) := by decide +kernel
theorem dJ1_indexOf_4cfef_10 : decode cJ1_indexOf_4cfef 10 = .ok (.iconst 0, 1) := by decide +kernel
theorem dJ1_indexOf_4cfef_11 : decode cJ1_indexOf_4cfef 11 = .ok (.invokestatic 92, 3) := by decide +kernel
theorem dJ1_indexOf_4cfef_14 : decode cJ1_indexOf_4cfef 14 = .ok (.istore_n 2, 1) := by decide +kernel
theorem dJ1_indexOf_4cfef_15 : decode cJ1_indexOf_4cfef 15 = .ok (.iload_n 3, 1) := by decide +kernel
theorem dJ1_indexOf_4cfef_16 : decode cJ1_indexOf_4cfef 16 = .ok (.aload_n 0, 1) := by decide +kernel
theorem dJ1_indexOf_4cfef_17 : decode cJ1_indexOf_4cfef 17 = .ok (.arraylength, 1) := by decide +kernel
theorem dJ1_indexOf_4cfef_18 : decode cJ1_indexOf_4cfef 18 = .ok (.invokestatic 38, 3) := by decide +kernel
theorem dJ1_indexOf_4cfef_21 : decode cJ1_indexOf_4cfef 21 = .ok (.istore_n 3, 1) := by decide +kernel
theorem dJ1_indexOf_4cfef_22 : decode cJ1_indexOf_4cfef 22 = .ok (.iload_n 2, 1) := by decide +kernel
theorem dJ1_indexOf_4cfef_23 : decode cJ1_indexOf_4cfef 23 = .ok (.iload_n 3, 1) := by decide +kernel
theorem dJ1_indexOf_4cfef_24 : decode cJ1_indexOf_4cfef 24 = .ok (.if_icmp .lt 5, 3) := by decide +kernel
theorem dJ1_indexOf_4cfef_27 : decode cJ1_indexOf_4cfef 27 = .ok (.iconst (-1), 1) := by decide +kernel
theorem dJ1_indexOf_4cfef_28 : decode cJ1_indexOf_4cfef 28 = .ok (.ireturn, 1) := by decide +kernel
theorem dJ1_indexOf_4cfef_29 : decode cJ1_indexOf_4cfef 29 = .ok (.aload_n 0, 1) := by decide +kernel
theorem dJ1_indexOf_4cfef_30 : decode cJ1_indexOf_4cfef 30 = .ok (.iload_n 1, 1) := by decide +kernel
theorem dJ1_indexOf_4cfef_31 : decode cJ1_indexOf_4cfef 31 = .ok (.iload_n 2, 1) := by decide +kernel
theorem dJ1_indexOf_4cfef_32 : decode cJ1_indexOf_4cfef 32 = .ok (.iload_n 3, 1) := by decide +kernel
theorem dJ1_indexOf_4cfef_33 : decode cJ1_indexOf_4cfef 33 = .ok (.invokestatic 95, 3) := by decide +kernel
theorem dJ1_indexOf_4cfef_36 : decode cJ1_indexOf_4cfef 36 = .ok (.ireturn, 1) := by decide +kernel
theorem dJ1_indexOfChar_4cfef_0 : decode cJ1_indexOfChar_4cfef 0 = .ok (.iload_n 1, 1) := by decide +kernel
theorem dJ1_indexOfChar_4cfef_1 : decode cJ1_indexOfChar_4cfef 1 = .ok (.i2b, 1) := by decide +kernel
theorem dJ1_indexOfChar_4cfef_2 : decode cJ1_indexOfChar_4cfef 2 = .ok (.istore 4, 2) := by decide +kernel
theorem dJ1_indexOfChar_4cfef_4 : decode cJ1_indexOfChar_4cfef 4 = .ok (.iload_n 2, 1) := by decide +kernel
theorem dJ1_indexOfChar_4cfef_5 : decode cJ1_indexOfChar_4cfef 5 = .ok (.istore 5, 2) := by decide +kernel
theorem dJ1_indexOfChar_4cfef_7 : decode cJ1_indexOfChar_4cfef 7 = .ok (.iload 5, 2) := by decide +kernel
theorem dJ1_indexOfChar_4cfef_9 : decode cJ1_indexOfChar_4cfef 9 = .ok (.iload_n 3, 1) := by decide +kernel
theorem dJ1_indexOfChar_4cfef_10 : decode cJ1_indexOfChar_4cfef 10 = .ok (.if_icmp .ge 21, 3) := by decide +kernel
theorem dJ1_indexOfChar_4cfef_13 : decode cJ1_indexOfChar_4cfef 13 = .ok (.aload_n 0, 1) := by decide +kernel
theorem dJ1_indexOfChar_4cfef_14 : decode cJ1_indexOfChar_4cfef 14 = .ok (.iload 5, 2) := by decide +kernel
theorem dJ1_indexOfChar_4cfef_16 : decode cJ1_indexOfChar_4cfef 16 = .ok (.baload, 1) := by decide +kernel
theorem dJ1_indexOfChar_4cfef_17 : decode cJ1_indexOfChar_4cfef 17 = .ok (.iload 4, 2) := by decide +kernel
theorem dJ1_indexOfChar_4cfef_19 : decode cJ1_indexOfChar_4cfef 19 = .ok (.if_icmp .ne 6, 3) := by decide +kernel
theorem dJ1_indexOfChar_4cfef_22 : decode cJ1_indexOfChar_4cfef 22 = .ok (.iload 5, 2) := by decide +kernel
theorem dJ1_indexOfChar_4cfef_24 : decode cJ1_indexOfChar_4cfef 24 = .ok (.ireturn, 1) := by decide +kernel
theorem dJ1_indexOfChar_4cfef_25 : decode cJ1_indexOfChar_4cfef 25 = .ok (.iinc 5 1, 3) := by decide +kernel
theorem dJ1_indexOfChar_4cfef_28 : decode cJ1_indexOfChar_4cfef 28 = .ok (.goto (-21), 3) := by decide +kernel
theorem dJ1_indexOfChar_4cfef_31 : decode cJ1_indexOfChar_4cfef 31 = .ok (.iconst (-1), 1) := by decide +kernel
theorem dJ1_indexOfChar_4cfef_32 : decode cJ1_indexOfChar_4cfef 32 = .ok (.ireturn, 1) := by decide +kernel
theorem dJ2_getChar_3b067_0 : decode cJ2_getChar_3b067 0 = .ok (.getstatic 44, 3) := by decide +kernel
theorem dJ2_getChar_3b067_3 : decode cJ2_getChar_3b067 3 = .ok (.ifCond .ne 25, 3) := by decide +kernel
theorem dJ2_getChar_3b067_6 : decode cJ2_getChar_3b067 6 = .ok (.iload_n 1, 1) := by decide +kernel
theorem dJ2_getChar_3b067_7 : decode cJ2_getChar_3b067 7 = .ok (.ifCond .lt 11, 3) := by decide +kernel
theorem dJ2_getChar_3b067_10 : decode cJ2_getChar_3b067 10 = .ok (.iload_n 1, 1) := by decide +kernel
theorem dJ2_getChar_3b067_11 : decode cJ2_getChar_3b067 11 = .ok (.aload_n 0, 1) := by decide +kernel
theorem dJ2_getChar_3b067_12 : decode cJ2_getChar_3b067 12 = .ok (.invokestatic 48, 3) := by decide +kernel
theorem dJ2_getChar_3b067_15 : decode cJ2_getChar_3b067 15 = .ok (.if_icmp .lt 13, 3) := by decide +kernel
theorem dJ2_getChar_3b067_18 : decode cJ2_getChar_3b067 18 = .ok (.new 52, 3) := by decide +kernel
theorem dJ2_getChar_3b067_21 : decode cJ2_getChar_3b067 21 = .ok (.dup, 1) := by decide +kernel
theorem dJ2_getChar_3b067_22 : decode cJ2_getChar_3b067 22 = .ok (.ldc 54, 2) := by decide +kernel
theorem dJ2_getChar_3b067_24 : decode cJ2_getChar_3b067 24 = .ok (.invokespecial 56, 3) := by decide +kernel
theorem dJ2_getChar_3b067_27 : decode cJ2_getChar_3b067 27 = .ok (.athrow, 1) := by decide +kernel
theorem dJ2_getChar_3b067_28 : decode cJ2_getChar_3b067 28 = .ok (.iload_n 1, 1) := by decide +kernel
theorem dJ2_getChar_3b067_29 : decode cJ2_getChar_3b067 29 = .ok (.iconst 1, 1) := by decide +kernel
theorem dJ2_getChar_3b067_30 : decode cJ2_getChar_3b067 30 = .ok (.ishl, 1) := by decide +kernel
theorem dJ2_getChar_3b067_31 : decode cJ2_getChar_3b067 31 = .ok (.istore_n 1, 1) := by decide +kernel
theorem dJ2_getChar_3b067_32 : decode cJ2_getChar_3b067 32 = .ok (.aload_n 0, 1) := by decide +kernel
theorem dJ2_getChar_3b067_33 : decode cJ2_getChar_3b067 33 = .ok (.iload_n 1, 1) := by decide +kernel
theorem dJ2_getChar_3b067_34 : decode cJ2_getChar_3b067 34 = .ok (.iinc 1 1, 3) := by decide +kernel
theorem dJ2_getChar_3b067_37 : decode cJ2_getChar_3b067 37 = .ok (.baload, 1) := by decide +kernel
theorem dJ2_getChar_3b067_38 : decode cJ2_getChar_3b067 38 = .ok (.sipush 255, 3) := by decide +kernel
theorem dJ2_getChar_3b067_41 : decode cJ2_getChar_3b067 41 = .ok (.iand, 1) := by decide +kernel
theorem dJ2_getChar_3b067_42 : decode cJ2_getChar_3b067 42 = .ok (.getstatic 59, 3) := by decide +kernel
theorem dJ2_getChar_3b067_45 : decode cJ2_getChar_3b067 45 = .ok (.ishl, 1) := by decide +kernel
theorem dJ2_getChar_3b067_46 : decode cJ2_getChar_3b067 46 = .ok (.aload_n 0, 1) := by decide +kernel
theorem dJ2_getChar_3b067_47 : decode cJ2_getChar_3b067 47 = .ok (.iload_n 1, 1) := by decide +kernel
theorem dJ2_getChar_3b067_48 : decode cJ2_getChar_3b067 48 = .ok (.baload, 1) := by decide +kernel
theorem dJ2_getChar_3b067_49 : decode cJ2_getChar_3b067 49 = .ok (.sipush 255, 3) := by decide +kernel
theorem dJ2_getChar_3b067_52 : decode cJ2_getChar_3b067 52 = .ok (.iand, 1) := by decide +kernel
theorem dJ2_getChar_3b067_53 : decode cJ2_getChar_3b067 53 = .ok (.getstatic 63, 3) := by decide +kernel
theorem dJ2_getChar_3b067_56 : decode cJ2_getChar_3b067 56 = .ok (.ishl, 1) := by decide +kernel
theorem dJ2_getChar_3b067_57 : decode cJ2_getChar_3b067 57 = .ok (.ior, 1) := by decide +kernel
theorem dJ2_getChar_3b067_58 : decode cJ2_getChar_3b067 58 = .ok (.i2c, 1) := by decide +kernel
theorem dJ2_getChar_3b067_59 : decode cJ2_getChar_3b067 59 = .ok (.ireturn, 1) := by decide +kernel
theorem dJ2_length_9d52b_0 : decode cJ2_length_9d52b 0 = .ok (.aload_n 0, 1) := by decide +kernel
theorem dJ2_length_9d52b_1 : decode cJ2_length_9d52b 1 = .ok (.arraylength, 1) := by decide +kernel
theorem dJ2_length_9d52b_2 : decode cJ2_length_9d52b 2 = .ok (.iconst 1, 1) := by decide +kernel
theorem dJ2_length_9d52b_3 : decode cJ2_length_9d52b 3 = .ok (.ishr, 1) := by decide +kernel
theorem dJ2_length_9d52b_4 : decode cJ2_length_9d52b 4 = .ok (.ireturn, 1) := by decide +kernel
theorem dJ2_indexOf_4cfef_0 : decode cJ2_indexOf_4cfef 0 = .ok (.iload_n 2, 1) := by decide +kernel
theorem dJ2_indexOf_4cfef_1 : decode cJ2_indexOf_4cfef 1 = .ok (.iconst 0, 1) := by decide +kernel
theorem dJ2_indexOf_4cfef_2 : decode cJ2_indexOf_4cfef 2 = .ok (.invokestatic 224, 3) := by decide +kernel
theorem dJ2_indexOf_4cfef_5 : decode cJ2_indexOf_4cfef 5 = .ok (.istore_n 2, 1) := by decide +kernel
theorem dJ2_indexOf_4cfef_6 : decode cJ2_indexOf_4cfef 6 = .ok (.iload_n 3, 1) := by decide +kernel
theorem dJ2_indexOf_4cfef_7 : decode cJ2_indexOf_4cfef 7 = .ok (.aload_n 0, 1) := by decide +kernel
theorem dJ2_indexOf_4cfef_8 : decode cJ2_indexOf_4cfef 8 = .ok (.arraylength, 1) := by decide +kernel
theorem dJ2_indexOf_4cfef_9 : decode cJ2_indexOf_4cfef 9 = .ok (.iconst 1, 1) := by decide +kernel
theorem dJ2_indexOf_4cfef_10 : decode cJ2_indexOf_4cfef 10 = .ok (.ishr, 1) := by decide +kernel
theorem dJ2_indexOf_4cfef_11 : decode cJ2_indexOf_4cfef 11 = .ok (.invokestatic 183, 3) := by decide +kernel
theorem dJ2_indexOf_4cfef_14 : decode cJ2_indexOf_4cfef 14 = .ok (.istore_n 3, 1) := by decide +kernel
theorem dJ2_indexOf_4cfef_15 : decode cJ2_indexOf_4cfef 15 = .ok (.iload_n 2, 1) := by decide +kernel
theorem dJ2_indexOf_4cfef_16 : decode cJ2_indexOf_4cfef 16 = .ok (.iload_n 3, 1) := by decide +kernel
theorem dJ2_indexOf_4cfef_17 : decode cJ2_indexOf_4cfef 17 = .ok (.if_icmp .lt 5, 3) := by decide +kernel
theorem dJ2_indexOf_4cfef_20 : decode cJ2_indexOf_4cfef 20 = .ok (.iconst (-1), 1) := by decide +kernel
theorem dJ2_indexOf_4cfef_21 : decode cJ2_indexOf_4cfef 21 = .ok (.ireturn, 1) := by decide +kernel
theorem dJ2_indexOf_4cfef_22 : decode cJ2_indexOf_4cfef 22 = .ok (.iload_n 1, 1) := by decide +kernel
theorem dJ2_indexOf_4cfef_23 : decode cJ2_indexOf_4cfef 23 = .ok (.ldc 227, 2) := by decide +kernel
theorem dJ2_indexOf_4cfef_25 : decode cJ2_indexOf_4cfef 25 = .ok (.if_icmp .ge 11, 3) := by decide +kernel
theorem dJ2_indexOf_4cfef_28 : decode cJ2_indexOf_4cfef 28 = .ok (.aload_n 0, 1) := by decide +kernel
theorem dJ2_indexOf_4cfef_29 : decode cJ2_indexOf_4cfef 29 = .ok (.iload_n 1, 1) := by decide +kernel
theorem dJ2_indexOf_4cfef_30 : decode cJ2_indexOf_4cfef 30 = .ok (.iload_n 2, 1) := by decide +kernel
theorem dJ2_indexOf_4cfef_31 : decode cJ2_indexOf_4cfef 31 = .ok (.iload_n 3, 1) := by decide +kernel
theorem dJ2_indexOf_4cfef_32 : decode cJ2_indexOf_4cfef 32 = .ok (.invokestatic 228, 3) := by decide +kernel
theorem dJ2_indexOf_4cfef_35 : decode cJ2_indexOf_4cfef 35 = .ok (.ireturn, 1) := by decide +kernel
theorem dJ2_indexOf_4cfef_36 : decode cJ2_indexOf_4cfef 36 = .ok (.aload_n 0, 1) := by decide +kernel
theorem dJ2_indexOf_4cfef_37 : decode cJ2_indexOf_4cfef 37 = .ok (.iload_n 1, 1) := by decide +kernel
theorem dJ2_indexOf_4cfef_38 : decode cJ2_indexOf_4cfef 38 = .ok (.iload_n 2, 1) := by decide +kernel
theorem dJ2_indexOf_4cfef_39 : decode cJ2_indexOf_4cfef 39 = .ok (.iload_n 3, 1) := by decide +kernel
theorem dJ2_indexOf_4cfef_40 : decode cJ2_indexOf_4cfef 40 = .ok (.invokestatic 232, 3) := by decide +kernel
theorem dJ2_indexOf_4cfef_43 : decode cJ2_indexOf_4cfef 43 = .ok (.ireturn, 1) := by decide +kernel
theorem dJ2_indexOfChar_4cfef_0 : decode cJ2_indexOfChar_4cfef 0 = .ok (.iload_n 2, 1) := by decide +kernel
theorem dJ2_indexOfChar_4cfef_1 : decode cJ2_indexOfChar_4cfef 1 = .ok (.iload_n 3, 1) := by decide +kernel
theorem dJ2_indexOfChar_4cfef_2 : decode cJ2_indexOfChar_4cfef 2 = .ok (.aload_n 0, 1) := by decide +kernel
theorem dJ2_indexOfChar_4cfef_3 : decode cJ2_indexOfChar_4cfef 3 = .ok (.invokestatic 96, 3) := by decide +kernel
theorem dJ2_indexOfChar_4cfef_6 : decode cJ2_indexOfChar_4cfef 6 = .ok (.aload_n 0, 1) := by decide +kernel
theorem dJ2_indexOfChar_4cfef_7 : decode cJ2_indexOfChar_4cfef 7 = .ok (.iload_n 1, 1) := by decide +kernel
theorem dJ2_indexOfChar_4cfef_8 : decode cJ2_indexOfChar_4cfef 8 = .ok (.iload_n 2, 1) := by decide +kernel
theorem dJ2_indexOfChar_4cfef_9 : decode cJ2_indexOfChar_4cfef 9 = .ok (.iload_n 3, 1) := by decide +kernel
theorem dJ2_indexOfChar_4cfef_10 : decode cJ2_indexOfChar_4cfef 10 = .ok (.invokestatic 244, 3) := by decide +kernel
theorem dJ2_indexOfChar_4cfef_13 : decode cJ2_indexOfChar_4cfef 13 = .ok (.ireturn, 1) := by decide +kernel
theorem dJ2_indexOfCharUnsafe_4cfef_0 : decode cJ2_indexOfCharUnsafe_4cfef 0 = .ok (.iload_n 2, 1) := by decide +kernel
theorem dJ2_indexOfCharUnsafe_4cfef_1 : decode cJ2_indexOfCharUnsafe_4cfef 1 = .ok (.istore 4, 2) := by decide +kernel
theorem dJ2_indexOfCharUnsafe_4cfef_3 : decode cJ2_indexOfCharUnsafe_4cfef 3 = .ok (.iload 4, 2) := by decide +kernel
theorem dJ2_indexOfCharUnsafe_4cfef_5 : decode cJ2_indexOfCharUnsafe_4cfef 5 = .ok (.iload_n 3, 1) := by decide +kernel
theorem dJ2_indexOfCharUnsafe_4cfef_6 : decode cJ2_indexOfCharUnsafe_4cfef 6 = .ok (.if_icmp .ge 22, 3) := by decide +kernel
theorem dJ2_indexOfCharUnsafe_4cfef_9 : decode cJ2_indexOfCharUnsafe_4cfef 9 = .ok (.aload_n 0, 1) := by decide +kernel
theorem dJ2_indexOfCharUnsafe_4cfef_10 : decode cJ2_indexOfCharUnsafe_4cfef 10 = .ok (.iload 4, 2) := by decide +kernel
theorem dJ2_indexOfCharUnsafe_4cfef_12 : decode cJ2_indexOfCharUnsafe_4cfef 12 = .ok (.invokestatic 71, 3) := by decide +kernel
theorem dJ2_indexOfCharUnsafe_4cfef_15 : decode cJ2_indexOfCharUnsafe_4cfef 15 = .ok (.iload_n 1, 1) := by decide +kernel
theorem dJ2_indexOfCharUnsafe_4cfef_16 : decode cJ2_indexOfCharUnsafe_4cfef 16 = .ok (.if_icmp .ne 6, 3) := by decide +kernel
theorem dJ2_indexOfCharUnsafe_4cfef_19 : decode cJ2_indexOfCharUnsafe_4cfef 19 = .ok (.iload 4, 2) := by decide +kernel
theorem dJ2_indexOfCharUnsafe_4cfef_21 : decode cJ2_indexOfCharUnsafe_4cfef 21 = .ok (.ireturn, 1) := by decide +kernel
theorem dJ2_indexOfCharUnsafe_4cfef_22 : decode cJ2_indexOfCharUnsafe_4cfef 22 = .ok (.iinc 4 1, 3) := by decide +kernel
theorem dJ2_indexOfCharUnsafe_4cfef_25 : decode cJ2_indexOfCharUnsafe_4cfef 25 = .ok (.goto (-22), 3) := by decide +kernel
theorem dJ2_indexOfCharUnsafe_4cfef_28 : decode cJ2_indexOfCharUnsafe_4cfef 28 = .ok (.iconst (-1), 1) := by decide +kernel
theorem dJ2_indexOfCharUnsafe_4cfef_29 : decode cJ2_indexOfCharUnsafe_4cfef 29 = .ok (.ireturn, 1) := by decide +kernel
theorem dJ2_indexOfSupplementary_4cfef_0 : decode cJ2_indexOfSupplementary_4cfef 0 = .ok (.iload_n 1, 1) := by decide +kernel
theorem dJ2_indexOfSupplementary_4cfef_1 : decode cJ2_indexOfSupplementary_4cfef 1 = .ok (.invokestatic 164, 3) := by decide +kernel
theorem dJ2_indexOfSupplementary_4cfef_4 : decode cJ2_indexOfSupplementary_4cfef 4 = .ok (.ifCond .eq 65, 3) := by decide +kernel
theorem dJ2_indexOfSupplementary_4cfef_7 : decode cJ2_indexOfSupplementary_4cfef 7 = .ok (.iload_n 1, 1) := by decide +kernel
theorem dJ2_indexOfSupplementary_4cfef_8 : decode cJ2_indexOfSupplementary_4cfef 8 = .ok (.invokestatic 157, 3) := by decide +kernel
theorem dJ2_indexOfSupplementary_4cfef_11 : decode cJ2_indexOfSupplementary_4cfef 11 = .ok (.istore 4, 2) := by decide +kernel
theorem dJ2_indexOfSupplementary_4cfef_13 : decode cJ2_indexOfSupplementary_4cfef 13 = .ok (.iload_n 1, 1) := by decide +kernel
theorem dJ2_indexOfSupplementary_4cfef_14 : decode cJ2_indexOfSupplementary_4cfef 14 = .ok (.invokestatic 161, 3) := by decide +kernel
theorem dJ2_indexOfSupplementary_4cfef_17 : decode cJ2_indexOfSupplementary_4cfef 17 = .ok (.istore 5, 2) := by decide +kernel
theorem dJ2_indexOfSupplementary_4cfef_19 : decode cJ2_indexOfSupplementary_4cfef 19 = .ok (.iload_n 2, 1) := by decide +kernel
theorem dJ2_indexOfSupplementary_4cfef_20 : decode cJ2_indexOfSupplementary_4cfef 20 = .ok (.iload_n 3, 1) := by decide +kernel
theorem dJ2_indexOfSupplementary_4cfef_21 : decode cJ2_indexOfSupplementary_4cfef 21 = .ok (.aload_n 0, 1) := by decide +kernel
theorem dJ2_indexOfSupplementary_4cfef_22 : decode cJ2_indexOfSupplementary_4cfef 22 = .ok (.invokestatic 96, 3) := by decide +kernel
theorem dJ2_indexOfSupplementary_4cfef_25 : decode cJ2_indexOfSupplementary_4cfef 25 = .ok (.iload_n 2, 1) := by decide +kernel
theorem dJ2_indexOfSupplementary_4cfef_26 : decode cJ2_indexOfSupplementary_4cfef 26 = .ok (.istore 6, 2) := by decide +kernel
theorem dJ2_indexOfSupplementary_4cfef_28 : decode cJ2_indexOfSupplementary_4cfef 28 = .ok (.iload 6, 2) := by decide +kernel
theorem dJ2_indexOfSupplementary_4cfef_30 : decode cJ2_indexOfSupplementary_4cfef 30 = .ok (.iload_n 3, 1) := by decide +kernel
theorem dJ2_indexOfSupplementary_4cfef_31 : decode cJ2_indexOfSupplementary_4cfef 31 = .ok (.iconst 1, 1) := by decide +kernel
theorem dJ2_indexOfSupplementary_4cfef_32 : decode cJ2_indexOfSupplementary_4cfef 32 = .ok (.isub, 1) := by decide +kernel
theorem dJ2_indexOfSupplementary_4cfef_33 : decode cJ2_indexOfSupplementary_4cfef 33 = .ok (.if_icmp .ge 36, 3) := by decide +kernel
theorem dJ2_indexOfSupplementary_4cfef_36 : decode cJ2_indexOfSupplementary_4cfef 36 = .ok (.aload_n 0, 1) := by decide +kernel
theorem dJ2_indexOfSupplementary_4cfef_37 : decode cJ2_indexOfSupplementary_4cfef 37 = .ok (.iload 6, 2) := by decide +kernel
theorem dJ2_indexOfSupplementary_4cfef_39 : decode cJ2_indexOfSupplementary_4cfef 39 = .ok (.invokestatic 71, 3) := by decide +kernel
theorem dJ2_indexOfSupplementary_4cfef_42 : decode cJ2_indexOfSupplementary_4cfef 42 = .ok (.iload 4, 2) := by decide +kernel
theorem dJ2_indexOfSupplementary_4cfef_44 : decode cJ2_indexOfSupplementary_4cfef 44 = .ok (.if_icmp .ne 19, 3) := by decide +kernel
theorem dJ2_indexOfSupplementary_4cfef_47 : decode cJ2_indexOfSupplementary_4cfef 47 = .ok (.aload_n 0, 1) := by decide +kernel
theorem dJ2_indexOfSupplementary_4cfef_48 : decode cJ2_indexOfSupplementary_4cfef 48 = .ok (.iload 6, 2) := by decide +kernel
theorem dJ2_indexOfSupplementary_4cfef_50 : decode cJ2_indexOfSupplementary_4cfef 50 = .ok (.iconst 1, 1) := by decide +kernel
theorem dJ2_indexOfSupplementary_4cfef_51 : decode cJ2_indexOfSupplementary_4cfef 51 = .ok (.iadd, 1) := by decide +kernel
theorem dJ2_indexOfSupplementary_4cfef_52 : decode cJ2_indexOfSupplementary_4cfef 52 = .ok (.invokestatic 71, 3) := by decide +kernel
theorem dJ2_indexOfSupplementary_4cfef_55 : decode cJ2_indexOfSupplementary_4cfef 55 = .ok (.iload 5, 2) := by decide +kernel
theorem dJ2_indexOfSupplementary_4cfef_57 : decode cJ2_indexOfSupplementary_4cfef 57 = .ok (.if_icmp .ne 6, 3) := by decide +kernel
theorem dJ2_indexOfSupplementary_4cfef_60 : decode cJ2_indexOfSupplementary_4cfef 60 = .ok (.iload 6, 2) := by decide +kernel
theorem dJ2_indexOfSupplementary_4cfef_62 : decode cJ2_indexOfSupplementary_4cfef 62 = .ok (.ireturn, 1) := by decide +kernel
theorem dJ2_indexOfSupplementary_4cfef_63 : decode cJ2_indexOfSupplementary_4cfef 63 = .ok (.iinc 6 1, 3) := by decide +kernel
theorem dJ2_indexOfSupplementary_4cfef_66 : decode cJ2_indexOfSupplementary_4cfef 66 = .ok (.goto (-38), 3) := by decide +kernel
theorem dJ2_indexOfSupplementary_4cfef_69 : decode cJ2_indexOfSupplementary_4cfef 69 = .ok (.iconst (-1), 1) := by decide +kernel
theorem dJ2_indexOfSupplementary_4cfef_70 : decode cJ2_indexOfSupplementary_4cfef 70 = .ok (.ireturn, 1) := by decide +kernel
theorem dJ2_checkBoundsBeginEnd_d044e_0 : decode cJ2_checkBoundsBeginEnd_d044e 0 = .ok (.iload_n 0, 1) := by decide +kernel
theorem dJ2_checkBoundsBeginEnd_d044e_1 : decode cJ2_checkBoundsBeginEnd_d044e 1 = .ok (.iload_n 1, 1) := by decide +kernel
theorem dJ2_checkBoundsBeginEnd_d044e_2 : decode cJ2_checkBoundsBeginEnd_d044e 2 = .ok (.aload_n 2, 1) := by decide +kernel
theorem dJ2_checkBoundsBeginEnd_d044e_3 : decode cJ2_checkBoundsBeginEnd_d044e 3 = .ok (.invokestatic 48, 3) := by decide +kernel
theorem dJ2_checkBoundsBeginEnd_d044e_6 : decode cJ2_checkBoundsBeginEnd_d044e 6 = .ok (.invokestatic 241, 3) := by decide +kernel
theorem dJ2_checkBoundsBeginEnd_d044e_9 : decode cJ2_checkBoundsBeginEnd_d044e 9 = .ok (.return_, 1) := by decide +kernel
theorem dJ3_checkFromToIndex_8c36e_0 : decode cJ3_checkFromToIndex_8c36e 0 = .ok (.iload_n 0, 1) := by decide +kernel
theorem dJ3_checkFromToIndex_8c36e_1 : decode cJ3_checkFromToIndex_8c36e 1 = .ok (.ifCond .lt 13, 3) := by decide +kernel
theorem dJ3_checkFromToIndex_8c36e_4 : decode cJ3_checkFromToIndex_8c36e 4 = .ok (.iload_n 0, 1) := by decide +kernel
theorem dJ3_checkFromToIndex_8c36e_5 : decode cJ3_checkFromToIndex_8c36e 5 = .ok (.iload_n 1, 1) := by decide +kernel
theorem dJ3_checkFromToIndex_8c36e_6 : decode cJ3_checkFromToIndex_8c36e 6 = .ok (.if_icmp .gt 8, 3) := by decide +kernel
theorem dJ3_checkFromToIndex_8c36e_9 : decode cJ3_checkFromToIndex_8c36e 9 = .ok (.iload_n 1, 1) := by decide +kernel
theorem dJ3_checkFromToIndex_8c36e_10 : decode cJ3_checkFromToIndex_8c36e 10 = .ok (.iload_n 2, 1) := by decide +kernel
theorem dJ3_checkFromToIndex_8c36e_11 : decode cJ3_checkFromToIndex_8c36e 11 = .ok (.if_icmp .le 11, 3) := by decide +kernel
theorem dJ3_checkFromToIndex_8c36e_14 : decode cJ3_checkFromToIndex_8c36e 14 = .ok (.aload_n 3, 1) := by decide +kernel
theorem dJ3_checkFromToIndex_8c36e_15 : decode cJ3_checkFromToIndex_8c36e 15 = .ok (.iload_n 0, 1) := by decide +kernel
theorem dJ3_checkFromToIndex_8c36e_16 : decode cJ3_checkFromToIndex_8c36e 16 = .ok (.iload_n 1, 1) := by decide +kernel
theorem dJ3_checkFromToIndex_8c36e_17 : decode cJ3_checkFromToIndex_8c36e 17 = .ok (.iload_n 2, 1) := by decide +kernel
theorem dJ3_checkFromToIndex_8c36e_18 : decode cJ3_checkFromToIndex_8c36e 18 = .ok (.invokestatic 99, 3) := by decide +kernel
theorem dJ3_checkFromToIndex_8c36e_21 : decode cJ3_checkFromToIndex_8c36e 21 = .ok (.athrow, 1) := by decide +kernel
theorem dJ3_checkFromToIndex_8c36e_22 : decode cJ3_checkFromToIndex_8c36e 22 = .ok (.iload_n 0, 1) := by decide +kernel
theorem dJ3_checkFromToIndex_8c36e_23 : decode cJ3_checkFromToIndex_8c36e 23 = .ok (.ireturn, 1) := by decide +kernel
