theorem dX4_readToken_75 : decode cX4_readToken 75 = .ok (.aload_n 0, 1) := by decide +kernel
theorem dX4_readToken_76 : decode cX4_readToken 76 = .ok (.invokevirtual 101, 3) := by decide +kernel
theorem dX4_readToken_79 : decode cX4_readToken 79 = .ok (.goto 40, 3) := by decide +kernel
theorem dX4_readToken_82 : decode cX4_readToken 82 = .ok (.iload_n 1, 1) := by decide +kernel
theorem dX4_readToken_83 : decode cX4_readToken 83 = .ok (.bipush 59, 2) := by decide +kernel
theorem dX4_readToken_85 : decode cX4_readToken 85 = .ok (.if_icmp .ne 21, 3) := by decide +kernel
theorem dX4_readToken_88 : decode cX4_readToken 88 = .ok (.aload_n 0, 1) := by decide +kernel
theorem dX4_readToken_89 : decode cX4_readToken 89 = .ok (.dup, 1) := by decide +kernel
theorem dX4_readToken_90 : decode cX4_readToken 90 = .ok (.getfield 24, 3) := by decide +kernel
theorem dX4_readToken_93 : decode cX4_readToken 93 = .ok (.iconst 1, 1) := by decide +kernel
theorem dX4_readToken_94 : decode cX4_readToken 94 = .ok (.iadd, 1) := by decide +kernel
theorem dX4_readToken_95 : decode cX4_readToken 95 = .ok (.putfield 24, 3) := by decide +kernel
theorem dX4_readToken_98 : decode cX4_readToken 98 = .ok (.aload_n 0, 1) := by decide +kernel
theorem dX4_readToken_99 : decode cX4_readToken 99 = .ok (.iconst 3, 1) := by decide +kernel
theorem dX4_readToken_100 : decode cX4_readToken 100 = .ok (.putfield 37, 3) := by decide +kernel
theorem dX4_readToken_103 : decode cX4_readToken 103 = .ok (.goto 16, 3) := by decide +kernel
theorem dX4_readToken_106 : decode cX4_readToken 106 = .ok (.aload_n 0, 1) := by decide +kernel
theorem dX4_readToken_107 : decode cX4_readToken 107 = .ok (.iload_n 1, 1) := by decide +kernel
theorem dX4_readToken_108 : decode cX4_readToken 108 = .ok (.ifCond .ge 7, 3) := by decide +kernel
theorem dX4_readToken_111 : decode cX4_readToken 111 = .ok (.iconst 0, 1) := by decide +kernel
theorem dX4_readToken_112 : decode cX4_readToken 112 = .ok (.goto 4, 3) := by decide +kernel
theorem dX4_readToken_115 : decode cX4_readToken 115 = .ok (.iconst 4, 1) := by decide +kernel
theorem dX4_readToken_116 : decode cX4_readToken 116 = .ok (.putfield 37, 3) := by decide +kernel
theorem dX4_readToken_119 : decode cX4_readToken 119 = .ok (.return_, 1) := by decide +kernel
theorem dX4_readLetters_0 : decode cX4_readLetters 0 = .ok (.aload_n 0, 1) := by decide +kernel
theorem dX4_readLetters_1 : decode cX4_readLetters 1 = .ok (.getfield 24, 3) := by decide +kernel
theorem dX4_readLetters_4 : decode cX4_readLetters 4 = .ok (.aload_n 0, 1) := by decide +kernel
theorem dX4_readLetters_5 : decode cX4_readLetters 5 = .ok (.getfield 15, 3) := by decide +kernel
theorem dX4_readLetters_8 : decode cX4_readLetters 8 = .ok (.if_icmp .ge 30, 3) := by decide +kernel
theorem dX4_readLetters_11 : decode cX4_readLetters 11 = .ok (.aload_n 0, 1) := by decide +kernel
theorem dX4_readLetters_12 : decode cX4_readLetters 12 = .ok (.aload_n 0, 1) := by decide +kernel
theorem dX4_readLetters_13 : decode cX4_readLetters 13 = .ok (.getfield 24, 3) := by decide +kernel
theorem dX4_readLetters_16 : decode cX4_readLetters 16 = .ok (.invokevirtual 88, 3) := by decide +kernel
theorem dX4_readLetters_19 : decode cX4_readLetters 19 = .ok (.invokestatic 92, 3) := by decide +kernel
theorem dX4_readLetters_22 : decode cX4_readLetters 22 = .ok (.ifCond .eq 16, 3) := by decide +kernel
theorem dX4_readLetters_25 : decode cX4_readLetters 25 = .ok (.aload_n 0, 1) := by decide +kernel
theorem dX4_readLetters_26 : decode cX4_readLetters 26 = .ok (.dup, 1) := by decide +kernel
theorem dX4_readLetters_27 : decode cX4_readLetters 27 = .ok (.getfield 24, 3) := by decide +kernel
theorem dX4_readLetters_30 : decode cX4_readLetters 30 = .ok (.iconst 1, 1) := by decide +kernel
theorem dX4_readLetters_31 : decode cX4_readLetters 31 = .ok (.iadd, 1) := by decide +kernel
theorem dX4_readLetters_32 : decode cX4_readLetters 32 = .ok (.putfield 24, 3) := by decide +kernel
theorem dX4_readLetters_35 : decode cX4_readLetters 35 = .ok (.goto (-35), 3) := by decide +kernel
theorem dX4_readLetters_38 : decode cX4_readLetters 38 = .ok (.aload_n 0, 1) := by decide +kernel
theorem dX4_readLetters_39 : decode cX4_readLetters 39 = .ok (.iconst 1, 1) := by decide +kernel
theorem dX4_readLetters_40 : decode cX4_readLetters 40 = .ok (.putfield 37, 3) := by decide +kernel
theorem dX4_readLetters_43 : decode cX4_readLetters 43 = .ok (.aload_n 0, 1) := by decide +kernel
theorem dX4_readLetters_44 : decode cX4_readLetters 44 = .ok (.aload_n 0, 1) := by decide +kernel
theorem dX4_readLetters_45 : decode cX4_readLetters 45 = .ok (.getfield 24, 3) := by decide +kernel
theorem dX4_readLetters_48 : decode cX4_readLetters 48 = .ok (.aload_n 0, 1) := by decide +kernel
theorem dX4_readLetters_49 : decode cX4_readLetters 49 = .ok (.getfield 59, 3) := by decide +kernel
theorem dX4_readLetters_52 : decode cX4_readLetters 52 = .ok (.isub, 1) := by decide +kernel
theorem dX4_readLetters_53 : decode cX4_readLetters 53 = .ok (.iconst 1, 1) := by decide +kernel
theorem dX4_readLetters_54 : decode cX4_readLetters 54 = .ok (.if_icmp .ne 14, 3) := by decide +kernel
theorem dX4_readLetters_57 : decode cX4_readLetters 57 = .ok (.aload_n 0, 1) := by decide +kernel
theorem dX4_readLetters_58 : decode cX4_readLetters 58 = .ok (.aload_n 0, 1) := by decide +kernel
theorem dX4_readLetters_59 : decode cX4_readLetters 59 = .ok (.getfield 59, 3) := by decide +kernel
theorem dX4_readLetters_62 : decode cX4_readLetters 62 = .ok (.invokevirtual 88, 3) := by decide +kernel
theorem dX4_readLetters_65 : decode cX4_readLetters 65 = .ok (.goto 4, 3) := by decide +kernel
theorem dX4_readLetters_68 : decode cX4_readLetters 68 = .ok (.iconst 0, 1) := by decide +kernel
theorem dX4_readLetters_69 : decode cX4_readLetters 69 = .ok (.putfield 40, 3) := by decide +kernel
theorem dX4_readLetters_72 : decode cX4_readLetters 72 = .ok (.return_, 1) := by decide +kernel
theorem dX4_readFigures_0 : decode cX4_readFigures 0 = .ok (.aload_n 0, 1) := by decide +kernel
theorem dX4_readFigures_1 : decode cX4_readFigures 1 = .ok (.iconst 0, 1) := by decide +kernel
theorem dX4_readFigures_2 : decode cX4_readFigures 2 = .ok (.putfield 40, 3) := by decide +kernel
theorem dX4_readFigures_5 : decode cX4_readFigures 5 = .ok (.aload_n 0, 1) := by decide +kernel
theorem dX4_readFigures_6 : decode cX4_readFigures 6 = .ok (.getfield 24, 3) := by decide +kernel
theorem dX4_readFigures_9 : decode cX4_readFigures 9 = .ok (.aload_n 0, 1) := by decide +kernel
theorem dX4_readFigures_10 : decode cX4_readFigures 10 = .ok (.getfield 15, 3) := by decide +kernel
theorem dX4_readFigures_13 : decode cX4_readFigures 13 = .ok (.if_icmp .ge 58, 3) := by decide +kernel
theorem dX4_readFigures_16 : decode cX4_readFigures 16 = .ok (.aload_n 0, 1) := by decide +kernel
theorem dX4_readFigures_17 : decode cX4_readFigures 17 = .ok (.aload_n 0, 1) := by decide +kernel
theorem dX4_readFigures_18 : decode cX4_readFigures 18 = .ok (.getfield 24, 3) := by decide +kernel
theorem dX4_readFigures_21 : decode cX4_readFigures 21 = .ok (.invokevirtual 88, 3) := by decide +kernel
theorem dX4_readFigures_24 : decode cX4_readFigures 24 = .ok (.invokestatic 98, 3) := by decide +kernel
theorem dX4_readFigures_27 : decode cX4_readFigures 27 = .ok (.ifCond .eq 44, 3) := by decide +kernel
theorem dX4_readFigures_30 : decode cX4_readFigures 30 = .ok (.aload_n 0, 1) := by decide +kernel
theorem dX4_readFigures_31 : decode cX4_readFigures 31 = .ok (.aload_n 0, 1) := by decide +kernel
theorem dX4_readFigures_32 : decode cX4_readFigures 32 = .ok (.getfield 40, 3) := by decide +kernel
theorem dX4_readFigures_35 : decode cX4_readFigures 35 = .ok (.bipush 10, 2) := by decide +kernel
theorem dX4_readFigures_37 : decode cX4_readFigures 37 = .ok (.imul, 1) := by decide +kernel
theorem dX4_readFigures_38 : decode cX4_readFigures 38 = .ok (.aload_n 0, 1) := by decide +kernel
theorem dX4_readFigures_39 : decode cX4_readFigures 39 = .ok (.aload_n 0, 1) := by decide +kernel
theorem dX4_readFigures_40 : decode cX4_readFigures 40 = .ok (.getfield 24, 3) := by decide +kernel
theorem dX4_readFigures_43 : decode cX4_readFigures 43 = .ok (.invokevirtual 88, 3) := by decide +kernel
theorem dX4_readFigures_46 : decode cX4_readFigures 46 = .ok (.iadd, 1) := by decide +kernel
theorem dX4_readFigures_47 : decode cX4_readFigures 47 = .ok (.bipush 48, 2) := by decide +kernel
theorem dX4_readFigures_49 : decode cX4_readFigures 49 = .ok (.isub, 1) := by decide +kernel
theorem dX4_readFigures_50 : decode cX4_readFigures 50 = .ok (.bipush 100, 2) := by decide +kernel
theorem dX4_readFigures_52 : decode cX4_readFigures 52 = .ok (.invokestatic 104, 3) := by decide +kernel
theorem dX4_readFigures_55 : decode cX4_readFigures 55 = .ok (.putfield 40, 3) := by decide +kernel
theorem dX4_readFigures_58 : decode cX4_readFigures 58 = .ok (.aload_n 0, 1) := by decide +kernel
theorem dX4_readFigures_59 : decode cX4_readFigures 59 = .ok (.dup, 1) := by decide +kernel
theorem dX4_readFigures_60 : decode cX4_readFigures 60 = .ok (.getfield 24, 3) := by decide +kernel
theorem dX4_readFigures_63 : decode cX4_readFigures 63 = .ok (.iconst 1, 1) := by decide +kernel
theorem dX4_readFigures_64 : decode cX4_readFigures 64 = .ok (.iadd, 1) := by decide +kernel
theorem dX4_readFigures_65 : decode cX4_readFigures 65 = .ok (.putfield 24, 3) := by decide +kernel
theorem dX4_readFigures_68 : decode cX4_readFigures 68 = .ok (.goto (-63), 3) := by decide +kernel
theorem dX4_readFigures_71 : decode cX4_readFigures 71 = .ok (.aload_n 0, 1) := by decide +kernel
theorem dX4_readFigures_72 : decode cX4_readFigures 72 = .ok (.getfield 24, 3) := by decide +kernel
theorem dX4_readFigures_75 : decode cX4_readFigures 75 = .ok (.aload_n 0, 1) := by decide +kernel
theorem dX4_readFigures_76 : decode cX4_readFigures 76 = .ok (.getfield 59, 3) := by decide +kernel
theorem dX4_readFigures_79 : decode cX4_readFigures 79 = .ok (.isub, 1) := by decide +kernel
theorem dX4_readFigures_80 : decode cX4_readFigures 80 = .ok (.iconst 1, 1) := by decide +kernel
theorem dX4_readFigures_81 : decode cX4_readFigures 81 = .ok (.if_icmp .le 20, 3) := by decide +kernel
theorem dX4_readFigures_84 : decode cX4_readFigures 84 = .ok (.aload_n 0, 1) := by decide +kernel
theorem dX4_readFigures_85 : decode cX4_readFigures 85 = .ok (.aload_n 0, 1) := by decide +kernel
theorem dX4_readFigures_86 : decode cX4_readFigures 86 = .ok (.getfield 59, 3) := by decide +kernel
theorem dX4_readFigures_89 : decode cX4_readFigures 89 = .ok (.invokevirtual 88, 3) := by decide +kernel
theorem dX4_readFigures_92 : decode cX4_readFigures 92 = .ok (.bipush 48, 2) := by decide +kernel
theorem dX4_readFigures_94 : decode cX4_readFigures 94 = .ok (.if_icmp .ne 7, 3) := by decide +kernel
theorem dX4_readFigures_97 : decode cX4_readFigures 97 = .ok (.iconst 1, 1) := by decide +kernel
theorem dX4_readFigures_98 : decode cX4_readFigures 98 = .ok (.goto 4, 3) := by decide +kernel
theorem dX4_readFigures_101 : decode cX4_readFigures 101 = .ok (.iconst 0, 1) := by decide +kernel
theorem dX4_readFigures_102 : decode cX4_readFigures 102 = .ok (.istore_n 1, 1) := by decide +kernel
theorem dX4_readFigures_103 : decode cX4_readFigures 103 = .ok (.aload_n 0, 1) := by decide +kernel
theorem dX4_readFigures_104 : decode cX4_readFigures 104 = .ok (.iload_n 1, 1) := by decide +kernel
theorem dX4_readFigures_105 : decode cX4_readFigures 105 = .ok (.ifCond .ne 12, 3) := by decide +kernel
theorem dX4_readFigures_108 : decode cX4_readFigures 108 = .ok (.aload_n 0, 1) := by decide +kernel
theorem dX4_readFigures_109 : decode cX4_readFigures 109 = .ok (.getfield 40, 3) := by decide +kernel
theorem dX4_readFigures_112 : decode cX4_readFigures 112 = .ok (.bipush 99, 2) := by decide +kernel
theorem dX4_readFigures_114 : decode cX4_readFigures 114 = .ok (.if_icmp .le 7, 3) := by decide +kernel
theorem dX4_readFigures_117 : decode cX4_readFigures 117 = .ok (.iconst 4, 1) := by decide +kernel
theorem dX4_readFigures_118 : decode cX4_readFigures 118 = .ok (.goto 4, 3) := by decide +kernel
theorem dX4_readFigures_121 : decode cX4_readFigures 121 = .ok (.iconst 2, 1) := by decide +kernel
theorem dX4_readFigures_122 : decode cX4_readFigures 122 = .ok (.putfield 37, 3) := by decide +kernel
theorem dX4_readFigures_125 : decode cX4_readFigures 125 = .ok (.return_, 1) := by decide +kernel
theorem dX4_byteAt_0 : decode cX4_byteAt 0 = .ok (.iload_n 1, 1) := by decide +kernel
theorem dX4_byteAt_1 : decode cX4_byteAt 1 = .ok (.ifCond .lt 26, 3) := by decide +kernel
theorem dX4_byteAt_4 : decode cX4_byteAt 4 = .ok (.iload_n 1, 1) := by decide +kernel
theorem dX4_byteAt_5 : decode cX4_byteAt 5 = .ok (.aload_n 0, 1) := by decide +kernel
theorem dX4_byteAt_6 : decode cX4_byteAt 6 = .ok (.getfield 15, 3) := by decide +kernel
theorem dX4_byteAt_9 : decode cX4_byteAt 9 = .ok (.if_icmp .ge 18, 3) := by decide +kernel
theorem dX4_byteAt_12 : decode cX4_byteAt 12 = .ok (.iload_n 1, 1) := by decide +kernel
theorem dX4_byteAt_13 : decode cX4_byteAt 13 = .ok (.bipush 120, 2) := by decide +kernel
theorem dX4_byteAt_15 : decode cX4_byteAt 15 = .ok (.if_icmp .ge 12, 3) := by decide +kernel
theorem dX4_byteAt_18 : decode cX4_byteAt 18 = .ok (.aload_n 0, 1) := by decide +kernel
theorem dX4_byteAt_19 : decode cX4_byteAt 19 = .ok (.getfield 11, 3) := by decide +kernel
theorem dX4_byteAt_22 : decode cX4_byteAt 22 = .ok (.iload_n 1, 1) := by decide +kernel
theorem dX4_byteAt_23 : decode cX4_byteAt 23 = .ok (.iaload, 1) := by decide +kernel
theorem dX4_byteAt_24 : decode cX4_byteAt 24 = .ok (.goto 4, 3) := by decide +kernel
theorem dX4_byteAt_27 : decode cX4_byteAt 27 = .ok (.iconst (-1), 1) := by decide +kernel
theorem dX4_byteAt_28 : decode cX4_byteAt 28 = .ok (.ireturn, 1) := by decide +kernel
theorem dX4_isLetter_0 : decode cX4_isLetter 0 = .ok (.iload_n 0, 1) := by decide +kernel
theorem dX4_isLetter_1 : decode cX4_isLetter 1 = .ok (.bipush 97, 2) := by decide +kernel
theorem dX4_isLetter_3 : decode cX4_isLetter 3 = .ok (.if_icmp .lt 13, 3) := by decide +kernel
theorem dX4_isLetter_6 : decode cX4_isLetter 6 = .ok (.iload_n 0, 1) := by decide +kernel
theorem dX4_isLetter_7 : decode cX4_isLetter 7 = .ok (.bipush 122, 2) := by decide +kernel
theorem dX4_isLetter_9 : decode cX4_isLetter 9 = .ok (.if_icmp .gt 7, 3) := by decide +kernel
theorem dX4_isLetter_12 : decode cX4_isLetter 12 = .ok (.iconst 1, 1) := by decide +kernel
theorem dX4_isLetter_13 : decode cX4_isLetter 13 = .ok (.goto 4, 3) := by decide +kernel
theorem dX4_isLetter_16 : decode cX4_isLetter 16 = .ok (.iconst 0, 1) := by decide +kernel
theorem dX4_isLetter_17 : decode cX4_isLetter 17 = .ok (.ireturn, 1) := by decide +kernel
theorem dX4_isFigure_0 : decode cX4_isFigure 0 = .ok (.iload_n 0, 1) := by decide +kernel
theorem dX4_isFigure_1 : decode cX4_isFigure 1 = .ok (.bipush 48, 2) := by decide +kernel
theorem dX4_isFigure_3 : decode cX4_isFigure 3 = .ok (.if_icmp .lt 13, 3) := by decide +kernel
theorem dX4_isFigure_6 : decode cX4_isFigure 6 = .ok (.iload_n 0, 1) := by decide +kernel
theorem dX4_isFigure_7 : decode cX4_isFigure 7 = .ok (.bipush 57, 2) := by decide +kernel
theorem dX4_isFigure_9 : decode cX4_isFigure 9 = .ok (.if_icmp .gt 7, 3) := by decide +kernel
theorem dX4_isFigure_12 : decode cX4_isFigure 12 = .ok (.iconst 1, 1) := by decide +kernel
theorem dX4_isFigure_13 : decode cX4_isFigure 13 = .ok (.goto 4, 3) := by decide +kernel
theorem dX4_isFigure_16 : decode cX4_isFigure 16 = .ok (.iconst 0, 1) := by decide +kernel
theorem dX4_isFigure_17 : decode cX4_isFigure 17 = .ok (.ireturn, 1) := by decide +kernel
theorem dX5_init_0 : decode cX5_init 0 = .ok (.aload_n 0, 1) := by decide +kernel
theorem dX5_init_1 : decode cX5_init 1 = .ok (.invokespecial 3, 3) := by decide +kernel
theorem dX5_init_4 : decode cX5_init 4 = .ok (.aload_n 0, 1) := by decide +kernel
theorem dX5_init_5 : decode cX5_init 5 = .ok (.aload_n 1, 1) := by decide +kernel
theorem dX5_init_6 : decode cX5_init 6 = .ok (.putfield 9, 3) := by decide +kernel
theorem dX5_init_9 : decode cX5_init 9 = .ok (.return_, 1) := by decide +kernel
theorem dX5_run_0 : decode cX5_run 0 = .ok (.aload_n 0, 1) := by decide +kernel
theorem dX5_run_1 : decode cX5_run 1 = .ok (.iload_n 1, 1) := by decide +kernel
theorem dX5_run_2 : decode cX5_run 2 = .ok (.putfield 15, 3) := by decide +kernel
theorem dX5_run_5 : decode cX5_run 5 = .ok (.aload_n 0, 1) := by decide +kernel
theorem dX5_run_6 : decode cX5_run 6 = .ok (.iconst 0, 1) := by decide +kernel
theorem dX5_run_7 : decode cX5_run 7 = .ok (.putfield 19, 3) := by decide +kernel
theorem dX5_run_10 : decode cX5_run 10 = .ok (.aload_n 0, 1) := by decide +kernel
theorem dX5_run_11 : decode cX5_run 11 = .ok (.bipush (-9), 2) := by decide +kernel
theorem dX5_run_13 : decode cX5_run 13 = .ok (.putfield 22, 3) := by decide +kernel
theorem dX5_run_16 : decode cX5_run 16 = .ok (.aload_n 0, 1) := by decide +kernel
theorem dX5_run_17 : decode cX5_run 17 = .ok (.iconst 0, 1) := by decide +kernel
theorem dX5_run_18 : decode cX5_run 18 = .ok (.putfield 25, 3) := by decide +kernel
theorem dX5_run_21 : decode cX5_run 21 = .ok (.iload_n 2, 1) := by decide +kernel
theorem dX5_run_22 : decode cX5_run 22 = .ok (.iconst 0, 1) := by decide +kernel
theorem dX5_run_23 : decode cX5_run 23 = .ok (.invokestatic 29, 3) := by decide +kernel
theorem dX5_run_26 : decode cX5_run 26 = .ok (.istore 4, 2) := by decide +kernel
theorem dX5_run_28 : decode cX5_run 28 = .ok (.iconst 0, 1) := by decide +kernel
theorem dX5_run_29 : decode cX5_run 29 = .ok (.istore 5, 2) := by decide +kernel
theorem dX5_run_31 : decode cX5_run 31 = .ok (.iload 5, 2) := by decide +kernel
theorem dX5_run_33 : decode cX5_run 33 = .ok (.iload_n 3, 1) := by decide +kernel
theorem dX5_run_34 : decode cX5_run 34 = .ok (.if_icmp .ge 70, 3) := by decide +kernel
theorem dX5_run_37 : decode cX5_run 37 = .ok (.iload 4, 2) := by decide +kernel
theorem dX5_run_39 : decode cX5_run 39 = .ok (.bipush (-9), 2) := by decide +kernel
theorem dX5_run_41 : decode cX5_run 41 = .ok (.if_icmp .eq 63, 3) := by decide +kernel
theorem dX5_run_44 : decode cX5_run 44 = .ok (.aload_n 0, 1) := by decide +kernel
theorem dX5_run_45 : decode cX5_run 45 = .ok (.getfield 9, 3) := by decide +kernel
theorem dX5_run_48 : decode cX5_run 48 = .ok (.iload 4, 2) := by decide +kernel
theorem dX5_run_50 : decode cX5_run 50 = .ok (.aload_n 0, 1) := by decide +kernel
theorem dX5_run_51 : decode cX5_run 51 = .ok (.getfield 15, 3) := by decide +kernel
theorem dX5_run_54 : decode cX5_run 54 = .ok (.invokevirtual 33, 3) := by decide +kernel
theorem dX5_run_57 : decode cX5_run 57 = .ok (.istore 6, 2) := by decide +kernel
theorem dX5_run_59 : decode cX5_run 59 = .ok (.iload 6, 2) := by decide +kernel
theorem dX5_run_61 : decode cX5_run 61 = .ok (.iconst (-1), 1) := by decide +kernel
theorem dX5_run_62 : decode cX5_run 62 = .ok (.if_icmp .ne 10, 3) := by decide +kernel
theorem dX5_run_65 : decode cX5_run 65 = .ok (.aload_n 0, 1) := by decide +kernel
theorem dX5_run_66 : decode cX5_run 66 = .ok (.iload 4, 2) := by decide +kernel
theorem dX5_run_68 : decode cX5_run 68 = .ok (.putfield 22, 3) := by decide +kernel
theorem dX5_run_71 : decode cX5_run 71 = .ok (.return_, 1) := by decide +kernel
theorem dX5_run_72 : decode cX5_run 72 = .ok (.aload_n 0, 1) := by decide +kernel
theorem dX5_run_73 : decode cX5_run 73 = .ok (.iload 6, 2) := by decide +kernel
theorem dX5_run_75 : decode cX5_run 75 = .ok (.putfield 15, 3) := by decide +kernel
theorem dX5_run_78 : decode cX5_run 78 = .ok (.aload_n 0, 1) := by decide +kernel
theorem dX5_run_79 : decode cX5_run 79 = .ok (.dup, 1) := by decide +kernel
theorem dX5_run_80 : decode cX5_run 80 = .ok (.getfield 19, 3) := by decide +kernel
theorem dX5_run_83 : decode cX5_run 83 = .ok (.iconst 1, 1) := by decide +kernel
theorem dX5_run_84 : decode cX5_run 84 = .ok (.iadd, 1) := by decide +kernel
theorem dX5_run_85 : decode cX5_run 85 = .ok (.putfield 19, 3) := by decide +kernel
theorem dX5_run_88 : decode cX5_run 88 = .ok (.iload_n 2, 1) := by decide +kernel
theorem dX5_run_89 : decode cX5_run 89 = .ok (.iload 4, 2) := by decide +kernel
theorem dX5_run_91 : decode cX5_run 91 = .ok (.iconst 1, 1) := by decide +kernel
theorem dX5_run_92 : decode cX5_run 92 = .ok (.iadd, 1) := by decide +kernel
theorem dX5_run_93 : decode cX5_run 93 = .ok (.invokestatic 29, 3) := by decide +kernel
theorem dX5_run_96 : decode cX5_run 96 = .ok (.istore 4, 2) := by decide +kernel
theorem dX5_run_98 : decode cX5_run 98 = .ok (.iinc 5 1, 3) := by decide +kernel
theorem dX5_run_101 : decode cX5_run 101 = .ok (.goto (-70), 3) := by decide +kernel
theorem dX5_run_104 : decode cX5_run 104 = .ok (.aload_n 0, 1) := by decide +kernel
theorem dX5_run_105 : decode cX5_run 105 = .ok (.iload 4, 2) := by decide +kernel
theorem dX5_run_107 : decode cX5_run 107 = .ok (.bipush (-9), 2) := by decide +kernel
theorem dX5_run_109 : decode cX5_run 109 = .ok (.if_icmp .eq 7, 3) := by decide +kernel
theorem dX5_run_112 : decode cX5_run 112 = .ok (.iconst 1, 1) := by decide +kernel
theorem dX5_run_113 : decode cX5_run 113 = .ok (.goto 4, 3) := by decide +kernel
theorem dX5_run_116 : decode cX5_run 116 = .ok (.iconst 0, 1) := by decide +kernel
theorem dX5_run_117 : decode cX5_run 117 = .ok (.putfield 25, 3) := by decide +kernel
theorem dX5_run_120 : decode cX5_run 120 = .ok (.return_, 1) := by decide +kernel
theorem dX5_runToEnd_0 : decode cX5_runToEnd 0 = .ok (.aload_n 0, 1) := by decide +kernel
theorem dX5_runToEnd_1 : decode cX5_runToEnd 1 = .ok (.iload_n 1, 1) := by decide +kernel
theorem dX5_runToEnd_2 : decode cX5_runToEnd 2 = .ok (.iload_n 2, 1) := by decide +kernel
theorem dX5_runToEnd_3 : decode cX5_runToEnd 3 = .ok (.aload_n 0, 1) := by decide +kernel
theorem dX5_runToEnd_4 : decode cX5_runToEnd 4 = .ok (.getfield 9, 3) := by decide +kernel
theorem dX5_runToEnd_7 : decode cX5_runToEnd 7 = .ok (.getfield 38, 3) := by decide +kernel
theorem dX5_runToEnd_10 : decode cX5_runToEnd 10 = .ok (.aload_n 0, 1) := by decide +kernel
theorem dX5_runToEnd_11 : decode cX5_runToEnd 11 = .ok (.getfield 9, 3) := by decide +kernel
theorem dX5_runToEnd_14 : decode cX5_runToEnd 14 = .ok (.getfield 41, 3) := by decide +kernel
theorem dX5_runToEnd_17 : decode cX5_runToEnd 17 = .ok (.imul, 1) := by decide +kernel
theorem dX5_runToEnd_18 : decode cX5_runToEnd 18 = .ok (.invokevirtual 44, 3) := by decide +kernel
theorem dX5_runToEnd_21 : decode cX5_runToEnd 21 = .ok (.return_, 1) := by decide +kernel
theorem dX5_reaches_0 : decode cX5_reaches 0 = .ok (.aload_n 0, 1) := by decide +kernel
theorem dX5_reaches_1 : decode cX5_reaches 1 = .ok (.iload_n 1, 1) := by decide +kernel
theorem dX5_reaches_2 : decode cX5_reaches 2 = .ok (.iload_n 2, 1) := by decide +kernel
theorem dX5_reaches_3 : decode cX5_reaches 3 = .ok (.iload_n 3, 1) := by decide +kernel
theorem dX5_reaches_4 : decode cX5_reaches 4 = .ok (.invokevirtual 44, 3) := by decide +kernel
theorem dX5_reaches_7 : decode cX5_reaches 7 = .ok (.aload_n 0, 1) := by decide +kernel
theorem dX5_reaches_8 : decode cX5_reaches 8 = .ok (.getfield 19, 3) := by decide +kernel
theorem dX5_reaches_11 : decode cX5_reaches 11 = .ok (.iload_n 3, 1) := by decide +kernel
theorem dX5_reaches_12 : decode cX5_reaches 12 = .ok (.if_icmp .lt 7, 3) := by decide +kernel
theorem dX5_reaches_15 : decode cX5_reaches 15 = .ok (.iconst 1, 1) := by decide +kernel
theorem dX5_reaches_16 : decode cX5_reaches 16 = .ok (.goto 4, 3) := by decide +kernel
theorem dX5_reaches_19 : decode cX5_reaches 19 = .ok (.iconst 0, 1) := by decide +kernel
theorem dX5_reaches_20 : decode cX5_reaches 20 = .ok (.ireturn, 1) := by decide +kernel
theorem dX5_longestBook_0 : decode cX5_longestBook 0 = .ok (.bipush (-9), 2) := by decide +kernel
theorem dX5_longestBook_2 : decode cX5_longestBook 2 = .ok (.istore_n 2, 1) := by decide +kernel
theorem dX5_longestBook_3 : decode cX5_longestBook 3 = .ok (.iconst (-1), 1) := by decide +kernel
theorem dX5_longestBook_4 : decode cX5_longestBook 4 = .ok (.istore_n 3, 1) := by decide +kernel
theorem dX5_longestBook_5 : decode cX5_longestBook 5 = .ok (.iconst 0, 1) := by decide +kernel
theorem dX5_longestBook_6 : decode cX5_longestBook 6 = .ok (.istore 4, 2) := by decide +kernel
theorem dX5_longestBook_8 : decode cX5_longestBook 8 = .ok (.iload 4, 2) := by decide +kernel
theorem dX5_longestBook_10 : decode cX5_longestBook 10 = .ok (.aload_n 0, 1) := by decide +kernel
theorem dX5_longestBook_11 : decode cX5_longestBook 11 = .ok (.getfield 9, 3) := by decide +kernel
theorem dX5_longestBook_14 : decode cX5_longestBook 14 = .ok (.getfield 38, 3) := by decide +kernel
theorem dX5_longestBook_17 : decode cX5_longestBook 17 = .ok (.if_icmp .ge 42, 3) := by decide +kernel
theorem dX5_longestBook_20 : decode cX5_longestBook 20 = .ok (.aload_n 0, 1) := by decide +kernel
theorem dX5_longestBook_21 : decode cX5_longestBook 21 = .ok (.iload 4, 2) := by decide +kernel
theorem dX5_longestBook_23 : decode cX5_longestBook 23 = .ok (.iload_n 1, 1) := by decide +kernel
theorem dX5_longestBook_24 : decode cX5_longestBook 24 = .ok (.invokevirtual 48, 3) := by decide +kernel
theorem dX5_longestBook_27 : decode cX5_longestBook 27 = .ok (.aload_n 0, 1) := by decide +kernel
theorem dX5_longestBook_28 : decode cX5_longestBook 28 = .ok (.getfield 25, 3) := by decide +kernel
theorem dX5_longestBook_31 : decode cX5_longestBook 31 = .ok (.ifCond .eq 6, 3) := by decide +kernel
theorem dX5_longestBook_34 : decode cX5_longestBook 34 = .ok (.bipush (-9), 2) := by decide +kernel
theorem dX5_longestBook_36 : decode cX5_longestBook 36 = .ok (.ireturn, 1) := by decide +kernel
theorem dX5_longestBook_37 : decode cX5_longestBook 37 = .ok (.aload_n 0, 1) := by decide +kernel
theorem dX5_longestBook_38 : decode cX5_longestBook 38 = .ok (.getfield 19, 3) := by decide +kernel
theorem dX5_longestBook_41 : decode cX5_longestBook 41 = .ok (.iload_n 3, 1) := by decide +kernel
theorem dX5_longestBook_42 : decode cX5_longestBook 42 = .ok (.if_icmp .le 11, 3) := by decide +kernel
theorem dX5_longestBook_45 : decode cX5_longestBook 45 = .ok (.aload_n 0, 1) := by decide +kernel
theorem dX5_longestBook_46 : decode cX5_longestBook 46 = .ok (.getfield 19, 3) := by decide +kernel
theorem dX5_longestBook_49 : decode cX5_longestBook 49 = .ok (.istore_n 3, 1) := by decide +kernel
theorem dX5_longestBook_50 : decode cX5_longestBook 50 = .ok (.iload 4, 2) := by decide +kernel
theorem dX5_longestBook_52 : decode cX5_longestBook 52 = .ok (.istore_n 2, 1) := by decide +kernel
theorem dX5_longestBook_53 : decode cX5_longestBook 53 = .ok (.iinc 4 1, 3) := by decide +kernel
theorem dX5_longestBook_56 : decode cX5_longestBook 56 = .ok (.goto (-48), 3) := by decide +kernel
theorem dX5_longestBook_59 : decode cX5_longestBook 59 = .ok (.iload_n 2, 1) := by decide +kernel
theorem dX5_longestBook_60 : decode cX5_longestBook 60 = .ok (.ireturn, 1) := by decide +kernel
theorem dX5_fewestToBuy_0 : decode cX5_fewestToBuy 0 = .ok (.iconst 0, 1) := by decide +kernel
theorem dX5_fewestToBuy_1 : decode cX5_fewestToBuy 1 = .ok (.istore 5, 2) := by decide +kernel
theorem dX5_fewestToBuy_3 : decode cX5_fewestToBuy 3 = .ok (.iload 5, 2) := by decide +kernel
theorem dX5_fewestToBuy_5 : decode cX5_fewestToBuy 5 = .ok (.bipush 6, 2) := by decide +kernel
theorem dX5_fewestToBuy_7 : decode cX5_fewestToBuy 7 = .ok (.if_icmp .gt 61, 3) := by decide +kernel
theorem dX5_fewestToBuy_10 : decode cX5_fewestToBuy 10 = .ok (.iconst 0, 1) := by decide +kernel
theorem dX5_fewestToBuy_11 : decode cX5_fewestToBuy 11 = .ok (.istore 6, 2) := by decide +kernel
theorem dX5_fewestToBuy_13 : decode cX5_fewestToBuy 13 = .ok (.iload 6, 2) := by decide +kernel
theorem dX5_fewestToBuy_15 : decode cX5_fewestToBuy 15 = .ok (.bipush 64, 2) := by decide +kernel
theorem dX5_fewestToBuy_17 : decode cX5_fewestToBuy 17 = .ok (.if_icmp .ge 45, 3) := by decide +kernel
theorem dX5_fewestToBuy_20 : decode cX5_fewestToBuy 20 = .ok (.iload 6, 2) := by decide +kernel
theorem dX5_fewestToBuy_22 : decode cX5_fewestToBuy 22 = .ok (.invokestatic 52, 3) := by decide +kernel
theorem dX5_fewestToBuy_25 : decode cX5_fewestToBuy 25 = .ok (.iload 5, 2) := by decide +kernel
theorem dX5_fewestToBuy_27 : decode cX5_fewestToBuy 27 = .ok (.if_icmp .ne 29, 3) := by decide +kernel
theorem dX5_fewestToBuy_30 : decode cX5_fewestToBuy 30 = .ok (.iload 6, 2) := by decide +kernel
theorem dX5_fewestToBuy_32 : decode cX5_fewestToBuy 32 = .ok (.iload_n 3, 1) := by decide +kernel
theorem dX5_fewestToBuy_33 : decode cX5_fewestToBuy 33 = .ok (.iconst (-1), 1) := by decide +kernel
theorem dX5_fewestToBuy_34 : decode cX5_fewestToBuy 34 = .ok (.ixor, 1) := by decide +kernel
theorem dX5_fewestToBuy_35 : decode cX5_fewestToBuy 35 = .ok (.iand, 1) := by decide +kernel
theorem dX5_fewestToBuy_36 : decode cX5_fewestToBuy 36 = .ok (.ifCond .ne 20, 3) := by decide +kernel
theorem dX5_fewestToBuy_39 : decode cX5_fewestToBuy 39 = .ok (.aload_n 0, 1) := by decide +kernel
theorem dX5_fewestToBuy_40 : decode cX5_fewestToBuy 40 = .ok (.iload_n 1, 1) := by decide +kernel
theorem dX5_fewestToBuy_41 : decode cX5_fewestToBuy 41 = .ok (.iload_n 2, 1) := by decide +kernel
theorem dX5_fewestToBuy_42 : decode cX5_fewestToBuy 42 = .ok (.iload 6, 2) := by decide +kernel
theorem dX5_fewestToBuy_44 : decode cX5_fewestToBuy 44 = .ok (.ior, 1) := by decide +kernel
theorem dX5_fewestToBuy_45 : decode cX5_fewestToBuy 45 = .ok (.iload 4, 2) := by decide +kernel
theorem dX5_fewestToBuy_47 : decode cX5_fewestToBuy 47 = .ok (.invokevirtual 58, 3) := by decide +kernel
theorem dX5_fewestToBuy_50 : decode cX5_fewestToBuy 50 = .ok (.ifCond .eq 6, 3) := by decide +kernel
theorem dX5_fewestToBuy_53 : decode cX5_fewestToBuy 53 = .ok (.iload 6, 2) := by decide +kernel
theorem dX5_fewestToBuy_55 : decode cX5_fewestToBuy 55 = .ok (.ireturn, 1) := by decide +kernel
theorem dX5_fewestToBuy_56 : decode cX5_fewestToBuy 56 = .ok (.iinc 6 1, 3) := by decide +kernel
theorem dX5_fewestToBuy_59 : decode cX5_fewestToBuy 59 = .ok (.goto (-46), 3) := by decide +kernel
theorem dX5_fewestToBuy_62 : decode cX5_fewestToBuy 62 = .ok (.iinc 5 1, 3) := by decide +kernel
theorem dX5_fewestToBuy_65 : decode cX5_fewestToBuy 65 = .ok (.goto (-62), 3) := by decide +kernel
theorem dX5_fewestToBuy_68 : decode cX5_fewestToBuy 68 = .ok (.bipush (-9), 2) := by decide +kernel
theorem dX5_fewestToBuy_70 : decode cX5_fewestToBuy 70 = .ok (.ireturn, 1) := by decide +kernel
theorem dX5_boughtFrom_0 : decode cX5_boughtFrom 0 = .ok (.iconst 0, 1) := by decide +kernel
theorem dX5_boughtFrom_1 : decode cX5_boughtFrom 1 = .ok (.istore_n 2, 1) := by decide +kernel
theorem dX5_boughtFrom_2 : decode cX5_boughtFrom 2 = .ok (.iload_n 2, 1) := by decide +kernel
theorem dX5_boughtFrom_3 : decode cX5_boughtFrom 3 = .ok (.bipush 6, 2) := by decide +kernel
theorem dX5_boughtFrom_5 : decode cX5_boughtFrom 5 = .ok (.if_icmp .ge 27, 3) := by decide +kernel
theorem dX5_boughtFrom_8 : decode cX5_boughtFrom 8 = .ok (.iload_n 1, 1) := by decide +kernel
theorem dX5_boughtFrom_9 : decode cX5_boughtFrom 9 = .ok (.iload_n 2, 1) := by decide +kernel
theorem dX5_boughtFrom_10 : decode cX5_boughtFrom 10 = .ok (.iadd, 1) := by decide +kernel
theorem dX5_boughtFrom_11 : decode cX5_boughtFrom 11 = .ok (.bipush 6, 2) := by decide +kernel
theorem dX5_boughtFrom_13 : decode cX5_boughtFrom 13 = .ok (.irem, 1) := by decide +kernel
theorem dX5_boughtFrom_14 : decode cX5_boughtFrom 14 = .ok (.istore_n 3, 1) := by decide +kernel
theorem dX5_boughtFrom_15 : decode cX5_boughtFrom 15 = .ok (.iload_n 0, 1) := by decide +kernel
theorem dX5_boughtFrom_16 : decode cX5_boughtFrom 16 = .ok (.iload_n 3, 1) := by decide +kernel
theorem dX5_boughtFrom_17 : decode cX5_boughtFrom 17 = .ok (.ishr, 1) := by decide +kernel
theorem dX5_boughtFrom_18 : decode cX5_boughtFrom 18 = .ok (.iconst 1, 1) := by decide +kernel
theorem dX5_boughtFrom_19 : decode cX5_boughtFrom 19 = .ok (.iand, 1) := by decide +kernel
theorem dX5_boughtFrom_20 : decode cX5_boughtFrom 20 = .ok (.iconst 1, 1) := by decide +kernel
theorem dX5_boughtFrom_21 : decode cX5_boughtFrom 21 = .ok (.if_icmp .ne 5, 3) := by decide +kernel
theorem dX5_boughtFrom_24 : decode cX5_boughtFrom 24 = .ok (.iload_n 3, 1) := by decide +kernel
theorem dX5_boughtFrom_25 : decode cX5_boughtFrom 25 = .ok (.ireturn, 1) := by decide +kernel
theorem dX5_boughtFrom_26 : decode cX5_boughtFrom 26 = .ok (.iinc 2 1, 3) := by decide +kernel
theorem dX5_boughtFrom_29 : decode cX5_boughtFrom 29 = .ok (.goto (-27), 3) := by decide +kernel
theorem dX5_boughtFrom_32 : decode cX5_boughtFrom 32 = .ok (.bipush (-9), 2) := by decide +kernel
theorem dX5_boughtFrom_34 : decode cX5_boughtFrom 34 = .ok (.ireturn, 1) := by decide +kernel
theorem dX6_init_0 : decode cX6_init 0 = .ok (.aload_n 0, 1) := by decide +kernel
theorem dX6_init_1 : decode cX6_init 1 = .ok (.invokespecial 5, 3) := by decide +kernel
theorem dX6_init_4 : decode cX6_init 4 = .ok (.aload_n 0, 1) := by decide +kernel
theorem dX6_init_5 : decode cX6_init 5 = .ok (.bipush 11, 2) := by decide +kernel
theorem dX6_init_7 : decode cX6_init 7 = .ok (.bipush 9, 2) := by decide +kernel
theorem dX6_init_9 : decode cX6_init 9 = .ok (.multianewarray 11 2, 4) := by decide +kernel
theorem dX6_init_13 : decode cX6_init 13 = .ok (.putfield 13, 3) := by decide +kernel
theorem dX6_init_16 : decode cX6_init 16 = .ok (.return_, 1) := by decide +kernel
theorem dX6_begin_0 : decode cX6_begin 0 = .ok (.aload_n 0, 1) := by decide +kernel
theorem dX6_begin_1 : decode cX6_begin 1 = .ok (.iconst 0, 1) := by decide +kernel
theorem dX6_begin_2 : decode cX6_begin 2 = .ok (.putfield 16, 3) := by decide +kernel
theorem dX6_begin_5 : decode cX6_begin 5 = .ok (.iconst 0, 1) := by decide +kernel
theorem dX6_begin_6 : decode cX6_begin 6 = .ok (.istore_n 2, 1) := by decide +kernel
theorem dX6_begin_7 : decode cX6_begin 7 = .ok (.iload_n 2, 1) := by decide +kernel
theorem dX6_begin_8 : decode cX6_begin 8 = .ok (.bipush 9, 2) := by decide +kernel
theorem dX6_begin_10 : decode cX6_begin 10 = .ok (.if_icmp .ge 15, 3) := by decide +kernel
theorem dX6_begin_13 : decode cX6_begin 13 = .ok (.aload_n 0, 1) := by decide +kernel
theorem dX6_begin_14 : decode cX6_begin 14 = .ok (.iload_n 2, 1) := by decide +kernel
theorem dX6_begin_15 : decode cX6_begin 15 = .ok (.iconst 0, 1) := by decide +kernel
theorem dX6_begin_16 : decode cX6_begin 16 = .ok (.invokevirtual 20, 3) := by decide +kernel
theorem dX6_begin_19 : decode cX6_begin 19 = .ok (.iinc 2 1, 3) := by decide +kernel
theorem dX6_begin_22 : decode cX6_begin 22 = .ok (.goto (-15), 3) := by decide +kernel
theorem dX6_begin_25 : decode cX6_begin 25 = .ok (.aload_n 0, 1) := by decide +kernel
theorem dX6_begin_26 : decode cX6_begin 26 = .ok (.iconst 0, 1) := by decide +kernel
theorem dX6_begin_27 : decode cX6_begin 27 = .ok (.iload_n 1, 1) := by decide +kernel
theorem dX6_begin_28 : decode cX6_begin 28 = .ok (.invokevirtual 20, 3) := by decide +kernel
theorem dX6_begin_31 : decode cX6_begin 31 = .ok (.return_, 1) := by decide +kernel
theorem dX6_at_0 : decode cX6_at 0 = .ok (.aload_n 0, 1) := by decide +kernel
theorem dX6_at_1 : decode cX6_at 1 = .ok (.getfield 16, 3) := by decide +kernel
theorem dX6_at_4 : decode cX6_at 4 = .ok (.ifCond .lt 36, 3) := by decide +kernel
theorem dX6_at_7 : decode cX6_at 7 = .ok (.aload_n 0, 1) := by decide +kernel
theorem dX6_at_8 : decode cX6_at 8 = .ok (.getfield 16, 3) := by decide +kernel
theorem dX6_at_11 : decode cX6_at 11 = .ok (.bipush 10, 2) := by decide +kernel
theorem dX6_at_13 : decode cX6_at 13 = .ok (.if_icmp .gt 27, 3) := by decide +kernel
theorem dX6_at_16 : decode cX6_at 16 = .ok (.iload_n 1, 1) := by decide +kernel
theorem dX6_at_17 : decode cX6_at 17 = .ok (.ifCond .lt 23, 3) := by decide +kernel
theorem dX6_at_20 : decode cX6_at 20 = .ok (.iload_n 1, 1) := by decide +kernel
theorem dX6_at_21 : decode cX6_at 21 = .ok (.bipush 9, 2) := by decide +kernel
theorem dX6_at_23 : decode cX6_at 23 = .ok (.if_icmp .ge 17, 3) := by decide +kernel
theorem dX6_at_26 : decode cX6_at 26 = .ok (.aload_n 0, 1) := by decide +kernel
theorem dX6_at_27 : decode cX6_at 27 = .ok (.getfield 13, 3) := by decide +kernel
theorem dX6_at_30 : decode cX6_at 30 = .ok (.aload_n 0, 1) := by decide +kernel
theorem dX6_at_31 : decode cX6_at 31 = .ok (.getfield 16, 3) := by decide +kernel
theorem dX6_at_34 : decode cX6_at 34 = .ok (.aaload, 1) := by decide +kernel
theorem dX6_at_35 : decode cX6_at 35 = .ok (.iload_n 1, 1) := by decide +kernel
theorem dX6_at_36 : decode cX6_at 36 = .ok (.iaload, 1) := by decide +kernel
theorem dX6_at_37 : decode cX6_at 37 = .ok (.goto 4, 3) := by decide +kernel
theorem dX6_at_40 : decode cX6_at 40 = .ok (.iconst 0, 1) := by decide +kernel
theorem dX6_at_41 : decode cX6_at 41 = .ok (.ireturn, 1) := by decide +kernel
theorem dX6_put_0 : decode cX6_put 0 = .ok (.aload_n 0, 1) := by decide +kernel
theorem dX6_put_1 : decode cX6_put 1 = .ok (.getfield 16, 3) := by decide +kernel
theorem dX6_put_4 : decode cX6_put 4 = .ok (.ifCond .lt 34, 3) := by decide +kernel
theorem dX6_put_7 : decode cX6_put 7 = .ok (.aload_n 0, 1) := by decide +kernel
theorem dX6_put_8 : decode cX6_put 8 = .ok (.getfield 16, 3) := by decide +kernel
theorem dX6_put_11 : decode cX6_put 11 = .ok (.bipush 10, 2) := by decide +kernel
theorem dX6_put_13 : decode cX6_put 13 = .ok (.if_icmp .gt 25, 3) := by decide +kernel
theorem dX6_put_16 : decode cX6_put 16 = .ok (.iload_n 1, 1) := by decide +kernel
theorem dX6_put_17 : decode cX6_put 17 = .ok (.ifCond .lt 21, 3) := by decide +kernel
theorem dX6_put_20 : decode cX6_put 20 = .ok (.iload_n 1, 1) := by decide +kernel
theorem dX6_put_21 : decode cX6_put 21 = .ok (.bipush 9, 2) := by decide +kernel
theorem dX6_put_23 : decode cX6_put 23 = .ok (.if_icmp .ge 15, 3) := by decide +kernel
theorem dX6_put_26 : decode cX6_put 26 = .ok (.aload_n 0, 1) := by decide +kernel
theorem dX6_put_27 : decode cX6_put 27 = .ok (.getfield 13, 3) := by decide +kernel
theorem dX6_put_30 : decode cX6_put 30 = .ok (.aload_n 0, 1) := by decide +kernel
theorem dX6_put_31 : decode cX6_put 31 = .ok (.getfield 16, 3) := by decide +kernel
theorem dX6_put_34 : decode cX6_put 34 = .ok (.aaload, 1) := by decide +kernel
theorem dX6_put_35 : decode cX6_put 35 = .ok (.iload_n 1, 1) := by decide +kernel
theorem dX6_put_36 : decode cX6_put 36 = .ok (.iload_n 2, 1) := by decide +kernel
theorem dX6_put_37 : decode cX6_put 37 = .ok (.iastore, 1) := by decide +kernel
theorem dX6_put_38 : decode cX6_put 38 = .ok (.return_, 1) := by decide +kernel
theorem dX6_book_0 : decode cX6_book 0 = .ok (.aload_n 0, 1) := by decide +kernel
theorem dX6_book_1 : decode cX6_book 1 = .ok (.iconst 0, 1) := by decide +kernel
theorem dX6_book_2 : decode cX6_book 2 = .ok (.invokevirtual 24, 3) := by decide +kernel
theorem dX6_book_5 : decode cX6_book 5 = .ok (.ireturn, 1) := by decide +kernel
theorem dX6_copiesNow_0 : decode cX6_copiesNow 0 = .ok (.aload_n 0, 1) := by decide +kernel
theorem dX6_copiesNow_1 : decode cX6_copiesNow 1 = .ok (.iconst 1, 1) := by decide +kernel
theorem dX6_copiesNow_2 : decode cX6_copiesNow 2 = .ok (.invokevirtual 24, 3) := by decide +kernel
theorem dX6_copiesNow_5 : decode cX6_copiesNow 5 = .ok (.ireturn, 1) := by decide +kernel
theorem dX6_released_0 : decode cX6_released 0 = .ok (.aload_n 0, 1) := by decide +kernel
theorem dX6_released_1 : decode cX6_released 1 = .ok (.iconst 2, 1) := by decide +kernel
theorem dX6_released_2 : decode cX6_released 2 = .ok (.invokevirtual 24, 3) := by decide +kernel
theorem dX6_released_5 : decode cX6_released 5 = .ok (.ireturn, 1) := by decide +kernel
theorem dX6_isReleased_0 : decode cX6_isReleased 0 = .ok (.aload_n 0, 1) := by decide +kernel
theorem dX6_isReleased_1 : decode cX6_isReleased 1 = .ok (.invokevirtual 28, 3) := by decide +kernel
theorem dX6_isReleased_4 : decode cX6_isReleased 4 = .ok (.iload_n 1, 1) := by decide +kernel
theorem dX6_isReleased_5 : decode cX6_isReleased 5 = .ok (.ishr, 1) := by decide +kernel
theorem dX6_isReleased_6 : decode cX6_isReleased 6 = .ok (.iconst 1, 1) := by decide +kernel
theorem dX6_isReleased_7 : decode cX6_isReleased 7 = .ok (.iand, 1) := by decide +kernel
theorem dX6_isReleased_8 : decode cX6_isReleased 8 = .ok (.iconst 1, 1) := by decide +kernel
theorem dX6_isReleased_9 : decode cX6_isReleased 9 = .ok (.if_icmp .ne 7, 3) := by decide +kernel
theorem dX6_isReleased_12 : decode cX6_isReleased 12 = .ok (.iconst 1, 1) := by decide +kernel
theorem dX6_isReleased_13 : decode cX6_isReleased 13 = .ok (.goto 4, 3) := by decide +kernel
theorem dX6_isReleased_16 : decode cX6_isReleased 16 = .ok (.iconst 0, 1) := by decide +kernel
theorem dX6_isReleased_17 : decode cX6_isReleased 17 = .ok (.ireturn, 1) := by decide +kernel
theorem dX6_timesOf_0 : decode cX6_timesOf 0 = .ok (.aload_n 0, 1) := by decide +kernel
theorem dX6_timesOf_1 : decode cX6_timesOf 1 = .ok (.iconst 3, 1) := by decide +kernel
theorem dX6_timesOf_2 : decode cX6_timesOf 2 = .ok (.iload_n 1, 1) := by decide +kernel
theorem dX6_timesOf_3 : decode cX6_timesOf 3 = .ok (.iadd, 1) := by decide +kernel
theorem dX6_timesOf_4 : decode cX6_timesOf 4 = .ok (.invokevirtual 24, 3) := by decide +kernel
theorem dX6_timesOf_7 : decode cX6_timesOf 7 = .ok (.ireturn, 1) := by decide +kernel
theorem dX6_setBook_0 : decode cX6_setBook 0 = .ok (.aload_n 0, 1) := by decide +kernel
theorem dX6_setBook_1 : decode cX6_setBook 1 = .ok (.iconst 0, 1) := by decide +kernel
theorem dX6_setBook_2 : decode cX6_setBook 2 = .ok (.iload_n 1, 1) := by decide +kernel
theorem dX6_setBook_3 : decode cX6_setBook 3 = .ok (.invokevirtual 20, 3) := by decide +kernel
theorem dX6_setBook_6 : decode cX6_setBook 6 = .ok (.return_, 1) := by decide +kernel
theorem dX6_copied_0 : decode cX6_copied 0 = .ok (.aload_n 0, 1) := by decide +kernel
theorem dX6_copied_1 : decode cX6_copied 1 = .ok (.iconst 0, 1) := by decide +kernel
theorem dX6_copied_2 : decode cX6_copied 2 = .ok (.iload_n 2, 1) := by decide +kernel
theorem dX6_copied_3 : decode cX6_copied 3 = .ok (.invokevirtual 20, 3) := by decide +kernel
theorem dX6_copied_6 : decode cX6_copied 6 = .ok (.aload_n 0, 1) := by decide +kernel
theorem dX6_copied_7 : decode cX6_copied 7 = .ok (.iconst 1, 1) := by decide +kernel
theorem dX6_copied_8 : decode cX6_copied 8 = .ok (.aload_n 0, 1) := by decide +kernel
theorem dX6_copied_9 : decode cX6_copied 9 = .ok (.invokevirtual 32, 3) := by decide +kernel
theorem dX6_copied_12 : decode cX6_copied 12 = .ok (.iconst 1, 1) := by decide +kernel
theorem dX6_copied_13 : decode cX6_copied 13 = .ok (.iadd, 1) := by decide +kernel
theorem dX6_copied_14 : decode cX6_copied 14 = .ok (.invokevirtual 20, 3) := by decide +kernel
theorem dX6_copied_17 : decode cX6_copied 17 = .ok (.aload_n 0, 1) := by decide +kernel
theorem dX6_copied_18 : decode cX6_copied 18 = .ok (.iconst 3, 1) := by decide +kernel
theorem dX6_copied_19 : decode cX6_copied 19 = .ok (.iload_n 1, 1) := by decide +kernel
theorem dX6_copied_20 : decode cX6_copied 20 = .ok (.iadd, 1) := by decide +kernel
theorem dX6_copied_21 : decode cX6_copied 21 = .ok (.aload_n 0, 1) := by decide +kernel
theorem dX6_copied_22 : decode cX6_copied 22 = .ok (.iload_n 1, 1) := by decide +kernel
theorem dX6_copied_23 : decode cX6_copied 23 = .ok (.invokevirtual 35, 3) := by decide +kernel
theorem dX6_copied_26 : decode cX6_copied 26 = .ok (.iconst 1, 1) := by decide +kernel
theorem dX6_copied_27 : decode cX6_copied 27 = .ok (.iadd, 1) := by decide +kernel
theorem dX6_copied_28 : decode cX6_copied 28 = .ok (.invokevirtual 20, 3) := by decide +kernel
theorem dX6_copied_31 : decode cX6_copied 31 = .ok (.return_, 1) := by decide +kernel
theorem dX6_turnReleased_0 : decode cX6_turnReleased 0 = .ok (.aload_n 0, 1) := by decide +kernel
theorem dX6_turnReleased_1 : decode cX6_turnReleased 1 = .ok (.iconst 2, 1) := by decide +kernel
theorem dX6_turnReleased_2 : decode cX6_turnReleased 2 = .ok (.aload_n 0, 1) := by decide +kernel
theorem dX6_turnReleased_3 : decode cX6_turnReleased 3 = .ok (.invokevirtual 28, 3) := by decide +kernel
theorem dX6_turnReleased_6 : decode cX6_turnReleased 6 = .ok (.iconst 1, 1) := by decide +kernel
theorem dX6_turnReleased_7 : decode cX6_turnReleased 7 = .ok (.iload_n 1, 1) := by decide +kernel
theorem dX6_turnReleased_8 : decode cX6_turnReleased 8 = .ok (.ishl, 1) := by decide +kernel
theorem dX6_turnReleased_9 : decode cX6_turnReleased 9 = .ok (.ixor, 1) := by decide +kernel
theorem dX6_turnReleased_10 : decode cX6_turnReleased 10 = .ok (.invokevirtual 20, 3) := by decide +kernel
theorem dX6_turnReleased_13 : decode cX6_turnReleased 13 = .ok (.return_, 1) := by decide +kernel
theorem dX6_remember_0 : decode cX6_remember 0 = .ok (.aload_n 0, 1) := by decide +kernel
theorem dX6_remember_1 : decode cX6_remember 1 = .ok (.getfield 16, 3) := by decide +kernel
theorem dX6_remember_4 : decode cX6_remember 4 = .ok (.bipush 10, 2) := by decide +kernel
theorem dX6_remember_6 : decode cX6_remember 6 = .ok (.if_icmp .ge 32, 3) := by decide +kernel
theorem dX6_remember_9 : decode cX6_remember 9 = .ok (.aload_n 0, 1) := by decide +kernel
theorem dX6_remember_10 : decode cX6_remember 10 = .ok (.dup, 1) := by decide +kernel
theorem dX6_remember_11 : decode cX6_remember 11 = .ok (.getfield 16, 3) := by decide +kernel
theorem dX6_remember_14 : decode cX6_remember 14 = .ok (.iconst 1, 1) := by decide +kernel
theorem dX6_remember_15 : decode cX6_remember 15 = .ok (.iadd, 1) := by decide +kernel
theorem dX6_remember_16 : decode cX6_remember 16 = .ok (.putfield 16, 3) := by decide +kernel
theorem dX6_remember_19 : decode cX6_remember 19 = .ok (.aload_n 0, 1) := by decide +kernel
theorem dX6_remember_20 : decode cX6_remember 20 = .ok (.aload_n 0, 1) := by decide +kernel
theorem dX6_remember_21 : decode cX6_remember 21 = .ok (.getfield 16, 3) := by decide +kernel
theorem dX6_remember_24 : decode cX6_remember 24 = .ok (.iconst 1, 1) := by decide +kernel
theorem dX6_remember_25 : decode cX6_remember 25 = .ok (.isub, 1) := by decide +kernel
theorem dX6_remember_26 : decode cX6_remember 26 = .ok (.aload_n 0, 1) := by decide +kernel
theorem dX6_remember_27 : decode cX6_remember 27 = .ok (.getfield 13, 3) := by decide +kernel
theorem dX6_remember_30 : decode cX6_remember 30 = .ok (.aload_n 0, 1) := by decide +kernel
theorem dX6_remember_31 : decode cX6_remember 31 = .ok (.getfield 16, 3) := by decide +kernel
theorem dX6_remember_34 : decode cX6_remember 34 = .ok (.invokevirtual 38, 3) := by decide +kernel
theorem dX6_remember_37 : decode cX6_remember 37 = .ok (.return_, 1) := by decide +kernel
theorem dX6_remember_38 : decode cX6_remember 38 = .ok (.iconst 0, 1) := by decide +kernel
theorem dX6_remember_39 : decode cX6_remember 39 = .ok (.istore_n 1, 1) := by decide +kernel
theorem dX6_remember_40 : decode cX6_remember 40 = .ok (.iload_n 1, 1) := by decide +kernel
theorem dX6_remember_41 : decode cX6_remember 41 = .ok (.bipush 10, 2) := by decide +kernel
theorem dX6_remember_43 : decode cX6_remember 43 = .ok (.if_icmp .ge 21, 3) := by decide +kernel
theorem dX6_remember_46 : decode cX6_remember 46 = .ok (.aload_n 0, 1) := by decide +kernel
theorem dX6_remember_47 : decode cX6_remember 47 = .ok (.iload_n 1, 1) := by decide +kernel
theorem dX6_remember_48 : decode cX6_remember 48 = .ok (.iconst 1, 1) := by decide +kernel
theorem dX6_remember_49 : decode cX6_remember 49 = .ok (.iadd, 1) := by decide +kernel
theorem dX6_remember_50 : decode cX6_remember 50 = .ok (.aload_n 0, 1) := by decide +kernel
theorem dX6_remember_51 : decode cX6_remember 51 = .ok (.getfield 13, 3) := by decide +kernel
theorem dX6_remember_54 : decode cX6_remember 54 = .ok (.iload_n 1, 1) := by decide +kernel
theorem dX6_remember_55 : decode cX6_remember 55 = .ok (.invokevirtual 38, 3) := by decide +kernel
theorem dX6_remember_58 : decode cX6_remember 58 = .ok (.iinc 1 1, 3) := by decide +kernel
theorem dX6_remember_61 : decode cX6_remember 61 = .ok (.goto (-21), 3) := by decide +kernel
theorem dX6_remember_64 : decode cX6_remember 64 = .ok (.return_, 1) := by decide +kernel
theorem dX6_takeBack_0 : decode cX6_takeBack 0 = .ok (.aload_n 0, 1) := by decide +kernel
theorem dX6_takeBack_1 : decode cX6_takeBack 1 = .ok (.getfield 16, 3) := by decide +kernel
theorem dX6_takeBack_4 : decode cX6_takeBack 4 = .ok (.iconst 1, 1) := by decide +kernel
theorem dX6_takeBack_5 : decode cX6_takeBack 5 = .ok (.if_icmp .ge 5, 3) := by decide +kernel
theorem dX6_takeBack_8 : decode cX6_takeBack 8 = .ok (.iconst 0, 1) := by decide +kernel
theorem dX6_takeBack_9 : decode cX6_takeBack 9 = .ok (.ireturn, 1) := by decide +kernel
theorem dX6_takeBack_10 : decode cX6_takeBack 10 = .ok (.aload_n 0, 1) := by decide +kernel
theorem dX6_takeBack_11 : decode cX6_takeBack 11 = .ok (.dup, 1) := by decide +kernel
theorem dX6_takeBack_12 : decode cX6_takeBack 12 = .ok (.getfield 16, 3) := by decide +kernel
theorem dX6_takeBack_15 : decode cX6_takeBack 15 = .ok (.iconst 1, 1) := by decide +kernel
theorem dX6_takeBack_16 : decode cX6_takeBack 16 = .ok (.isub, 1) := by decide +kernel
theorem dX6_takeBack_17 : decode cX6_takeBack 17 = .ok (.putfield 16, 3) := by decide +kernel
theorem dX6_takeBack_20 : decode cX6_takeBack 20 = .ok (.iconst 1, 1) := by decide +kernel
theorem dX6_takeBack_21 : decode cX6_takeBack 21 = .ok (.ireturn, 1) := by decide +kernel
theorem dX6_become_0 : decode cX6_become 0 = .ok (.aload_n 0, 1) := by decide +kernel
theorem dX6_become_1 : decode cX6_become 1 = .ok (.aload_n 1, 1) := by decide +kernel
theorem dX6_become_2 : decode cX6_become 2 = .ok (.getfield 16, 3) := by decide +kernel
theorem dX6_become_5 : decode cX6_become 5 = .ok (.putfield 16, 3) := by decide +kernel
theorem dX6_become_8 : decode cX6_become 8 = .ok (.iconst 0, 1) := by decide +kernel
theorem dX6_become_9 : decode cX6_become 9 = .ok (.istore_n 2, 1) := by decide +kernel
theorem dX6_become_10 : decode cX6_become 10 = .ok (.iload_n 2, 1) := by decide +kernel
theorem dX6_become_11 : decode cX6_become 11 = .ok (.aload_n 0, 1) := by decide +kernel
theorem dX6_become_12 : decode cX6_become 12 = .ok (.getfield 16, 3) := by decide +kernel
theorem dX6_become_15 : decode cX6_become 15 = .ok (.if_icmp .gt 19, 3) := by decide +kernel
theorem dX6_become_18 : decode cX6_become 18 = .ok (.aload_n 1, 1) := by decide +kernel
theorem dX6_become_19 : decode cX6_become 19 = .ok (.iload_n 2, 1) := by decide +kernel
theorem dX6_become_20 : decode cX6_become 20 = .ok (.aload_n 0, 1) := by decide +kernel
theorem dX6_become_21 : decode cX6_become 21 = .ok (.getfield 13, 3) := by decide +kernel
theorem dX6_become_24 : decode cX6_become 24 = .ok (.iload_n 2, 1) := by decide +kernel
theorem dX6_become_25 : decode cX6_become 25 = .ok (.invokevirtual 38, 3) := by decide +kernel
theorem dX6_become_28 : decode cX6_become 28 = .ok (.iinc 2 1, 3) := by decide +kernel
theorem dX6_become_31 : decode cX6_become 31 = .ok (.goto (-21), 3) := by decide +kernel
theorem dX6_become_34 : decode cX6_become 34 = .ok (.return_, 1) := by decide +kernel
theorem dX6_copyRow_0 : decode cX6_copyRow 0 = .ok (.iload_n 1, 1) := by decide +kernel
theorem dX6_copyRow_1 : decode cX6_copyRow 1 = .ok (.ifCond .lt 35, 3) := by decide +kernel
theorem dX6_copyRow_4 : decode cX6_copyRow 4 = .ok (.iload_n 1, 1) := by decide +kernel
theorem dX6_copyRow_5 : decode cX6_copyRow 5 = .ok (.bipush 10, 2) := by decide +kernel
theorem dX6_copyRow_7 : decode cX6_copyRow 7 = .ok (.if_icmp .gt 29, 3) := by decide +kernel
theorem dX6_copyRow_10 : decode cX6_copyRow 10 = .ok (.iload_n 3, 1) := by decide +kernel
theorem dX6_copyRow_11 : decode cX6_copyRow 11 = .ok (.ifCond .lt 25, 3) := by decide +kernel
theorem dX6_copyRow_14 : decode cX6_copyRow 14 = .ok (.iload_n 3, 1) := by decide +kernel
theorem dX6_copyRow_15 : decode cX6_copyRow 15 = .ok (.bipush 10, 2) := by decide +kernel
theorem dX6_copyRow_17 : decode cX6_copyRow 17 = .ok (.if_icmp .gt 19, 3) := by decide +kernel
theorem dX6_copyRow_20 : decode cX6_copyRow 20 = .ok (.aload_n 0, 1) := by decide +kernel
theorem dX6_copyRow_21 : decode cX6_copyRow 21 = .ok (.getfield 13, 3) := by decide +kernel
theorem dX6_copyRow_24 : decode cX6_copyRow 24 = .ok (.iload_n 1, 1) := by decide +kernel
theorem dX6_copyRow_25 : decode cX6_copyRow 25 = .ok (.aaload, 1) := by decide +kernel
theorem dX6_copyRow_26 : decode cX6_copyRow 26 = .ok (.iconst 0, 1) := by decide +kernel
theorem dX6_copyRow_27 : decode cX6_copyRow 27 = .ok (.aload_n 2, 1) := by decide +kernel
theorem dX6_copyRow_28 : decode cX6_copyRow 28 = .ok (.iload_n 3, 1) := by decide +kernel
theorem dX6_copyRow_29 : decode cX6_copyRow 29 = .ok (.aaload, 1) := by decide +kernel
theorem dX6_copyRow_30 : decode cX6_copyRow 30 = .ok (.iconst 0, 1) := by decide +kernel
theorem dX6_copyRow_31 : decode cX6_copyRow 31 = .ok (.bipush 9, 2) := by decide +kernel
theorem dX6_copyRow_33 : decode cX6_copyRow 33 = .ok (.invokestatic 42, 3) := by decide +kernel
theorem dX6_copyRow_36 : decode cX6_copyRow 36 = .ok (.return_, 1) := by decide +kernel
theorem dX7_init_0 : decode cX7_init 0 = .ok (.aload_n 0, 1) := by decide +kernel
theorem dX7_init_1 : decode cX7_init 1 = .ok (.invokespecial 3, 3) := by decide +kernel
theorem dX7_init_4 : decode cX7_init 4 = .ok (.aload_n 0, 1) := by decide +kernel
theorem dX7_init_5 : decode cX7_init 5 = .ok (.sipush 625, 3) := by decide +kernel
theorem dX7_init_8 : decode cX7_init 8 = .ok (.newarray .int, 2) := by decide +kernel
theorem dX7_init_10 : decode cX7_init 10 = .ok (.putfield 9, 3) := by decide +kernel
theorem dX7_init_13 : decode cX7_init 13 = .ok (.aload_n 0, 1) := by decide +kernel
theorem dX7_init_14 : decode cX7_init 14 = .ok (.sipush 625, 3) := by decide +kernel
theorem dX7_init_17 : decode cX7_init 17 = .ok (.newarray .int, 2) := by decide +kernel
theorem dX7_init_19 : decode cX7_init 19 = .ok (.putfield 15, 3) := by decide +kernel
theorem dX7_init_22 : decode cX7_init 22 = .ok (.aload_n 0, 1) := by decide +kernel
theorem dX7_init_23 : decode cX7_init 23 = .ok (.sipush 625, 3) := by decide +kernel
theorem dX7_init_26 : decode cX7_init 26 = .ok (.newarray .int, 2) := by decide +kernel
theorem dX7_init_28 : decode cX7_init 28 = .ok (.putfield 18, 3) := by decide +kernel
theorem dX7_init_31 : decode cX7_init 31 = .ok (.aload_n 0, 1) := by decide +kernel
theorem dX7_init_32 : decode cX7_init 32 = .ok (.sipush 625, 3) := by decide +kernel
theorem dX7_init_35 : decode cX7_init 35 = .ok (.newarray .int, 2) := by decide +kernel
theorem dX7_init_37 : decode cX7_init 37 = .ok (.putfield 21, 3) := by decide +kernel
theorem dX7_init_40 : decode cX7_init 40 = .ok (.aload_n 0, 1) := by decide +kernel
theorem dX7_init_41 : decode cX7_init 41 = .ok (.aload_n 1, 1) := by decide +kernel
theorem dX7_init_42 : decode cX7_init 42 = .ok (.putfield 24, 3) := by decide +kernel
theorem dX7_init_45 : decode cX7_init 45 = .ok (.return_, 1) := by decide +kernel
theorem dX7_search_0 : decode cX7_search 0 = .ok (.iconst 0, 1) := by decide +kernel
theorem dX7_search_1 : decode cX7_search 1 = .ok (.istore 4, 2) := by decide +kernel
theorem dX7_search_3 : decode cX7_search 3 = .ok (.iload 4, 2) := by decide +kernel
theorem dX7_search_5 : decode cX7_search 5 = .ok (.sipush 625, 3) := by decide +kernel
theorem dX7_search_8 : decode cX7_search 8 = .ok (.if_icmp .ge 17, 3) := by decide +kernel
theorem dX7_search_11 : decode cX7_search 11 = .ok (.aload_n 0, 1) := by decide +kernel
theorem dX7_search_12 : decode cX7_search 12 = .ok (.getfield 9, 3) := by decide +kernel
theorem dX7_search_15 : decode cX7_search 15 = .ok (.iload 4, 2) := by decide +kernel
theorem dX7_search_17 : decode cX7_search 17 = .ok (.iconst (-1), 1) := by decide +kernel
theorem dX7_search_18 : decode cX7_search 18 = .ok (.iastore, 1) := by decide +kernel
theorem dX7_search_19 : decode cX7_search 19 = .ok (.iinc 4 1, 3) := by decide +kernel
theorem dX7_search_22 : decode cX7_search 22 = .ok (.goto (-19), 3) := by decide +kernel
theorem dX7_search_25 : decode cX7_search 25 = .ok (.aload_n 0, 1) := by decide +kernel
theorem dX7_search_26 : decode cX7_search 26 = .ok (.iconst 0, 1) := by decide +kernel
theorem dX7_search_27 : decode cX7_search 27 = .ok (.putfield 28, 3) := by decide +kernel
theorem dX7_search_30 : decode cX7_search 30 = .ok (.aload_n 0, 1) := by decide +kernel
theorem dX7_search_31 : decode cX7_search 31 = .ok (.iload_n 1, 1) := by decide +kernel
theorem dX7_search_32 : decode cX7_search 32 = .ok (.iload_n 1, 1) := by decide +kernel
theorem dX7_search_33 : decode cX7_search 33 = .ok (.bipush (-9), 2) := by decide +kernel
theorem dX7_search_35 : decode cX7_search 35 = .ok (.iconst 0, 1) := by decide +kernel
theorem dX7_search_36 : decode cX7_search 36 = .ok (.invokevirtual 32, 3) := by decide +kernel
theorem dX7_search_39 : decode cX7_search 39 = .ok (.iconst 0, 1) := by decide +kernel
theorem dX7_search_40 : decode cX7_search 40 = .ok (.istore 4, 2) := by decide +kernel
theorem dX7_search_42 : decode cX7_search 42 = .ok (.iload 4, 2) := by decide +kernel
theorem dX7_search_44 : decode cX7_search 44 = .ok (.aload_n 0, 1) := by decide +kernel
theorem dX7_search_45 : decode cX7_search 45 = .ok (.getfield 28, 3) := by decide +kernel
theorem dX7_search_48 : decode cX7_search 48 = .ok (.if_icmp .ge 87, 3) := by decide +kernel
theorem dX7_search_51 : decode cX7_search 51 = .ok (.iload 4, 2) := by decide +kernel
theorem dX7_search_53 : decode cX7_search 53 = .ok (.sipush 625, 3) := by decide +kernel
theorem dX7_search_56 : decode cX7_search 56 = .ok (.if_icmp .ge 79, 3) := by decide +kernel
theorem dX7_search_59 : decode cX7_search 59 = .ok (.aload_n 0, 1) := by decide +kernel
theorem dX7_search_60 : decode cX7_search 60 = .ok (.iload_n 3, 1) := by decide +kernel
theorem dX7_search_61 : decode cX7_search 61 = .ok (.invokevirtual 36, 3) := by decide +kernel
theorem dX7_search_64 : decode cX7_search 64 = .ok (.ifCond .ne 71, 3) := by decide +kernel
theorem dX7_search_67 : decode cX7_search 67 = .ok (.aload_n 0, 1) := by decide +kernel
theorem dX7_search_68 : decode cX7_search 68 = .ok (.getfield 21, 3) := by decide +kernel
theorem dX7_search_71 : decode cX7_search 71 = .ok (.iload 4, 2) := by decide +kernel
theorem dX7_search_73 : decode cX7_search 73 = .ok (.iaload, 1) := by decide +kernel
theorem dX7_search_74 : decode cX7_search 74 = .ok (.istore 5, 2) := by decide +kernel
theorem dX7_search_76 : decode cX7_search 76 = .ok (.iconst 0, 1) := by decide +kernel
theorem dX7_search_77 : decode cX7_search 77 = .ok (.istore 6, 2) := by decide +kernel
theorem dX7_search_79 : decode cX7_search 79 = .ok (.iload 6, 2) := by decide +kernel
theorem dX7_search_81 : decode cX7_search 81 = .ok (.bipush 6, 2) := by decide +kernel
theorem dX7_search_83 : decode cX7_search 83 = .ok (.if_icmp .ge 46, 3) := by decide +kernel
theorem dX7_search_86 : decode cX7_search 86 = .ok (.iload_n 2, 1) := by decide +kernel
theorem dX7_search_87 : decode cX7_search 87 = .ok (.iload 6, 2) := by decide +kernel
theorem dX7_search_89 : decode cX7_search 89 = .ok (.ishr, 1) := by decide +kernel
theorem dX7_search_90 : decode cX7_search 90 = .ok (.iconst 1, 1) := by decide +kernel
theorem dX7_search_91 : decode cX7_search 91 = .ok (.iand, 1) := by decide +kernel
theorem dX7_search_92 : decode cX7_search 92 = .ok (.iconst 1, 1) := by decide +kernel
theorem dX7_search_93 : decode cX7_search 93 = .ok (.if_icmp .ne 30, 3) := by decide +kernel
theorem dX7_search_96 : decode cX7_search 96 = .ok (.aload_n 0, 1) := by decide +kernel
theorem dX7_search_97 : decode cX7_search 97 = .ok (.aload_n 0, 1) := by decide +kernel
theorem dX7_search_98 : decode cX7_search 98 = .ok (.getfield 24, 3) := by decide +kernel
theorem dX7_search_101 : decode cX7_search 101 = .ok (.iload 6, 2) := by decide +kernel
theorem dX7_search_103 : decode cX7_search 103 = .ok (.iload 5, 2) := by decide +kernel
theorem dX7_search_105 : decode cX7_search 105 = .ok (.invokevirtual 40, 3) := by decide +kernel
theorem dX7_search_108 : decode cX7_search 108 = .ok (.iload 5, 2) := by decide +kernel
theorem dX7_search_110 : decode cX7_search 110 = .ok (.iload 6, 2) := by decide +kernel
theorem dX7_search_112 : decode cX7_search 112 = .ok (.aload_n 0, 1) := by decide +kernel
theorem dX7_search_113 : decode cX7_search 113 = .ok (.iload 5, 2) := by decide +kernel
theorem dX7_search_115 : decode cX7_search 115 = .ok (.invokevirtual 46, 3) := by decide +kernel
theorem dX7_search_118 : decode cX7_search 118 = .ok (.iconst 1, 1) := by decide +kernel
theorem dX7_search_119 : decode cX7_search 119 = .ok (.iadd, 1) := by decide +kernel
theorem dX7_search_120 : decode cX7_search 120 = .ok (.invokevirtual 32, 3) := by decide +kernel
theorem dX7_search_123 : decode cX7_search 123 = .ok (.iinc 6 1, 3) := by decide +kernel
theorem dX7_search_126 : decode cX7_search 126 = .ok (.goto (-47), 3) := by decide +kernel
theorem dX7_search_129 : decode cX7_search 129 = .ok (.iinc 4 1, 3) := by decide +kernel
theorem dX7_search_132 : decode cX7_search 132 = .ok (.goto (-90), 3) := by decide +kernel
theorem dX7_search_135 : decode cX7_search 135 = .ok (.return_, 1) := by decide +kernel
theorem dX7_find_0 : decode cX7_find 0 = .ok (.iload_n 1, 1) := by decide +kernel
theorem dX7_find_1 : decode cX7_find 1 = .ok (.invokestatic 50, 3) := by decide +kernel
theorem dX7_find_4 : decode cX7_find 4 = .ok (.ifCond .eq 70, 3) := by decide +kernel
theorem dX7_find_7 : decode cX7_find 7 = .ok (.aload_n 0, 1) := by decide +kernel
theorem dX7_find_8 : decode cX7_find 8 = .ok (.iload_n 1, 1) := by decide +kernel
theorem dX7_find_9 : decode cX7_find 9 = .ok (.invokevirtual 36, 3) := by decide +kernel
theorem dX7_find_12 : decode cX7_find 12 = .ok (.ifCond .ne 62, 3) := by decide +kernel
theorem dX7_find_15 : decode cX7_find 15 = .ok (.aload_n 0, 1) := by decide +kernel
theorem dX7_find_16 : decode cX7_find 16 = .ok (.getfield 28, 3) := by decide +kernel
theorem dX7_find_19 : decode cX7_find 19 = .ok (.ifCond .lt 55, 3) := by decide +kernel
theorem dX7_find_22 : decode cX7_find 22 = .ok (.aload_n 0, 1) := by decide +kernel
theorem dX7_find_23 : decode cX7_find 23 = .ok (.getfield 28, 3) := by decide +kernel
theorem dX7_find_26 : decode cX7_find 26 = .ok (.sipush 625, 3) := by decide +kernel
theorem dX7_find_29 : decode cX7_find 29 = .ok (.if_icmp .ge 45, 3) := by decide +kernel
theorem dX7_find_32 : decode cX7_find 32 = .ok (.aload_n 0, 1) := by decide +kernel
theorem dX7_find_33 : decode cX7_find 33 = .ok (.getfield 9, 3) := by decide +kernel
theorem dX7_find_36 : decode cX7_find 36 = .ok (.iload_n 1, 1) := by decide +kernel
theorem dX7_find_37 : decode cX7_find 37 = .ok (.iload 4, 2) := by decide +kernel
theorem dX7_find_39 : decode cX7_find 39 = .ok (.iastore, 1) := by decide +kernel
theorem dX7_find_40 : decode cX7_find 40 = .ok (.aload_n 0, 1) := by decide +kernel
theorem dX7_find_41 : decode cX7_find 41 = .ok (.getfield 15, 3) := by decide +kernel
theorem dX7_find_44 : decode cX7_find 44 = .ok (.iload_n 1, 1) := by decide +kernel
theorem dX7_find_45 : decode cX7_find 45 = .ok (.iload_n 2, 1) := by decide +kernel
theorem dX7_find_46 : decode cX7_find 46 = .ok (.iastore, 1) := by decide +kernel
theorem dX7_find_47 : decode cX7_find 47 = .ok (.aload_n 0, 1) := by decide +kernel
theorem dX7_find_48 : decode cX7_find 48 = .ok (.getfield 18, 3) := by decide +kernel
theorem dX7_find_51 : decode cX7_find 51 = .ok (.iload_n 1, 1) := by decide +kernel
theorem dX7_find_52 : decode cX7_find 52 = .ok (.iload_n 3, 1) := by decide +kernel
theorem dX7_find_53 : decode cX7_find 53 = .ok (.iastore, 1) := by decide +kernel
theorem dX7_find_54 : decode cX7_find 54 = .ok (.aload_n 0, 1) := by decide +kernel
theorem dX7_find_55 : decode cX7_find 55 = .ok (.getfield 21, 3) := by decide +kernel
theorem dX7_find_58 : decode cX7_find 58 = .ok (.aload_n 0, 1) := by decide +kernel
theorem dX7_find_59 : decode cX7_find 59 = .ok (.getfield 28, 3) := by decide +kernel
theorem dX7_find_62 : decode cX7_find 62 = .ok (.iload_n 1, 1) := by decide +kernel
theorem dX7_find_63 : decode cX7_find 63 = .ok (.iastore, 1) := by decide +kernel
theorem dX7_find_64 : decode cX7_find 64 = .ok (.aload_n 0, 1) := by decide +kernel
theorem dX7_find_65 : decode cX7_find 65 = .ok (.dup, 1) := by decide +kernel
theorem dX7_find_66 : decode cX7_find 66 = .ok (.getfield 28, 3) := by decide +kernel
theorem dX7_find_69 : decode cX7_find 69 = .ok (.iconst 1, 1) := by decide +kernel
theorem dX7_find_70 : decode cX7_find 70 = .ok (.iadd, 1) := by decide +kernel
theorem dX7_find_71 : decode cX7_find 71 = .ok (.putfield 28, 3) := by decide +kernel
theorem dX7_find_74 : decode cX7_find 74 = .ok (.return_, 1) := by decide +kernel
theorem dX7_isBook_0 : decode cX7_isBook 0 = .ok (.iload_n 0, 1) := by decide +kernel
theorem dX7_isBook_1 : decode cX7_isBook 1 = .ok (.ifCond .lt 14, 3) := by decide +kernel
theorem dX7_isBook_4 : decode cX7_isBook 4 = .ok (.iload_n 0, 1) := by decide +kernel
theorem dX7_isBook_5 : decode cX7_isBook 5 = .ok (.sipush 625, 3) := by decide +kernel
theorem dX7_isBook_8 : decode cX7_isBook 8 = .ok (.if_icmp .ge 7, 3) := by decide +kernel
theorem dX7_isBook_11 : decode cX7_isBook 11 = .ok (.iconst 1, 1) := by decide +kernel
theorem dX7_isBook_12 : decode cX7_isBook 12 = .ok (.goto 4, 3) := by decide +kernel
theorem dX7_isBook_15 : decode cX7_isBook 15 = .ok (.iconst 0, 1) := by decide +kernel
theorem dX7_isBook_16 : decode cX7_isBook 16 = .ok (.ireturn, 1) := by decide +kernel
theorem dX7_distanceOf_0 : decode cX7_distanceOf 0 = .ok (.iload_n 1, 1) := by decide +kernel
theorem dX7_distanceOf_1 : decode cX7_distanceOf 1 = .ok (.invokestatic 50, 3) := by decide +kernel
theorem dX7_distanceOf_4 : decode cX7_distanceOf 4 = .ok (.ifCond .eq 12, 3) := by decide +kernel
theorem dX7_distanceOf_7 : decode cX7_distanceOf 7 = .ok (.aload_n 0, 1) := by decide +kernel
theorem dX7_distanceOf_8 : decode cX7_distanceOf 8 = .ok (.getfield 9, 3) := by decide +kernel
theorem dX7_distanceOf_11 : decode cX7_distanceOf 11 = .ok (.iload_n 1, 1) := by decide +kernel
theorem dX7_distanceOf_12 : decode cX7_distanceOf 12 = .ok (.iaload, 1) := by decide +kernel
theorem dX7_distanceOf_13 : decode cX7_distanceOf 13 = .ok (.goto 4, 3) := by decide +kernel
theorem dX7_distanceOf_16 : decode cX7_distanceOf 16 = .ok (.iconst (-1), 1) := by decide +kernel
theorem dX7_distanceOf_17 : decode cX7_distanceOf 17 = .ok (.ireturn, 1) := by decide +kernel
theorem dX7_isFound_0 : decode cX7_isFound 0 = .ok (.aload_n 0, 1) := by decide +kernel
theorem dX7_isFound_1 : decode cX7_isFound 1 = .ok (.iload_n 1, 1) := by decide +kernel
theorem dX7_isFound_2 : decode cX7_isFound 2 = .ok (.invokevirtual 46, 3) := by decide +kernel
theorem dX7_isFound_5 : decode cX7_isFound 5 = .ok (.iconst (-1), 1) := by decide +kernel
theorem dX7_isFound_6 : decode cX7_isFound 6 = .ok (.if_icmp .eq 7, 3) := by decide +kernel
theorem dX7_isFound_9 : decode cX7_isFound 9 = .ok (.iconst 1, 1) := by decide +kernel
theorem dX7_isFound_10 : decode cX7_isFound 10 = .ok (.goto 4, 3) := by decide +kernel
theorem dX7_isFound_13 : decode cX7_isFound 13 = .ok (.iconst 0, 1) := by decide +kernel
theorem dX7_isFound_14 : decode cX7_isFound 14 = .ok (.ireturn, 1) := by decide +kernel
theorem dX7_fewestCopies_0 : decode cX7_fewestCopies 0 = .ok (.aload_n 0, 1) := by decide +kernel
theorem dX7_fewestCopies_1 : decode cX7_fewestCopies 1 = .ok (.iload_n 1, 1) := by decide +kernel
theorem dX7_fewestCopies_2 : decode cX7_fewestCopies 2 = .ok (.invokevirtual 36, 3) := by decide +kernel
theorem dX7_fewestCopies_5 : decode cX7_fewestCopies 5 = .ok (.ifCond .eq 11, 3) := by decide +kernel
theorem dX7_fewestCopies_8 : decode cX7_fewestCopies 8 = .ok (.aload_n 0, 1) := by decide +kernel
theorem dX7_fewestCopies_9 : decode cX7_fewestCopies 9 = .ok (.iload_n 1, 1) := by decide +kernel
theorem dX7_fewestCopies_10 : decode cX7_fewestCopies 10 = .ok (.invokevirtual 46, 3) := by decide +kernel
theorem dX7_fewestCopies_13 : decode cX7_fewestCopies 13 = .ok (.goto 5, 3) := by decide +kernel
theorem dX7_fewestCopies_16 : decode cX7_fewestCopies 16 = .ok (.bipush (-9), 2) := by decide +kernel
theorem dX7_fewestCopies_18 : decode cX7_fewestCopies 18 = .ok (.ireturn, 1) := by decide +kernel
theorem dX7_scribeOfCopy_0 : decode cX7_scribeOfCopy 0 = .ok (.iload_n 2, 1) := by decide +kernel
theorem dX7_scribeOfCopy_1 : decode cX7_scribeOfCopy 1 = .ok (.ifCond .lt 12, 3) := by decide +kernel
theorem dX7_scribeOfCopy_4 : decode cX7_scribeOfCopy 4 = .ok (.iload_n 2, 1) := by decide +kernel
theorem dX7_scribeOfCopy_5 : decode cX7_scribeOfCopy 5 = .ok (.aload_n 0, 1) := by decide +kernel
theorem dX7_scribeOfCopy_6 : decode cX7_scribeOfCopy 6 = .ok (.iload_n 1, 1) := by decide +kernel
theorem dX7_scribeOfCopy_7 : decode cX7_scribeOfCopy 7 = .ok (.invokevirtual 46, 3) := by decide +kernel
theorem dX7_scribeOfCopy_10 : decode cX7_scribeOfCopy 10 = .ok (.if_icmp .lt 6, 3) := by decide +kernel
theorem dX7_scribeOfCopy_13 : decode cX7_scribeOfCopy 13 = .ok (.bipush (-9), 2) := by decide +kernel
theorem dX7_scribeOfCopy_15 : decode cX7_scribeOfCopy 15 = .ok (.ireturn, 1) := by decide +kernel
theorem dX7_scribeOfCopy_16 : decode cX7_scribeOfCopy 16 = .ok (.iload_n 1, 1) := by decide +kernel
theorem dX7_scribeOfCopy_17 : decode cX7_scribeOfCopy 17 = .ok (.istore_n 3, 1) := by decide +kernel
theorem dX7_scribeOfCopy_18 : decode cX7_scribeOfCopy 18 = .ok (.iconst 0, 1) := by decide +kernel
theorem dX7_scribeOfCopy_19 : decode cX7_scribeOfCopy 19 = .ok (.istore 4, 2) := by decide +kernel
theorem dX7_scribeOfCopy_21 : decode cX7_scribeOfCopy 21 = .ok (.iload 4, 2) := by decide +kernel
theorem dX7_scribeOfCopy_23 : decode cX7_scribeOfCopy 23 = .ok (.sipush 625, 3) := by decide +kernel
theorem dX7_scribeOfCopy_26 : decode cX7_scribeOfCopy 26 = .ok (.if_icmp .ge 34, 3) := by decide +kernel
theorem dX7_scribeOfCopy_29 : decode cX7_scribeOfCopy 29 = .ok (.iload_n 3, 1) := by decide +kernel
theorem dX7_scribeOfCopy_30 : decode cX7_scribeOfCopy 30 = .ok (.invokestatic 50, 3) := by decide +kernel
theorem dX7_scribeOfCopy_33 : decode cX7_scribeOfCopy 33 = .ok (.ifCond .eq 27, 3) := by decide +kernel
theorem dX7_scribeOfCopy_36 : decode cX7_scribeOfCopy 36 = .ok (.aload_n 0, 1) := by decide +kernel
theorem dX7_scribeOfCopy_37 : decode cX7_scribeOfCopy 37 = .ok (.iload_n 3, 1) := by decide +kernel
theorem dX7_scribeOfCopy_38 : decode cX7_scribeOfCopy 38 = .ok (.invokevirtual 46, 3) := by decide +kernel
theorem dX7_scribeOfCopy_41 : decode cX7_scribeOfCopy 41 = .ok (.iload_n 2, 1) := by decide +kernel
theorem dX7_scribeOfCopy_42 : decode cX7_scribeOfCopy 42 = .ok (.iconst 1, 1) := by decide +kernel
theorem dX7_scribeOfCopy_43 : decode cX7_scribeOfCopy 43 = .ok (.iadd, 1) := by decide +kernel
theorem dX7_scribeOfCopy_44 : decode cX7_scribeOfCopy 44 = .ok (.if_icmp .le 16, 3) := by decide +kernel
theorem dX7_scribeOfCopy_47 : decode cX7_scribeOfCopy 47 = .ok (.aload_n 0, 1) := by decide +kernel
theorem dX7_scribeOfCopy_48 : decode cX7_scribeOfCopy 48 = .ok (.getfield 15, 3) := by decide +kernel
theorem dX7_scribeOfCopy_51 : decode cX7_scribeOfCopy 51 = .ok (.iload_n 3, 1) := by decide +kernel
theorem dX7_scribeOfCopy_52 : decode cX7_scribeOfCopy 52 = .ok (.iaload, 1) := by decide +kernel
theorem dX7_scribeOfCopy_53 : decode cX7_scribeOfCopy 53 = .ok (.istore_n 3, 1) := by decide +kernel
theorem dX7_scribeOfCopy_54 : decode cX7_scribeOfCopy 54 = .ok (.iinc 4 1, 3) := by decide +kernel
theorem dX7_scribeOfCopy_57 : decode cX7_scribeOfCopy 57 = .ok (.goto (-36), 3) := by decide +kernel
theorem dX7_scribeOfCopy_60 : decode cX7_scribeOfCopy 60 = .ok (.iload_n 3, 1) := by decide +kernel
theorem dX7_scribeOfCopy_61 : decode cX7_scribeOfCopy 61 = .ok (.invokestatic 50, 3) := by decide +kernel
theorem dX7_scribeOfCopy_64 : decode cX7_scribeOfCopy 64 = .ok (.ifCond .eq 12, 3) := by decide +kernel
theorem dX7_scribeOfCopy_67 : decode cX7_scribeOfCopy 67 = .ok (.aload_n 0, 1) := by decide +kernel
theorem dX7_scribeOfCopy_68 : decode cX7_scribeOfCopy 68 = .ok (.getfield 18, 3) := by decide +kernel
theorem dX7_scribeOfCopy_71 : decode cX7_scribeOfCopy 71 = .ok (.iload_n 3, 1) := by decide +kernel
theorem dX7_scribeOfCopy_72 : decode cX7_scribeOfCopy 72 = .ok (.iaload, 1) := by decide +kernel
theorem dX7_scribeOfCopy_73 : decode cX7_scribeOfCopy 73 = .ok (.goto 5, 3) := by decide +kernel
theorem dX7_scribeOfCopy_76 : decode cX7_scribeOfCopy 76 = .ok (.bipush (-9), 2) := by decide +kernel
theorem dX7_scribeOfCopy_78 : decode cX7_scribeOfCopy 78 = .ok (.ireturn, 1) := by decide +kernel
theorem dX7_countBefore_0 : decode cX7_countBefore 0 = .ok (.iconst 0, 1) := by decide +kernel
theorem dX7_countBefore_1 : decode cX7_countBefore 1 = .ok (.istore_n 3, 1) := by decide +kernel
theorem dX7_countBefore_2 : decode cX7_countBefore 2 = .ok (.iconst 0, 1) := by decide +kernel
theorem dX7_countBefore_3 : decode cX7_countBefore 3 = .ok (.istore 4, 2) := by decide +kernel
theorem dX7_countBefore_5 : decode cX7_countBefore 5 = .ok (.iload 4, 2) := by decide +kernel
theorem dX7_countBefore_7 : decode cX7_countBefore 7 = .ok (.aload_n 0, 1) := by decide +kernel
theorem dX7_countBefore_8 : decode cX7_countBefore 8 = .ok (.getfield 24, 3) := by decide +kernel
theorem dX7_countBefore_11 : decode cX7_countBefore 11 = .ok (.getfield 53, 3) := by decide +kernel
theorem dX7_countBefore_14 : decode cX7_countBefore 14 = .ok (.if_icmp .ge 26, 3) := by decide +kernel
theorem dX7_countBefore_17 : decode cX7_countBefore 17 = .ok (.aload_n 0, 1) := by decide +kernel
theorem dX7_countBefore_18 : decode cX7_countBefore 18 = .ok (.getfield 24, 3) := by decide +kernel
theorem dX7_countBefore_21 : decode cX7_countBefore 21 = .ok (.iload_n 1, 1) := by decide +kernel
theorem dX7_countBefore_22 : decode cX7_countBefore 22 = .ok (.iload 4, 2) := by decide +kernel
theorem dX7_countBefore_24 : decode cX7_countBefore 24 = .ok (.invokevirtual 40, 3) := by decide +kernel
theorem dX7_countBefore_27 : decode cX7_countBefore 27 = .ok (.iload_n 2, 1) := by decide +kernel
theorem dX7_countBefore_28 : decode cX7_countBefore 28 = .ok (.if_icmp .ne 6, 3) := by decide +kernel
theorem dX7_countBefore_31 : decode cX7_countBefore 31 = .ok (.iinc 3 1, 3) := by decide +kernel
theorem dX7_countBefore_34 : decode cX7_countBefore 34 = .ok (.iinc 4 1, 3) := by decide +kernel
theorem dX7_countBefore_37 : decode cX7_countBefore 37 = .ok (.goto (-32), 3) := by decide +kernel
theorem dX7_countBefore_40 : decode cX7_countBefore 40 = .ok (.iload_n 3, 1) := by decide +kernel
theorem dX7_countBefore_41 : decode cX7_countBefore 41 = .ok (.ireturn, 1) := by decide +kernel
theorem dX7_lastCopiers_0 : decode cX7_lastCopiers 0 = .ok (.iconst 0, 1) := by decide +kernel
theorem dX7_lastCopiers_1 : decode cX7_lastCopiers 1 = .ok (.istore_n 2, 1) := by decide +kernel
theorem dX7_lastCopiers_2 : decode cX7_lastCopiers 2 = .ok (.iconst 0, 1) := by decide +kernel
theorem dX7_lastCopiers_3 : decode cX7_lastCopiers 3 = .ok (.istore_n 3, 1) := by decide +kernel
theorem dX7_lastCopiers_4 : decode cX7_lastCopiers 4 = .ok (.iload_n 3, 1) := by decide +kernel
theorem dX7_lastCopiers_5 : decode cX7_lastCopiers 5 = .ok (.aload_n 0, 1) := by decide +kernel
theorem dX7_lastCopiers_6 : decode cX7_lastCopiers 6 = .ok (.getfield 24, 3) := by decide +kernel
theorem dX7_lastCopiers_9 : decode cX7_lastCopiers 9 = .ok (.getfield 56, 3) := by decide +kernel
theorem dX7_lastCopiers_12 : decode cX7_lastCopiers 12 = .ok (.if_icmp .ge 24, 3) := by decide +kernel
theorem dX7_lastCopiers_15 : decode cX7_lastCopiers 15 = .ok (.aload_n 0, 1) := by decide +kernel
theorem dX7_lastCopiers_16 : decode cX7_lastCopiers 16 = .ok (.iload_n 3, 1) := by decide +kernel
theorem dX7_lastCopiers_17 : decode cX7_lastCopiers 17 = .ok (.iload_n 1, 1) := by decide +kernel
theorem dX7_lastCopiers_18 : decode cX7_lastCopiers 18 = .ok (.invokevirtual 59, 3) := by decide +kernel
theorem dX7_lastCopiers_21 : decode cX7_lastCopiers 21 = .ok (.ifCond .le 9, 3) := by decide +kernel
theorem dX7_lastCopiers_24 : decode cX7_lastCopiers 24 = .ok (.iload_n 2, 1) := by decide +kernel
theorem dX7_lastCopiers_25 : decode cX7_lastCopiers 25 = .ok (.iconst 1, 1) := by decide +kernel
theorem dX7_lastCopiers_26 : decode cX7_lastCopiers 26 = .ok (.iload_n 3, 1) := by decide +kernel
theorem dX7_lastCopiers_27 : decode cX7_lastCopiers 27 = .ok (.ishl, 1) := by decide +kernel
theorem dX7_lastCopiers_28 : decode cX7_lastCopiers 28 = .ok (.ior, 1) := by decide +kernel
theorem dX7_lastCopiers_29 : decode cX7_lastCopiers 29 = .ok (.istore_n 2, 1) := by decide +kernel
theorem dX7_lastCopiers_30 : decode cX7_lastCopiers 30 = .ok (.iinc 3 1, 3) := by decide +kernel
theorem dX7_lastCopiers_33 : decode cX7_lastCopiers 33 = .ok (.goto (-29), 3) := by decide +kernel
theorem dX7_lastCopiers_36 : decode cX7_lastCopiers 36 = .ok (.iload_n 2, 1) := by decide +kernel
theorem dX7_lastCopiers_37 : decode cX7_lastCopiers 37 = .ok (.ireturn, 1) := by decide +kernel
theorem dX7_sameLines_0 : decode cX7_sameLines 0 = .ok (.bipush (-9), 2) := by decide +kernel
theorem dX7_sameLines_2 : decode cX7_sameLines 2 = .ok (.istore_n 3, 1) := by decide +kernel
theorem dX7_sameLines_3 : decode cX7_sameLines 3 = .ok (.iconst 0, 1) := by decide +kernel
theorem dX7_sameLines_4 : decode cX7_sameLines 4 = .ok (.istore 4, 2) := by decide +kernel
theorem dX7_sameLines_6 : decode cX7_sameLines 6 = .ok (.iconst 0, 1) := by decide +kernel
theorem dX7_sameLines_7 : decode cX7_sameLines 7 = .ok (.istore 5, 2) := by decide +kernel
theorem dX7_sameLines_9 : decode cX7_sameLines 9 = .ok (.iload 5, 2) := by decide +kernel
theorem dX7_sameLines_11 : decode cX7_sameLines 11 = .ok (.aload_n 0, 1) := by decide +kernel
theorem dX7_sameLines_12 : decode cX7_sameLines 12 = .ok (.getfield 24, 3) := by decide +kernel
theorem dX7_sameLines_15 : decode cX7_sameLines 15 = .ok (.getfield 56, 3) := by decide +kernel
theorem dX7_sameLines_18 : decode cX7_sameLines 18 = .ok (.if_icmp .ge 79, 3) := by decide +kernel
theorem dX7_sameLines_21 : decode cX7_sameLines 21 = .ok (.iconst 0, 1) := by decide +kernel
theorem dX7_sameLines_22 : decode cX7_sameLines 22 = .ok (.istore 6, 2) := by decide +kernel
theorem dX7_sameLines_24 : decode cX7_sameLines 24 = .ok (.iload 6, 2) := by decide +kernel
theorem dX7_sameLines_26 : decode cX7_sameLines 26 = .ok (.aload_n 0, 1) := by decide +kernel
theorem dX7_sameLines_27 : decode cX7_sameLines 27 = .ok (.getfield 24, 3) := by decide +kernel
theorem dX7_sameLines_30 : decode cX7_sameLines 30 = .ok (.getfield 53, 3) := by decide +kernel
theorem dX7_sameLines_33 : decode cX7_sameLines 33 = .ok (.if_icmp .ge 58, 3) := by decide +kernel
theorem dX7_sameLines_36 : decode cX7_sameLines 36 = .ok (.aload_n 0, 1) := by decide +kernel
theorem dX7_sameLines_37 : decode cX7_sameLines 37 = .ok (.getfield 24, 3) := by decide +kernel
theorem dX7_sameLines_40 : decode cX7_sameLines 40 = .ok (.iload 5, 2) := by decide +kernel
theorem dX7_sameLines_42 : decode cX7_sameLines 42 = .ok (.iload 6, 2) := by decide +kernel
theorem dX7_sameLines_44 : decode cX7_sameLines 44 = .ok (.invokevirtual 40, 3) := by decide +kernel
theorem dX7_sameLines_47 : decode cX7_sameLines 47 = .ok (.iload_n 2, 1) := by decide +kernel
theorem dX7_sameLines_48 : decode cX7_sameLines 48 = .ok (.if_icmp .eq 6, 3) := by decide +kernel
theorem dX7_sameLines_51 : decode cX7_sameLines 51 = .ok (.goto 34, 3) := by decide +kernel
theorem dX7_sameLines_54 : decode cX7_sameLines 54 = .ok (.iload_n 3, 1) := by decide +kernel
theorem dX7_sameLines_55 : decode cX7_sameLines 55 = .ok (.bipush (-9), 2) := by decide +kernel
theorem dX7_sameLines_57 : decode cX7_sameLines 57 = .ok (.if_icmp .ne 16, 3) := by decide +kernel
theorem dX7_sameLines_60 : decode cX7_sameLines 60 = .ok (.iload 6, 2) := by decide +kernel
theorem dX7_sameLines_62 : decode cX7_sameLines 62 = .ok (.istore_n 3, 1) := by decide +kernel
theorem dX7_sameLines_63 : decode cX7_sameLines 63 = .ok (.iconst 1, 1) := by decide +kernel
theorem dX7_sameLines_64 : decode cX7_sameLines 64 = .ok (.aload_n 1, 1) := by decide +kernel
theorem dX7_sameLines_65 : decode cX7_sameLines 65 = .ok (.getfield 62, 3) := by decide +kernel
theorem dX7_sameLines_68 : decode cX7_sameLines 68 = .ok (.ishl, 1) := by decide +kernel
theorem dX7_sameLines_69 : decode cX7_sameLines 69 = .ok (.iconst 1, 1) := by decide +kernel
theorem dX7_sameLines_70 : decode cX7_sameLines 70 = .ok (.isub, 1) := by decide +kernel
theorem dX7_sameLines_71 : decode cX7_sameLines 71 = .ok (.istore 4, 2) := by decide +kernel
theorem dX7_sameLines_73 : decode cX7_sameLines 73 = .ok (.iload 4, 2) := by decide +kernel
theorem dX7_sameLines_75 : decode cX7_sameLines 75 = .ok (.aload_n 1, 1) := by decide +kernel
theorem dX7_sameLines_76 : decode cX7_sameLines 76 = .ok (.iload_n 3, 1) := by decide +kernel
theorem dX7_sameLines_77 : decode cX7_sameLines 77 = .ok (.iload 6, 2) := by decide +kernel
theorem dX7_sameLines_79 : decode cX7_sameLines 79 = .ok (.invokestatic 67, 3) := by decide +kernel
theorem dX7_sameLines_82 : decode cX7_sameLines 82 = .ok (.iand, 1) := by decide +kernel
theorem dX7_sameLines_83 : decode cX7_sameLines 83 = .ok (.istore 4, 2) := by decide +kernel
theorem dX7_sameLines_85 : decode cX7_sameLines 85 = .ok (.iinc 6 1, 3) := by decide +kernel
theorem dX7_sameLines_88 : decode cX7_sameLines 88 = .ok (.goto (-64), 3) := by decide +kernel
theorem dX7_sameLines_91 : decode cX7_sameLines 91 = .ok (.iinc 5 1, 3) := by decide +kernel
theorem dX7_sameLines_94 : decode cX7_sameLines 94 = .ok (.goto (-85), 3) := by decide +kernel
theorem dX7_sameLines_97 : decode cX7_sameLines 97 = .ok (.iload 4, 2) := by decide +kernel
theorem dX7_sameLines_99 : decode cX7_sameLines 99 = .ok (.ireturn, 1) := by decide +kernel
theorem dX7_alikeLines_0 : decode cX7_alikeLines 0 = .ok (.iconst 0, 1) := by decide +kernel
theorem dX7_alikeLines_1 : decode cX7_alikeLines 1 = .ok (.istore_n 3, 1) := by decide +kernel
theorem dX7_alikeLines_2 : decode cX7_alikeLines 2 = .ok (.iconst 0, 1) := by decide +kernel
theorem dX7_alikeLines_3 : decode cX7_alikeLines 3 = .ok (.istore 4, 2) := by decide +kernel
theorem dX7_alikeLines_5 : decode cX7_alikeLines 5 = .ok (.iload 4, 2) := by decide +kernel
theorem dX7_alikeLines_7 : decode cX7_alikeLines 7 = .ok (.aload_n 0, 1) := by decide +kernel
theorem dX7_alikeLines_8 : decode cX7_alikeLines 8 = .ok (.getfield 62, 3) := by decide +kernel
theorem dX7_alikeLines_11 : decode cX7_alikeLines 11 = .ok (.if_icmp .ge 33, 3) := by decide +kernel
theorem dX7_alikeLines_14 : decode cX7_alikeLines 14 = .ok (.aload_n 0, 1) := by decide +kernel
theorem dX7_alikeLines_15 : decode cX7_alikeLines 15 = .ok (.iload_n 1, 1) := by decide +kernel
theorem dX7_alikeLines_16 : decode cX7_alikeLines 16 = .ok (.iload 4, 2) := by decide +kernel
theorem dX7_alikeLines_18 : decode cX7_alikeLines 18 = .ok (.invokevirtual 71, 3) := by decide +kernel
theorem dX7_alikeLines_21 : decode cX7_alikeLines 21 = .ok (.aload_n 0, 1) := by decide +kernel
theorem dX7_alikeLines_22 : decode cX7_alikeLines 22 = .ok (.iload_n 2, 1) := by decide +kernel
theorem dX7_alikeLines_23 : decode cX7_alikeLines 23 = .ok (.iload 4, 2) := by decide +kernel
theorem dX7_alikeLines_25 : decode cX7_alikeLines 25 = .ok (.invokevirtual 71, 3) := by decide +kernel
theorem dX7_alikeLines_28 : decode cX7_alikeLines 28 = .ok (.if_icmp .ne 10, 3) := by decide +kernel
theorem dX7_alikeLines_31 : decode cX7_alikeLines 31 = .ok (.iload_n 3, 1) := by decide +kernel
theorem dX7_alikeLines_32 : decode cX7_alikeLines 32 = .ok (.iconst 1, 1) := by decide +kernel
theorem dX7_alikeLines_33 : decode cX7_alikeLines 33 = .ok (.iload 4, 2) := by decide +kernel
theorem dX7_alikeLines_35 : decode cX7_alikeLines 35 = .ok (.ishl, 1) := by decide +kernel
theorem dX7_alikeLines_36 : decode cX7_alikeLines 36 = .ok (.ior, 1) := by decide +kernel
theorem dX7_alikeLines_37 : decode cX7_alikeLines 37 = .ok (.istore_n 3, 1) := by decide +kernel
theorem dX7_alikeLines_38 : decode cX7_alikeLines 38 = .ok (.iinc 4 1, 3) := by decide +kernel
theorem dX7_alikeLines_41 : decode cX7_alikeLines 41 = .ok (.goto (-36), 3) := by decide +kernel
theorem dX7_alikeLines_44 : decode cX7_alikeLines 44 = .ok (.iload_n 3, 1) := by decide +kernel
theorem dX7_alikeLines_45 : decode cX7_alikeLines 45 = .ok (.ireturn, 1) := by decide +kernel
theorem dX8_init_0 : decode cX8_init 0 = .ok (.aload_n 0, 1) := by decide +kernel
theorem dX8_init_1 : decode cX8_init 1 = .ok (.invokespecial 1, 3) := by decide +kernel
theorem dX8_init_4 : decode cX8_init 4 = .ok (.aload_n 0, 1) := by decide +kernel
theorem dX8_init_5 : decode cX8_init 5 = .ok (.new 7, 3) := by decide +kernel
theorem dX8_init_8 : decode cX8_init 8 = .ok (.dup, 1) := by decide +kernel
theorem dX8_init_9 : decode cX8_init 9 = .ok (.invokespecial 9, 3) := by decide +kernel
theorem dX8_init_12 : decode cX8_init 12 = .ok (.putfield 10, 3) := by decide +kernel
theorem dX8_init_15 : decode cX8_init 15 = .ok (.aload_n 0, 1) := by decide +kernel
theorem dX8_init_16 : decode cX8_init 16 = .ok (.new 7, 3) := by decide +kernel
theorem dX8_init_19 : decode cX8_init 19 = .ok (.dup, 1) := by decide +kernel
theorem dX8_init_20 : decode cX8_init 20 = .ok (.invokespecial 9, 3) := by decide +kernel
theorem dX8_init_23 : decode cX8_init 23 = .ok (.putfield 16, 3) := by decide +kernel
theorem dX8_init_26 : decode cX8_init 26 = .ok (.aload_n 0, 1) := by decide +kernel
theorem dX8_init_27 : decode cX8_init 27 = .ok (.new 19, 3) := by decide +kernel
theorem dX8_init_30 : decode cX8_init 30 = .ok (.dup, 1) := by decide +kernel
theorem dX8_init_31 : decode cX8_init 31 = .ok (.invokespecial 21, 3) := by decide +kernel
theorem dX8_init_34 : decode cX8_init 34 = .ok (.putfield 22, 3) := by decide +kernel
theorem dX8_init_37 : decode cX8_init 37 = .ok (.aload_n 0, 1) := by decide +kernel
theorem dX8_init_38 : decode cX8_init 38 = .ok (.new 26, 3) := by decide +kernel
theorem dX8_init_41 : decode cX8_init 41 = .ok (.dup, 1) := by decide +kernel
theorem dX8_init_42 : decode cX8_init 42 = .ok (.invokespecial 28, 3) := by decide +kernel
theorem dX8_init_45 : decode cX8_init 45 = .ok (.putfield 29, 3) := by decide +kernel
theorem dX8_init_48 : decode cX8_init 48 = .ok (.aload_n 0, 1) := by decide +kernel
theorem dX8_init_49 : decode cX8_init 49 = .ok (.new 33, 3) := by decide +kernel
theorem dX8_init_52 : decode cX8_init 52 = .ok (.dup, 1) := by decide +kernel
theorem dX8_init_53 : decode cX8_init 53 = .ok (.invokespecial 35, 3) := by decide +kernel
theorem dX8_init_56 : decode cX8_init 56 = .ok (.putfield 36, 3) := by decide +kernel
theorem dX8_init_59 : decode cX8_init 59 = .ok (.aload_n 0, 1) := by decide +kernel
theorem dX8_init_60 : decode cX8_init 60 = .ok (.new 33, 3) := by decide +kernel
theorem dX8_init_63 : decode cX8_init 63 = .ok (.dup, 1) := by decide +kernel
theorem dX8_init_64 : decode cX8_init 64 = .ok (.invokespecial 35, 3) := by decide +kernel
theorem dX8_init_67 : decode cX8_init 67 = .ok (.putfield 40, 3) := by decide +kernel
theorem dX8_init_70 : decode cX8_init 70 = .ok (.aload_n 0, 1) := by decide +kernel
theorem dX8_init_71 : decode cX8_init 71 = .ok (.new 33, 3) := by decide +kernel
theorem dX8_init_74 : decode cX8_init 74 = .ok (.dup, 1) := by decide +kernel
theorem dX8_init_75 : decode cX8_init 75 = .ok (.invokespecial 35, 3) := by decide +kernel
theorem dX8_init_78 : decode cX8_init 78 = .ok (.putfield 43, 3) := by decide +kernel
theorem dX8_init_81 : decode cX8_init 81 = .ok (.aload_n 0, 1) := by decide +kernel
theorem dX8_init_82 : decode cX8_init 82 = .ok (.new 46, 3) := by decide +kernel
theorem dX8_init_85 : decode cX8_init 85 = .ok (.dup, 1) := by decide +kernel
theorem dX8_init_86 : decode cX8_init 86 = .ok (.aload_n 0, 1) := by decide +kernel
theorem dX8_init_87 : decode cX8_init 87 = .ok (.getfield 29, 3) := by decide +kernel
theorem dX8_init_90 : decode cX8_init 90 = .ok (.invokespecial 48, 3) := by decide +kernel
theorem dX8_init_93 : decode cX8_init 93 = .ok (.putfield 51, 3) := by decide +kernel
theorem dX8_init_96 : decode cX8_init 96 = .ok (.aload_n 0, 1) := by decide +kernel
theorem dX8_init_97 : decode cX8_init 97 = .ok (.new 55, 3) := by decide +kernel
theorem dX8_init_100 : decode cX8_init 100 = .ok (.dup, 1) := by decide +kernel
theorem dX8_init_101 : decode cX8_init 101 = .ok (.aload_n 0, 1) := by decide +kernel
theorem dX8_init_102 : decode cX8_init 102 = .ok (.getfield 29, 3) := by decide +kernel
theorem dX8_init_105 : decode cX8_init 105 = .ok (.invokespecial 57, 3) := by decide +kernel
theorem dX8_init_108 : decode cX8_init 108 = .ok (.putfield 58, 3) := by decide +kernel
theorem dX8_init_111 : decode cX8_init 111 = .ok (.aload_n 0, 1) := by decide +kernel
theorem dX8_init_112 : decode cX8_init 112 = .ok (.new 62, 3) := by decide +kernel
theorem dX8_init_115 : decode cX8_init 115 = .ok (.dup, 1) := by decide +kernel
theorem dX8_init_116 : decode cX8_init 116 = .ok (.invokespecial 64, 3) := by decide +kernel
theorem dX8_init_119 : decode cX8_init 119 = .ok (.putfield 65, 3) := by decide +kernel
theorem dX8_init_122 : decode cX8_init 122 = .ok (.aload_n 0, 1) := by decide +kernel
theorem dX8_init_123 : decode cX8_init 123 = .ok (.new 69, 3) := by decide +kernel
theorem dX8_init_126 : decode cX8_init 126 = .ok (.dup, 1) := by decide +kernel
theorem dX8_init_127 : decode cX8_init 127 = .ok (.invokespecial 71, 3) := by decide +kernel
theorem dX8_init_130 : decode cX8_init 130 = .ok (.putfield 72, 3) := by decide +kernel
theorem dX8_init_133 : decode cX8_init 133 = .ok (.return_, 1) := by decide +kernel
theorem dX8_type_0 : decode cX8_type 0 = .ok (.iload_n 1, 1) := by decide +kernel
theorem dX8_type_1 : decode cX8_type 1 = .ok (.ifCond .lt 10, 3) := by decide +kernel
theorem dX8_type_4 : decode cX8_type 4 = .ok (.iload_n 1, 1) := by decide +kernel
theorem dX8_type_5 : decode cX8_type 5 = .ok (.sipush 255, 3) := by decide +kernel
theorem dX8_type_8 : decode cX8_type 8 = .ok (.if_icmp .le 5, 3) := by decide +kernel
theorem dX8_type_11 : decode cX8_type 11 = .ok (.iconst (-1), 1) := by decide +kernel
theorem dX8_type_12 : decode cX8_type 12 = .ok (.ireturn, 1) := by decide +kernel
theorem dX8_type_13 : decode cX8_type 13 = .ok (.aload_n 0, 1) := by decide +kernel
theorem dX8_type_14 : decode cX8_type 14 = .ok (.getfield 22, 3) := by decide +kernel
theorem dX8_type_17 : decode cX8_type 17 = .ok (.iload_n 1, 1) := by decide +kernel
theorem dX8_type_18 : decode cX8_type 18 = .ok (.invokevirtual 76, 3) := by decide +kernel
theorem dX8_type_21 : decode cX8_type 21 = .ok (.ifCond .eq 13, 3) := by decide +kernel
theorem dX8_type_24 : decode cX8_type 24 = .ok (.aload_n 0, 1) := by decide +kernel
theorem dX8_type_25 : decode cX8_type 25 = .ok (.getfield 22, 3) := by decide +kernel
theorem dX8_type_28 : decode cX8_type 28 = .ok (.getfield 80, 3) := by decide +kernel
theorem dX8_type_31 : decode cX8_type 31 = .ok (.goto 5, 3) := by decide +kernel
theorem dX8_type_34 : decode cX8_type 34 = .ok (.bipush (-3), 2) := by decide +kernel
theorem dX8_type_36 : decode cX8_type 36 = .ok (.ireturn, 1) := by decide +kernel
theorem dX8_clear_0 : decode cX8_clear 0 = .ok (.aload_n 0, 1) := by decide +kernel
theorem dX8_clear_1 : decode cX8_clear 1 = .ok (.getfield 22, 3) := by decide +kernel
theorem dX8_clear_4 : decode cX8_clear 4 = .ok (.invokevirtual 84, 3) := by decide +kernel
