theorem dX8_clear_7 : decode cX8_clear 7 = .ok (.ireturn, 1) := by decide +kernel
theorem dX8_house_0 : decode cX8_house 0 = .ok (.aload_n 0, 1) := by decide +kernel
theorem dX8_house_1 : decode cX8_house 1 = .ok (.getfield 22, 3) := by decide +kernel
theorem dX8_house_4 : decode cX8_house 4 = .ok (.aload_n 0, 1) := by decide +kernel
theorem dX8_house_5 : decode cX8_house 5 = .ok (.getfield 16, 3) := by decide +kernel
theorem dX8_house_8 : decode cX8_house 8 = .ok (.invokevirtual 88, 3) := by decide +kernel
theorem dX8_house_11 : decode cX8_house 11 = .ok (.istore_n 1, 1) := by decide +kernel
theorem dX8_house_12 : decode cX8_house 12 = .ok (.iload_n 1, 1) := by decide +kernel
theorem dX8_house_13 : decode cX8_house 13 = .ok (.ifCond .ge 5, 3) := by decide +kernel
theorem dX8_house_16 : decode cX8_house 16 = .ok (.iload_n 1, 1) := by decide +kernel
theorem dX8_house_17 : decode cX8_house 17 = .ok (.ireturn, 1) := by decide +kernel
theorem dX8_house_18 : decode cX8_house 18 = .ok (.aload_n 0, 1) := by decide +kernel
theorem dX8_house_19 : decode cX8_house 19 = .ok (.getfield 16, 3) := by decide +kernel
theorem dX8_house_22 : decode cX8_house 22 = .ok (.astore_n 2, 1) := by decide +kernel
theorem dX8_house_23 : decode cX8_house 23 = .ok (.aload_n 0, 1) := by decide +kernel
theorem dX8_house_24 : decode cX8_house 24 = .ok (.aload_n 0, 1) := by decide +kernel
theorem dX8_house_25 : decode cX8_house 25 = .ok (.getfield 10, 3) := by decide +kernel
theorem dX8_house_28 : decode cX8_house 28 = .ok (.putfield 16, 3) := by decide +kernel
theorem dX8_house_31 : decode cX8_house 31 = .ok (.aload_n 0, 1) := by decide +kernel
theorem dX8_house_32 : decode cX8_house 32 = .ok (.aload_n 2, 1) := by decide +kernel
theorem dX8_house_33 : decode cX8_house 33 = .ok (.putfield 10, 3) := by decide +kernel
theorem dX8_house_36 : decode cX8_house 36 = .ok (.aload_n 0, 1) := by decide +kernel
theorem dX8_house_37 : decode cX8_house 37 = .ok (.getfield 22, 3) := by decide +kernel
theorem dX8_house_40 : decode cX8_house 40 = .ok (.invokevirtual 84, 3) := by decide +kernel
theorem dX8_house_43 : decode cX8_house 43 = .ok (.pop, 1) := by decide +kernel
theorem dX8_house_44 : decode cX8_house 44 = .ok (.aload_n 0, 1) := by decide +kernel
theorem dX8_house_45 : decode cX8_house 45 = .ok (.getfield 29, 3) := by decide +kernel
theorem dX8_house_48 : decode cX8_house 48 = .ok (.aload_n 0, 1) := by decide +kernel
theorem dX8_house_49 : decode cX8_house 49 = .ok (.getfield 10, 3) := by decide +kernel
theorem dX8_house_52 : decode cX8_house 52 = .ok (.invokevirtual 92, 3) := by decide +kernel
theorem dX8_house_55 : decode cX8_house 55 = .ok (.aload_n 0, 1) := by decide +kernel
theorem dX8_house_56 : decode cX8_house 56 = .ok (.getfield 36, 3) := by decide +kernel
theorem dX8_house_59 : decode cX8_house 59 = .ok (.aload_n 0, 1) := by decide +kernel
theorem dX8_house_60 : decode cX8_house 60 = .ok (.getfield 10, 3) := by decide +kernel
theorem dX8_house_63 : decode cX8_house 63 = .ok (.getfield 96, 3) := by decide +kernel
theorem dX8_house_66 : decode cX8_house 66 = .ok (.invokevirtual 99, 3) := by decide +kernel
theorem dX8_house_69 : decode cX8_house 69 = .ok (.aload_n 0, 1) := by decide +kernel
theorem dX8_house_70 : decode cX8_house 70 = .ok (.aload_n 0, 1) := by decide +kernel
theorem dX8_house_71 : decode cX8_house 71 = .ok (.getfield 10, 3) := by decide +kernel
theorem dX8_house_74 : decode cX8_house 74 = .ok (.getfield 96, 3) := by decide +kernel
theorem dX8_house_77 : decode cX8_house 77 = .ok (.putfield 103, 3) := by decide +kernel
theorem dX8_house_80 : decode cX8_house 80 = .ok (.aload_n 0, 1) := by decide +kernel
theorem dX8_house_81 : decode cX8_house 81 = .ok (.getfield 65, 3) := by decide +kernel
theorem dX8_house_84 : decode cX8_house 84 = .ok (.invokevirtual 106, 3) := by decide +kernel
theorem dX8_house_87 : decode cX8_house 87 = .ok (.pop, 1) := by decide +kernel
theorem dX8_house_88 : decode cX8_house 88 = .ok (.aload_n 0, 1) := by decide +kernel
theorem dX8_house_89 : decode cX8_house 89 = .ok (.iconst 0, 1) := by decide +kernel
theorem dX8_house_90 : decode cX8_house 90 = .ok (.putfield 107, 3) := by decide +kernel
theorem dX8_house_93 : decode cX8_house 93 = .ok (.aload_n 0, 1) := by decide +kernel
theorem dX8_house_94 : decode cX8_house 94 = .ok (.iconst 0, 1) := by decide +kernel
theorem dX8_house_95 : decode cX8_house 95 = .ok (.putfield 111, 3) := by decide +kernel
theorem dX8_house_98 : decode cX8_house 98 = .ok (.iload_n 1, 1) := by decide +kernel
theorem dX8_house_99 : decode cX8_house 99 = .ok (.ireturn, 1) := by decide +kernel
theorem dX8_line_0 : decode cX8_line 0 = .ok (.aload_n 0, 1) := by decide +kernel
theorem dX8_line_1 : decode cX8_line 1 = .ok (.getfield 10, 3) := by decide +kernel
theorem dX8_line_4 : decode cX8_line 4 = .ok (.iload_n 1, 1) := by decide +kernel
theorem dX8_line_5 : decode cX8_line 5 = .ok (.invokevirtual 114, 3) := by decide +kernel
theorem dX8_line_8 : decode cX8_line 8 = .ok (.ifCond .eq 12, 3) := by decide +kernel
theorem dX8_line_11 : decode cX8_line 11 = .ok (.iload_n 2, 1) := by decide +kernel
theorem dX8_line_12 : decode cX8_line 12 = .ok (.ifCond .lt 8, 3) := by decide +kernel
theorem dX8_line_15 : decode cX8_line 15 = .ok (.iload_n 2, 1) := by decide +kernel
theorem dX8_line_16 : decode cX8_line 16 = .ok (.iconst 1, 1) := by decide +kernel
theorem dX8_line_17 : decode cX8_line 17 = .ok (.if_icmp .le 5, 3) := by decide +kernel
theorem dX8_line_20 : decode cX8_line 20 = .ok (.iconst (-1), 1) := by decide +kernel
theorem dX8_line_21 : decode cX8_line 21 = .ok (.ireturn, 1) := by decide +kernel
theorem dX8_line_22 : decode cX8_line 22 = .ok (.aload_n 0, 1) := by decide +kernel
theorem dX8_line_23 : decode cX8_line 23 = .ok (.getfield 10, 3) := by decide +kernel
theorem dX8_line_26 : decode cX8_line 26 = .ok (.iload_n 2, 1) := by decide +kernel
theorem dX8_line_27 : decode cX8_line 27 = .ok (.ifCond .ne 13, 3) := by decide +kernel
theorem dX8_line_30 : decode cX8_line 30 = .ok (.aload_n 0, 1) := by decide +kernel
theorem dX8_line_31 : decode cX8_line 31 = .ok (.getfield 36, 3) := by decide +kernel
theorem dX8_line_34 : decode cX8_line 34 = .ok (.invokevirtual 117, 3) := by decide +kernel
theorem dX8_line_37 : decode cX8_line 37 = .ok (.goto 7, 3) := by decide +kernel
theorem dX8_line_40 : decode cX8_line 40 = .ok (.aload_n 0, 1) := by decide +kernel
theorem dX8_line_41 : decode cX8_line 41 = .ok (.getfield 103, 3) := by decide +kernel
theorem dX8_line_44 : decode cX8_line 44 = .ok (.iload_n 1, 1) := by decide +kernel
theorem dX8_line_45 : decode cX8_line 45 = .ok (.invokevirtual 120, 3) := by decide +kernel
theorem dX8_line_48 : decode cX8_line 48 = .ok (.ireturn, 1) := by decide +kernel
theorem dX8_scribe_0 : decode cX8_scribe 0 = .ok (.aload_n 0, 1) := by decide +kernel
theorem dX8_scribe_1 : decode cX8_scribe 1 = .ok (.getfield 10, 3) := by decide +kernel
theorem dX8_scribe_4 : decode cX8_scribe 4 = .ok (.iload_n 1, 1) := by decide +kernel
theorem dX8_scribe_5 : decode cX8_scribe 5 = .ok (.invokevirtual 124, 3) := by decide +kernel
theorem dX8_scribe_8 : decode cX8_scribe 8 = .ok (.ifCond .ne 5, 3) := by decide +kernel
theorem dX8_scribe_11 : decode cX8_scribe 11 = .ok (.iconst (-1), 1) := by decide +kernel
theorem dX8_scribe_12 : decode cX8_scribe 12 = .ok (.ireturn, 1) := by decide +kernel
theorem dX8_scribe_13 : decode cX8_scribe 13 = .ok (.aload_n 0, 1) := by decide +kernel
theorem dX8_scribe_14 : decode cX8_scribe 14 = .ok (.getfield 36, 3) := by decide +kernel
theorem dX8_scribe_17 : decode cX8_scribe 17 = .ok (.invokevirtual 117, 3) := by decide +kernel
theorem dX8_scribe_20 : decode cX8_scribe 20 = .ok (.istore_n 3, 1) := by decide +kernel
theorem dX8_scribe_21 : decode cX8_scribe 21 = .ok (.iload_n 2, 1) := by decide +kernel
theorem dX8_scribe_22 : decode cX8_scribe 22 = .ok (.tableswitch 124 0 6 #[42, 51, 60, 77, 86, 96, 114], 42) := by decide +kernel
theorem dX8_scribe_64 : decode cX8_scribe 64 = .ok (.aload_n 0, 1) := by decide +kernel
theorem dX8_scribe_65 : decode cX8_scribe 65 = .ok (.getfield 10, 3) := by decide +kernel
theorem dX8_scribe_68 : decode cX8_scribe 68 = .ok (.iload_n 1, 1) := by decide +kernel
theorem dX8_scribe_69 : decode cX8_scribe 69 = .ok (.invokevirtual 127, 3) := by decide +kernel
theorem dX8_scribe_72 : decode cX8_scribe 72 = .ok (.ireturn, 1) := by decide +kernel
theorem dX8_scribe_73 : decode cX8_scribe 73 = .ok (.aload_n 0, 1) := by decide +kernel
theorem dX8_scribe_74 : decode cX8_scribe 74 = .ok (.getfield 10, 3) := by decide +kernel
theorem dX8_scribe_77 : decode cX8_scribe 77 = .ok (.iload_n 1, 1) := by decide +kernel
theorem dX8_scribe_78 : decode cX8_scribe 78 = .ok (.invokevirtual 131, 3) := by decide +kernel
theorem dX8_scribe_81 : decode cX8_scribe 81 = .ok (.ireturn, 1) := by decide +kernel
theorem dX8_scribe_82 : decode cX8_scribe 82 = .ok (.aload_n 0, 1) := by decide +kernel
theorem dX8_scribe_83 : decode cX8_scribe 83 = .ok (.getfield 36, 3) := by decide +kernel
theorem dX8_scribe_86 : decode cX8_scribe 86 = .ok (.iload_n 1, 1) := by decide +kernel
theorem dX8_scribe_87 : decode cX8_scribe 87 = .ok (.invokevirtual 134, 3) := by decide +kernel
theorem dX8_scribe_90 : decode cX8_scribe 90 = .ok (.ifCond .eq 7, 3) := by decide +kernel
theorem dX8_scribe_93 : decode cX8_scribe 93 = .ok (.iconst 1, 1) := by decide +kernel
theorem dX8_scribe_94 : decode cX8_scribe 94 = .ok (.goto 4, 3) := by decide +kernel
theorem dX8_scribe_97 : decode cX8_scribe 97 = .ok (.iconst 0, 1) := by decide +kernel
theorem dX8_scribe_98 : decode cX8_scribe 98 = .ok (.ireturn, 1) := by decide +kernel
theorem dX8_scribe_99 : decode cX8_scribe 99 = .ok (.aload_n 0, 1) := by decide +kernel
theorem dX8_scribe_100 : decode cX8_scribe 100 = .ok (.getfield 36, 3) := by decide +kernel
theorem dX8_scribe_103 : decode cX8_scribe 103 = .ok (.iload_n 1, 1) := by decide +kernel
theorem dX8_scribe_104 : decode cX8_scribe 104 = .ok (.invokevirtual 137, 3) := by decide +kernel
theorem dX8_scribe_107 : decode cX8_scribe 107 = .ok (.ireturn, 1) := by decide +kernel
theorem dX8_scribe_108 : decode cX8_scribe 108 = .ok (.aload_n 0, 1) := by decide +kernel
theorem dX8_scribe_109 : decode cX8_scribe 109 = .ok (.getfield 10, 3) := by decide +kernel
theorem dX8_scribe_112 : decode cX8_scribe 112 = .ok (.iload_n 1, 1) := by decide +kernel
theorem dX8_scribe_113 : decode cX8_scribe 113 = .ok (.iload_n 3, 1) := by decide +kernel
theorem dX8_scribe_114 : decode cX8_scribe 114 = .ok (.invokevirtual 140, 3) := by decide +kernel
theorem dX8_scribe_117 : decode cX8_scribe 117 = .ok (.ireturn, 1) := by decide +kernel
theorem dX8_scribe_118 : decode cX8_scribe 118 = .ok (.aload_n 0, 1) := by decide +kernel
theorem dX8_scribe_119 : decode cX8_scribe 119 = .ok (.getfield 10, 3) := by decide +kernel
theorem dX8_scribe_122 : decode cX8_scribe 122 = .ok (.iload_n 1, 1) := by decide +kernel
theorem dX8_scribe_123 : decode cX8_scribe 123 = .ok (.iload_n 3, 1) := by decide +kernel
theorem dX8_scribe_124 : decode cX8_scribe 124 = .ok (.invokevirtual 143, 3) := by decide +kernel
theorem dX8_scribe_127 : decode cX8_scribe 127 = .ok (.ifCond .eq 7, 3) := by decide +kernel
theorem dX8_scribe_130 : decode cX8_scribe 130 = .ok (.iconst 1, 1) := by decide +kernel
theorem dX8_scribe_131 : decode cX8_scribe 131 = .ok (.goto 4, 3) := by decide +kernel
theorem dX8_scribe_134 : decode cX8_scribe 134 = .ok (.iconst 0, 1) := by decide +kernel
theorem dX8_scribe_135 : decode cX8_scribe 135 = .ok (.ireturn, 1) := by decide +kernel
theorem dX8_scribe_136 : decode cX8_scribe 136 = .ok (.aload_n 0, 1) := by decide +kernel
theorem dX8_scribe_137 : decode cX8_scribe 137 = .ok (.getfield 10, 3) := by decide +kernel
theorem dX8_scribe_140 : decode cX8_scribe 140 = .ok (.iload_n 1, 1) := by decide +kernel
theorem dX8_scribe_141 : decode cX8_scribe 141 = .ok (.iload_n 3, 1) := by decide +kernel
theorem dX8_scribe_142 : decode cX8_scribe 142 = .ok (.invokevirtual 147, 3) := by decide +kernel
theorem dX8_scribe_145 : decode cX8_scribe 145 = .ok (.ireturn, 1) := by decide +kernel
theorem dX8_scribe_146 : decode cX8_scribe 146 = .ok (.iconst (-1), 1) := by decide +kernel
theorem dX8_scribe_147 : decode cX8_scribe 147 = .ok (.ireturn, 1) := by decide +kernel
theorem dX8_says_0 : decode cX8_says 0 = .ok (.aload_n 0, 1) := by decide +kernel
theorem dX8_says_1 : decode cX8_says 1 = .ok (.getfield 10, 3) := by decide +kernel
theorem dX8_says_4 : decode cX8_says 4 = .ok (.iload_n 1, 1) := by decide +kernel
theorem dX8_says_5 : decode cX8_says 5 = .ok (.invokevirtual 124, 3) := by decide +kernel
theorem dX8_says_8 : decode cX8_says 8 = .ok (.ifCond .eq 26, 3) := by decide +kernel
theorem dX8_says_11 : decode cX8_says 11 = .ok (.aload_n 0, 1) := by decide +kernel
theorem dX8_says_12 : decode cX8_says 12 = .ok (.getfield 10, 3) := by decide +kernel
theorem dX8_says_15 : decode cX8_says 15 = .ok (.iload_n 2, 1) := by decide +kernel
theorem dX8_says_16 : decode cX8_says 16 = .ok (.invokevirtual 150, 3) := by decide +kernel
theorem dX8_says_19 : decode cX8_says 19 = .ok (.ifCond .eq 15, 3) := by decide +kernel
theorem dX8_says_22 : decode cX8_says 22 = .ok (.aload_n 0, 1) := by decide +kernel
theorem dX8_says_23 : decode cX8_says 23 = .ok (.getfield 10, 3) := by decide +kernel
theorem dX8_says_26 : decode cX8_says 26 = .ok (.iload_n 1, 1) := by decide +kernel
theorem dX8_says_27 : decode cX8_says 27 = .ok (.iload_n 2, 1) := by decide +kernel
theorem dX8_says_28 : decode cX8_says 28 = .ok (.invokevirtual 153, 3) := by decide +kernel
theorem dX8_says_31 : decode cX8_says 31 = .ok (.goto 4, 3) := by decide +kernel
theorem dX8_says_34 : decode cX8_says 34 = .ok (.iconst (-1), 1) := by decide +kernel
theorem dX8_says_35 : decode cX8_says 35 = .ok (.ireturn, 1) := by decide +kernel
theorem dX8_copies_0 : decode cX8_copies 0 = .ok (.aload_n 0, 1) := by decide +kernel
theorem dX8_copies_1 : decode cX8_copies 1 = .ok (.getfield 10, 3) := by decide +kernel
theorem dX8_copies_4 : decode cX8_copies 4 = .ok (.iload_n 1, 1) := by decide +kernel
theorem dX8_copies_5 : decode cX8_copies 5 = .ok (.invokevirtual 124, 3) := by decide +kernel
theorem dX8_copies_8 : decode cX8_copies 8 = .ok (.ifCond .ne 5, 3) := by decide +kernel
theorem dX8_copies_11 : decode cX8_copies 11 = .ok (.iconst (-1), 1) := by decide +kernel
theorem dX8_copies_12 : decode cX8_copies 12 = .ok (.ireturn, 1) := by decide +kernel
theorem dX8_copies_13 : decode cX8_copies 13 = .ok (.aload_n 0, 1) := by decide +kernel
theorem dX8_copies_14 : decode cX8_copies 14 = .ok (.getfield 36, 3) := by decide +kernel
theorem dX8_copies_17 : decode cX8_copies 17 = .ok (.invokevirtual 117, 3) := by decide +kernel
theorem dX8_copies_20 : decode cX8_copies 20 = .ok (.istore_n 2, 1) := by decide +kernel
theorem dX8_copies_21 : decode cX8_copies 21 = .ok (.aload_n 0, 1) := by decide +kernel
theorem dX8_copies_22 : decode cX8_copies 22 = .ok (.getfield 36, 3) := by decide +kernel
theorem dX8_copies_25 : decode cX8_copies 25 = .ok (.iload_n 1, 1) := by decide +kernel
theorem dX8_copies_26 : decode cX8_copies 26 = .ok (.invokevirtual 134, 3) := by decide +kernel
theorem dX8_copies_29 : decode cX8_copies 29 = .ok (.ifCond .ne 28, 3) := by decide +kernel
theorem dX8_copies_32 : decode cX8_copies 32 = .ok (.aload_n 0, 1) := by decide +kernel
theorem dX8_copies_33 : decode cX8_copies 33 = .ok (.getfield 10, 3) := by decide +kernel
theorem dX8_copies_36 : decode cX8_copies 36 = .ok (.iload_n 1, 1) := by decide +kernel
theorem dX8_copies_37 : decode cX8_copies 37 = .ok (.iload_n 2, 1) := by decide +kernel
theorem dX8_copies_38 : decode cX8_copies 38 = .ok (.invokevirtual 143, 3) := by decide +kernel
theorem dX8_copies_41 : decode cX8_copies 41 = .ok (.ifCond .ne 16, 3) := by decide +kernel
theorem dX8_copies_44 : decode cX8_copies 44 = .ok (.aload_n 0, 1) := by decide +kernel
theorem dX8_copies_45 : decode cX8_copies 45 = .ok (.getfield 36, 3) := by decide +kernel
theorem dX8_copies_48 : decode cX8_copies 48 = .ok (.invokevirtual 156, 3) := by decide +kernel
theorem dX8_copies_51 : decode cX8_copies 51 = .ok (.sipush 999, 3) := by decide +kernel
theorem dX8_copies_54 : decode cX8_copies 54 = .ok (.if_icmp .lt 6, 3) := by decide +kernel
theorem dX8_copies_57 : decode cX8_copies 57 = .ok (.bipush (-2), 2) := by decide +kernel
theorem dX8_copies_59 : decode cX8_copies 59 = .ok (.ireturn, 1) := by decide +kernel
theorem dX8_copies_60 : decode cX8_copies 60 = .ok (.aload_n 0, 1) := by decide +kernel
theorem dX8_copies_61 : decode cX8_copies 61 = .ok (.getfield 36, 3) := by decide +kernel
theorem dX8_copies_64 : decode cX8_copies 64 = .ok (.invokevirtual 159, 3) := by decide +kernel
theorem dX8_copies_67 : decode cX8_copies 67 = .ok (.aload_n 0, 1) := by decide +kernel
theorem dX8_copies_68 : decode cX8_copies 68 = .ok (.getfield 36, 3) := by decide +kernel
theorem dX8_copies_71 : decode cX8_copies 71 = .ok (.iload_n 1, 1) := by decide +kernel
theorem dX8_copies_72 : decode cX8_copies 72 = .ok (.aload_n 0, 1) := by decide +kernel
theorem dX8_copies_73 : decode cX8_copies 73 = .ok (.getfield 10, 3) := by decide +kernel
theorem dX8_copies_76 : decode cX8_copies 76 = .ok (.iload_n 1, 1) := by decide +kernel
theorem dX8_copies_77 : decode cX8_copies 77 = .ok (.iload_n 2, 1) := by decide +kernel
theorem dX8_copies_78 : decode cX8_copies 78 = .ok (.invokevirtual 162, 3) := by decide +kernel
theorem dX8_copies_81 : decode cX8_copies 81 = .ok (.invokevirtual 165, 3) := by decide +kernel
theorem dX8_copies_84 : decode cX8_copies 84 = .ok (.aload_n 0, 1) := by decide +kernel
theorem dX8_copies_85 : decode cX8_copies 85 = .ok (.getfield 36, 3) := by decide +kernel
theorem dX8_copies_88 : decode cX8_copies 88 = .ok (.invokevirtual 156, 3) := by decide +kernel
theorem dX8_copies_91 : decode cX8_copies 91 = .ok (.ireturn, 1) := by decide +kernel
theorem dX8_errs_0 : decode cX8_errs 0 = .ok (.aload_n 0, 1) := by decide +kernel
theorem dX8_errs_1 : decode cX8_errs 1 = .ok (.getfield 10, 3) := by decide +kernel
theorem dX8_errs_4 : decode cX8_errs 4 = .ok (.iload_n 1, 1) := by decide +kernel
theorem dX8_errs_5 : decode cX8_errs 5 = .ok (.invokevirtual 114, 3) := by decide +kernel
theorem dX8_errs_8 : decode cX8_errs 8 = .ok (.ifCond .eq 14, 3) := by decide +kernel
theorem dX8_errs_11 : decode cX8_errs 11 = .ok (.aload_n 0, 1) := by decide +kernel
theorem dX8_errs_12 : decode cX8_errs 12 = .ok (.getfield 10, 3) := by decide +kernel
theorem dX8_errs_15 : decode cX8_errs 15 = .ok (.iload_n 2, 1) := by decide +kernel
theorem dX8_errs_16 : decode cX8_errs 16 = .ok (.invokevirtual 150, 3) := by decide +kernel
theorem dX8_errs_19 : decode cX8_errs 19 = .ok (.ifCond .ne 5, 3) := by decide +kernel
theorem dX8_errs_22 : decode cX8_errs 22 = .ok (.iconst (-1), 1) := by decide +kernel
theorem dX8_errs_23 : decode cX8_errs 23 = .ok (.ireturn, 1) := by decide +kernel
theorem dX8_errs_24 : decode cX8_errs 24 = .ok (.aload_n 0, 1) := by decide +kernel
theorem dX8_errs_25 : decode cX8_errs 25 = .ok (.getfield 36, 3) := by decide +kernel
theorem dX8_errs_28 : decode cX8_errs 28 = .ok (.invokevirtual 117, 3) := by decide +kernel
theorem dX8_errs_31 : decode cX8_errs 31 = .ok (.istore_n 3, 1) := by decide +kernel
theorem dX8_errs_32 : decode cX8_errs 32 = .ok (.aload_n 0, 1) := by decide +kernel
theorem dX8_errs_33 : decode cX8_errs 33 = .ok (.getfield 10, 3) := by decide +kernel
theorem dX8_errs_36 : decode cX8_errs 36 = .ok (.iload_n 3, 1) := by decide +kernel
theorem dX8_errs_37 : decode cX8_errs 37 = .ok (.iload_n 1, 1) := by decide +kernel
theorem dX8_errs_38 : decode cX8_errs 38 = .ok (.invokevirtual 120, 3) := by decide +kernel
theorem dX8_errs_41 : decode cX8_errs 41 = .ok (.istore 4, 2) := by decide +kernel
theorem dX8_errs_43 : decode cX8_errs 43 = .ok (.iload 4, 2) := by decide +kernel
theorem dX8_errs_45 : decode cX8_errs 45 = .ok (.iload_n 2, 1) := by decide +kernel
theorem dX8_errs_46 : decode cX8_errs 46 = .ok (.if_icmp .ne 6, 3) := by decide +kernel
theorem dX8_errs_49 : decode cX8_errs 49 = .ok (.bipush (-2), 2) := by decide +kernel
theorem dX8_errs_51 : decode cX8_errs 51 = .ok (.ireturn, 1) := by decide +kernel
theorem dX8_errs_52 : decode cX8_errs 52 = .ok (.aload_n 0, 1) := by decide +kernel
theorem dX8_errs_53 : decode cX8_errs 53 = .ok (.getfield 36, 3) := by decide +kernel
theorem dX8_errs_56 : decode cX8_errs 56 = .ok (.invokevirtual 159, 3) := by decide +kernel
theorem dX8_errs_59 : decode cX8_errs 59 = .ok (.aload_n 0, 1) := by decide +kernel
theorem dX8_errs_60 : decode cX8_errs 60 = .ok (.getfield 36, 3) := by decide +kernel
theorem dX8_errs_63 : decode cX8_errs 63 = .ok (.aload_n 0, 1) := by decide +kernel
theorem dX8_errs_64 : decode cX8_errs 64 = .ok (.getfield 10, 3) := by decide +kernel
theorem dX8_errs_67 : decode cX8_errs 67 = .ok (.iload_n 3, 1) := by decide +kernel
theorem dX8_errs_68 : decode cX8_errs 68 = .ok (.iload_n 1, 1) := by decide +kernel
theorem dX8_errs_69 : decode cX8_errs 69 = .ok (.iload_n 2, 1) := by decide +kernel
theorem dX8_errs_70 : decode cX8_errs 70 = .ok (.invokevirtual 169, 3) := by decide +kernel
theorem dX8_errs_73 : decode cX8_errs 73 = .ok (.invokevirtual 173, 3) := by decide +kernel
theorem dX8_errs_76 : decode cX8_errs 76 = .ok (.iload 4, 2) := by decide +kernel
theorem dX8_errs_78 : decode cX8_errs 78 = .ok (.ireturn, 1) := by decide +kernel
theorem dX8_releases_0 : decode cX8_releases 0 = .ok (.aload_n 0, 1) := by decide +kernel
theorem dX8_releases_1 : decode cX8_releases 1 = .ok (.getfield 10, 3) := by decide +kernel
theorem dX8_releases_4 : decode cX8_releases 4 = .ok (.iload_n 1, 1) := by decide +kernel
theorem dX8_releases_5 : decode cX8_releases 5 = .ok (.invokevirtual 124, 3) := by decide +kernel
theorem dX8_releases_8 : decode cX8_releases 8 = .ok (.ifCond .eq 12, 3) := by decide +kernel
theorem dX8_releases_11 : decode cX8_releases 11 = .ok (.iload_n 2, 1) := by decide +kernel
theorem dX8_releases_12 : decode cX8_releases 12 = .ok (.ifCond .lt 8, 3) := by decide +kernel
theorem dX8_releases_15 : decode cX8_releases 15 = .ok (.iload_n 2, 1) := by decide +kernel
theorem dX8_releases_16 : decode cX8_releases 16 = .ok (.iconst 1, 1) := by decide +kernel
theorem dX8_releases_17 : decode cX8_releases 17 = .ok (.if_icmp .le 5, 3) := by decide +kernel
theorem dX8_releases_20 : decode cX8_releases 20 = .ok (.iconst (-1), 1) := by decide +kernel
theorem dX8_releases_21 : decode cX8_releases 21 = .ok (.ireturn, 1) := by decide +kernel
theorem dX8_releases_22 : decode cX8_releases 22 = .ok (.aload_n 0, 1) := by decide +kernel
theorem dX8_releases_23 : decode cX8_releases 23 = .ok (.getfield 36, 3) := by decide +kernel
theorem dX8_releases_26 : decode cX8_releases 26 = .ok (.iload_n 1, 1) := by decide +kernel
theorem dX8_releases_27 : decode cX8_releases 27 = .ok (.invokevirtual 134, 3) := by decide +kernel
theorem dX8_releases_30 : decode cX8_releases 30 = .ok (.iload_n 2, 1) := by decide +kernel
theorem dX8_releases_31 : decode cX8_releases 31 = .ok (.iconst 1, 1) := by decide +kernel
theorem dX8_releases_32 : decode cX8_releases 32 = .ok (.if_icmp .ne 7, 3) := by decide +kernel
theorem dX8_releases_35 : decode cX8_releases 35 = .ok (.iconst 1, 1) := by decide +kernel
theorem dX8_releases_36 : decode cX8_releases 36 = .ok (.goto 4, 3) := by decide +kernel
theorem dX8_releases_39 : decode cX8_releases 39 = .ok (.iconst 0, 1) := by decide +kernel
theorem dX8_releases_40 : decode cX8_releases 40 = .ok (.if_icmp .ne 6, 3) := by decide +kernel
theorem dX8_releases_43 : decode cX8_releases 43 = .ok (.bipush (-2), 2) := by decide +kernel
theorem dX8_releases_45 : decode cX8_releases 45 = .ok (.ireturn, 1) := by decide +kernel
theorem dX8_releases_46 : decode cX8_releases 46 = .ok (.aload_n 0, 1) := by decide +kernel
theorem dX8_releases_47 : decode cX8_releases 47 = .ok (.getfield 36, 3) := by decide +kernel
theorem dX8_releases_50 : decode cX8_releases 50 = .ok (.invokevirtual 159, 3) := by decide +kernel
theorem dX8_releases_53 : decode cX8_releases 53 = .ok (.aload_n 0, 1) := by decide +kernel
theorem dX8_releases_54 : decode cX8_releases 54 = .ok (.getfield 36, 3) := by decide +kernel
theorem dX8_releases_57 : decode cX8_releases 57 = .ok (.iload_n 1, 1) := by decide +kernel
theorem dX8_releases_58 : decode cX8_releases 58 = .ok (.invokevirtual 176, 3) := by decide +kernel
theorem dX8_releases_61 : decode cX8_releases 61 = .ok (.aload_n 0, 1) := by decide +kernel
theorem dX8_releases_62 : decode cX8_releases 62 = .ok (.getfield 36, 3) := by decide +kernel
theorem dX8_releases_65 : decode cX8_releases 65 = .ok (.invokevirtual 179, 3) := by decide +kernel
theorem dX8_releases_68 : decode cX8_releases 68 = .ok (.invokestatic 182, 3) := by decide +kernel
theorem dX8_releases_71 : decode cX8_releases 71 = .ok (.ireturn, 1) := by decide +kernel
theorem dX8_aims_0 : decode cX8_aims 0 = .ok (.aload_n 0, 1) := by decide +kernel
theorem dX8_aims_1 : decode cX8_aims 1 = .ok (.getfield 10, 3) := by decide +kernel
theorem dX8_aims_4 : decode cX8_aims 4 = .ok (.iload_n 1, 1) := by decide +kernel
theorem dX8_aims_5 : decode cX8_aims 5 = .ok (.invokevirtual 114, 3) := by decide +kernel
theorem dX8_aims_8 : decode cX8_aims 8 = .ok (.ifCond .eq 14, 3) := by decide +kernel
theorem dX8_aims_11 : decode cX8_aims 11 = .ok (.aload_n 0, 1) := by decide +kernel
theorem dX8_aims_12 : decode cX8_aims 12 = .ok (.getfield 10, 3) := by decide +kernel
theorem dX8_aims_15 : decode cX8_aims 15 = .ok (.iload_n 2, 1) := by decide +kernel
theorem dX8_aims_16 : decode cX8_aims 16 = .ok (.invokevirtual 150, 3) := by decide +kernel
theorem dX8_aims_19 : decode cX8_aims 19 = .ok (.ifCond .ne 5, 3) := by decide +kernel
theorem dX8_aims_22 : decode cX8_aims 22 = .ok (.iconst (-1), 1) := by decide +kernel
theorem dX8_aims_23 : decode cX8_aims 23 = .ok (.ireturn, 1) := by decide +kernel
theorem dX8_aims_24 : decode cX8_aims 24 = .ok (.aload_n 0, 1) := by decide +kernel
theorem dX8_aims_25 : decode cX8_aims 25 = .ok (.getfield 10, 3) := by decide +kernel
theorem dX8_aims_28 : decode cX8_aims 28 = .ok (.aload_n 0, 1) := by decide +kernel
theorem dX8_aims_29 : decode cX8_aims 29 = .ok (.getfield 103, 3) := by decide +kernel
theorem dX8_aims_32 : decode cX8_aims 32 = .ok (.iload_n 1, 1) := by decide +kernel
theorem dX8_aims_33 : decode cX8_aims 33 = .ok (.invokevirtual 120, 3) := by decide +kernel
theorem dX8_aims_36 : decode cX8_aims 36 = .ok (.istore_n 3, 1) := by decide +kernel
theorem dX8_aims_37 : decode cX8_aims 37 = .ok (.aload_n 0, 1) := by decide +kernel
theorem dX8_aims_38 : decode cX8_aims 38 = .ok (.aload_n 0, 1) := by decide +kernel
theorem dX8_aims_39 : decode cX8_aims 39 = .ok (.getfield 10, 3) := by decide +kernel
theorem dX8_aims_42 : decode cX8_aims 42 = .ok (.aload_n 0, 1) := by decide +kernel
theorem dX8_aims_43 : decode cX8_aims 43 = .ok (.getfield 103, 3) := by decide +kernel
theorem dX8_aims_46 : decode cX8_aims 46 = .ok (.iload_n 1, 1) := by decide +kernel
theorem dX8_aims_47 : decode cX8_aims 47 = .ok (.iload_n 2, 1) := by decide +kernel
theorem dX8_aims_48 : decode cX8_aims 48 = .ok (.invokevirtual 169, 3) := by decide +kernel
theorem dX8_aims_51 : decode cX8_aims 51 = .ok (.putfield 103, 3) := by decide +kernel
theorem dX8_aims_54 : decode cX8_aims 54 = .ok (.iload_n 3, 1) := by decide +kernel
theorem dX8_aims_55 : decode cX8_aims 55 = .ok (.ireturn, 1) := by decide +kernel
theorem dX8_undo_0 : decode cX8_undo 0 = .ok (.aload_n 0, 1) := by decide +kernel
theorem dX8_undo_1 : decode cX8_undo 1 = .ok (.getfield 36, 3) := by decide +kernel
theorem dX8_undo_4 : decode cX8_undo 4 = .ok (.invokevirtual 187, 3) := by decide +kernel
theorem dX8_undo_7 : decode cX8_undo 7 = .ok (.ifCond .eq 13, 3) := by decide +kernel
theorem dX8_undo_10 : decode cX8_undo 10 = .ok (.aload_n 0, 1) := by decide +kernel
theorem dX8_undo_11 : decode cX8_undo 11 = .ok (.getfield 36, 3) := by decide +kernel
theorem dX8_undo_14 : decode cX8_undo 14 = .ok (.getfield 191, 3) := by decide +kernel
theorem dX8_undo_17 : decode cX8_undo 17 = .ok (.goto 5, 3) := by decide +kernel
theorem dX8_undo_20 : decode cX8_undo 20 = .ok (.bipush (-2), 2) := by decide +kernel
theorem dX8_undo_22 : decode cX8_undo 22 = .ok (.ireturn, 1) := by decide +kernel
theorem dX8_now_0 : decode cX8_now 0 = .ok (.iload_n 1, 1) := by decide +kernel
theorem dX8_now_1 : decode cX8_now 1 = .ok (.tableswitch 106 0 5 #[39, 47, 55, 60, 75, 94], 39) := by decide +kernel
theorem dX8_now_40 : decode cX8_now 40 = .ok (.aload_n 0, 1) := by decide +kernel
theorem dX8_now_41 : decode cX8_now 41 = .ok (.getfield 36, 3) := by decide +kernel
theorem dX8_now_44 : decode cX8_now 44 = .ok (.invokevirtual 156, 3) := by decide +kernel
theorem dX8_now_47 : decode cX8_now 47 = .ok (.ireturn, 1) := by decide +kernel
theorem dX8_now_48 : decode cX8_now 48 = .ok (.aload_n 0, 1) := by decide +kernel
theorem dX8_now_49 : decode cX8_now 49 = .ok (.getfield 36, 3) := by decide +kernel
theorem dX8_now_52 : decode cX8_now 52 = .ok (.invokevirtual 179, 3) := by decide +kernel
theorem dX8_now_55 : decode cX8_now 55 = .ok (.ireturn, 1) := by decide +kernel
theorem dX8_now_56 : decode cX8_now 56 = .ok (.aload_n 0, 1) := by decide +kernel
theorem dX8_now_57 : decode cX8_now 57 = .ok (.invokevirtual 194, 3) := by decide +kernel
theorem dX8_now_60 : decode cX8_now 60 = .ok (.ireturn, 1) := by decide +kernel
theorem dX8_now_61 : decode cX8_now 61 = .ok (.aload_n 0, 1) := by decide +kernel
theorem dX8_now_62 : decode cX8_now 62 = .ok (.getfield 58, 3) := by decide +kernel
theorem dX8_now_65 : decode cX8_now 65 = .ok (.aload_n 0, 1) := by decide +kernel
theorem dX8_now_66 : decode cX8_now 66 = .ok (.getfield 36, 3) := by decide +kernel
theorem dX8_now_69 : decode cX8_now 69 = .ok (.invokevirtual 117, 3) := by decide +kernel
theorem dX8_now_72 : decode cX8_now 72 = .ok (.invokevirtual 197, 3) := by decide +kernel
theorem dX8_now_75 : decode cX8_now 75 = .ok (.ireturn, 1) := by decide +kernel
theorem dX8_now_76 : decode cX8_now 76 = .ok (.aload_n 0, 1) := by decide +kernel
theorem dX8_now_77 : decode cX8_now 77 = .ok (.getfield 58, 3) := by decide +kernel
theorem dX8_now_80 : decode cX8_now 80 = .ok (.aload_n 0, 1) := by decide +kernel
theorem dX8_now_81 : decode cX8_now 81 = .ok (.getfield 10, 3) := by decide +kernel
theorem dX8_now_84 : decode cX8_now 84 = .ok (.aload_n 0, 1) := by decide +kernel
theorem dX8_now_85 : decode cX8_now 85 = .ok (.getfield 36, 3) := by decide +kernel
theorem dX8_now_88 : decode cX8_now 88 = .ok (.invokevirtual 117, 3) := by decide +kernel
theorem dX8_now_91 : decode cX8_now 91 = .ok (.invokevirtual 200, 3) := by decide +kernel
theorem dX8_now_94 : decode cX8_now 94 = .ok (.ireturn, 1) := by decide +kernel
theorem dX8_now_95 : decode cX8_now 95 = .ok (.aload_n 0, 1) := by decide +kernel
theorem dX8_now_96 : decode cX8_now 96 = .ok (.getfield 65, 3) := by decide +kernel
theorem dX8_now_99 : decode cX8_now 99 = .ok (.aload_n 0, 1) := by decide +kernel
theorem dX8_now_100 : decode cX8_now 100 = .ok (.getfield 10, 3) := by decide +kernel
theorem dX8_now_103 : decode cX8_now 103 = .ok (.invokevirtual 204, 3) := by decide +kernel
theorem dX8_now_106 : decode cX8_now 106 = .ok (.ireturn, 1) := by decide +kernel
theorem dX8_now_107 : decode cX8_now 107 = .ok (.iconst (-1), 1) := by decide +kernel
theorem dX8_now_108 : decode cX8_now 108 = .ok (.ireturn, 1) := by decide +kernel
theorem dX8_convinced_0 : decode cX8_convinced 0 = .ok (.iconst 0, 1) := by decide +kernel
theorem dX8_convinced_1 : decode cX8_convinced 1 = .ok (.istore_n 1, 1) := by decide +kernel
theorem dX8_convinced_2 : decode cX8_convinced 2 = .ok (.iconst 0, 1) := by decide +kernel
theorem dX8_convinced_3 : decode cX8_convinced 3 = .ok (.istore_n 2, 1) := by decide +kernel
theorem dX8_convinced_4 : decode cX8_convinced 4 = .ok (.iload_n 2, 1) := by decide +kernel
theorem dX8_convinced_5 : decode cX8_convinced 5 = .ok (.aload_n 0, 1) := by decide +kernel
theorem dX8_convinced_6 : decode cX8_convinced 6 = .ok (.getfield 10, 3) := by decide +kernel
theorem dX8_convinced_9 : decode cX8_convinced 9 = .ok (.getfield 207, 3) := by decide +kernel
theorem dX8_convinced_12 : decode cX8_convinced 12 = .ok (.if_icmp .ge 33, 3) := by decide +kernel
theorem dX8_convinced_15 : decode cX8_convinced 15 = .ok (.aload_n 0, 1) := by decide +kernel
theorem dX8_convinced_16 : decode cX8_convinced 16 = .ok (.getfield 10, 3) := by decide +kernel
theorem dX8_convinced_19 : decode cX8_convinced 19 = .ok (.iload_n 2, 1) := by decide +kernel
theorem dX8_convinced_20 : decode cX8_convinced 20 = .ok (.aload_n 0, 1) := by decide +kernel
theorem dX8_convinced_21 : decode cX8_convinced 21 = .ok (.getfield 36, 3) := by decide +kernel
theorem dX8_convinced_24 : decode cX8_convinced 24 = .ok (.invokevirtual 117, 3) := by decide +kernel
theorem dX8_convinced_27 : decode cX8_convinced 27 = .ok (.invokevirtual 143, 3) := by decide +kernel
theorem dX8_convinced_30 : decode cX8_convinced 30 = .ok (.ifCond .eq 9, 3) := by decide +kernel
theorem dX8_convinced_33 : decode cX8_convinced 33 = .ok (.iload_n 1, 1) := by decide +kernel
theorem dX8_convinced_34 : decode cX8_convinced 34 = .ok (.iconst 1, 1) := by decide +kernel
theorem dX8_convinced_35 : decode cX8_convinced 35 = .ok (.iload_n 2, 1) := by decide +kernel
theorem dX8_convinced_36 : decode cX8_convinced 36 = .ok (.ishl, 1) := by decide +kernel
theorem dX8_convinced_37 : decode cX8_convinced 37 = .ok (.ior, 1) := by decide +kernel
theorem dX8_convinced_38 : decode cX8_convinced 38 = .ok (.istore_n 1, 1) := by decide +kernel
theorem dX8_convinced_39 : decode cX8_convinced 39 = .ok (.iinc 2 1, 3) := by decide +kernel
theorem dX8_convinced_42 : decode cX8_convinced 42 = .ok (.goto (-38), 3) := by decide +kernel
theorem dX8_convinced_45 : decode cX8_convinced 45 = .ok (.iload_n 1, 1) := by decide +kernel
theorem dX8_convinced_46 : decode cX8_convinced 46 = .ok (.ireturn, 1) := by decide +kernel
theorem dX8_bought_0 : decode cX8_bought 0 = .ok (.aload_n 0, 1) := by decide +kernel
theorem dX8_bought_1 : decode cX8_bought 1 = .ok (.getfield 10, 3) := by decide +kernel
theorem dX8_bought_4 : decode cX8_bought 4 = .ok (.invokevirtual 210, 3) := by decide +kernel
theorem dX8_bought_7 : decode cX8_bought 7 = .ok (.aload_n 0, 1) := by decide +kernel
theorem dX8_bought_8 : decode cX8_bought 8 = .ok (.getfield 36, 3) := by decide +kernel
theorem dX8_bought_11 : decode cX8_bought 11 = .ok (.invokevirtual 179, 3) := by decide +kernel
theorem dX8_bought_14 : decode cX8_bought 14 = .ok (.iconst (-1), 1) := by decide +kernel
theorem dX8_bought_15 : decode cX8_bought 15 = .ok (.ixor, 1) := by decide +kernel
theorem dX8_bought_16 : decode cX8_bought 16 = .ok (.iand, 1) := by decide +kernel
theorem dX8_bought_17 : decode cX8_bought 17 = .ok (.ireturn, 1) := by decide +kernel
theorem dX8_behind_0 : decode cX8_behind 0 = .ok (.iload_n 1, 1) := by decide +kernel
theorem dX8_behind_1 : decode cX8_behind 1 = .ok (.ifCond .lt 20, 3) := by decide +kernel
theorem dX8_behind_4 : decode cX8_behind 4 = .ok (.iload_n 1, 1) := by decide +kernel
theorem dX8_behind_5 : decode cX8_behind 5 = .ok (.bipush 99, 2) := by decide +kernel
theorem dX8_behind_7 : decode cX8_behind 7 = .ok (.if_icmp .gt 14, 3) := by decide +kernel
theorem dX8_behind_10 : decode cX8_behind 10 = .ok (.aload_n 0, 1) := by decide +kernel
theorem dX8_behind_11 : decode cX8_behind 11 = .ok (.getfield 10, 3) := by decide +kernel
theorem dX8_behind_14 : decode cX8_behind 14 = .ok (.iload_n 2, 1) := by decide +kernel
theorem dX8_behind_15 : decode cX8_behind 15 = .ok (.invokevirtual 114, 3) := by decide +kernel
theorem dX8_behind_18 : decode cX8_behind 18 = .ok (.ifCond .ne 5, 3) := by decide +kernel
theorem dX8_behind_21 : decode cX8_behind 21 = .ok (.iconst (-1), 1) := by decide +kernel
theorem dX8_behind_22 : decode cX8_behind 22 = .ok (.ireturn, 1) := by decide +kernel
theorem dX8_behind_23 : decode cX8_behind 23 = .ok (.aload_n 0, 1) := by decide +kernel
theorem dX8_behind_24 : decode cX8_behind 24 = .ok (.getfield 51, 3) := by decide +kernel
theorem dX8_behind_27 : decode cX8_behind 27 = .ok (.aload_n 0, 1) := by decide +kernel
theorem dX8_behind_28 : decode cX8_behind 28 = .ok (.getfield 36, 3) := by decide +kernel
theorem dX8_behind_31 : decode cX8_behind 31 = .ok (.invokevirtual 117, 3) := by decide +kernel
theorem dX8_behind_34 : decode cX8_behind 34 = .ok (.aload_n 0, 1) := by decide +kernel
theorem dX8_behind_35 : decode cX8_behind 35 = .ok (.invokevirtual 213, 3) := by decide +kernel
theorem dX8_behind_38 : decode cX8_behind 38 = .ok (.iload_n 1, 1) := by decide +kernel
theorem dX8_behind_39 : decode cX8_behind 39 = .ok (.invokevirtual 216, 3) := by decide +kernel
theorem dX8_behind_42 : decode cX8_behind 42 = .ok (.aload_n 0, 1) := by decide +kernel
theorem dX8_behind_43 : decode cX8_behind 43 = .ok (.getfield 10, 3) := by decide +kernel
theorem dX8_behind_46 : decode cX8_behind 46 = .ok (.aload_n 0, 1) := by decide +kernel
theorem dX8_behind_47 : decode cX8_behind 47 = .ok (.getfield 51, 3) := by decide +kernel
theorem dX8_behind_50 : decode cX8_behind 50 = .ok (.getfield 220, 3) := by decide +kernel
theorem dX8_behind_53 : decode cX8_behind 53 = .ok (.iload_n 2, 1) := by decide +kernel
theorem dX8_behind_54 : decode cX8_behind 54 = .ok (.invokevirtual 120, 3) := by decide +kernel
theorem dX8_behind_57 : decode cX8_behind 57 = .ok (.ireturn, 1) := by decide +kernel
theorem dX8_ends_0 : decode cX8_ends 0 = .ok (.iload_n 1, 1) := by decide +kernel
theorem dX8_ends_1 : decode cX8_ends 1 = .ok (.ifCond .lt 8, 3) := by decide +kernel
theorem dX8_ends_4 : decode cX8_ends 4 = .ok (.iload_n 1, 1) := by decide +kernel
theorem dX8_ends_5 : decode cX8_ends 5 = .ok (.iconst 1, 1) := by decide +kernel
theorem dX8_ends_6 : decode cX8_ends 6 = .ok (.if_icmp .le 5, 3) := by decide +kernel
theorem dX8_ends_9 : decode cX8_ends 9 = .ok (.iconst (-1), 1) := by decide +kernel
theorem dX8_ends_10 : decode cX8_ends 10 = .ok (.ireturn, 1) := by decide +kernel
theorem dX8_ends_11 : decode cX8_ends 11 = .ok (.aload_n 0, 1) := by decide +kernel
theorem dX8_ends_12 : decode cX8_ends 12 = .ok (.getfield 51, 3) := by decide +kernel
theorem dX8_ends_15 : decode cX8_ends 15 = .ok (.aload_n 0, 1) := by decide +kernel
theorem dX8_ends_16 : decode cX8_ends 16 = .ok (.getfield 36, 3) := by decide +kernel
theorem dX8_ends_19 : decode cX8_ends 19 = .ok (.invokevirtual 117, 3) := by decide +kernel
theorem dX8_ends_22 : decode cX8_ends 22 = .ok (.aload_n 0, 1) := by decide +kernel
theorem dX8_ends_23 : decode cX8_ends 23 = .ok (.invokevirtual 213, 3) := by decide +kernel
theorem dX8_ends_26 : decode cX8_ends 26 = .ok (.invokevirtual 222, 3) := by decide +kernel
theorem dX8_ends_29 : decode cX8_ends 29 = .ok (.iload_n 1, 1) := by decide +kernel
theorem dX8_ends_30 : decode cX8_ends 30 = .ok (.ifCond .ne 11, 3) := by decide +kernel
theorem dX8_ends_33 : decode cX8_ends 33 = .ok (.aload_n 0, 1) := by decide +kernel
theorem dX8_ends_34 : decode cX8_ends 34 = .ok (.getfield 51, 3) := by decide +kernel
theorem dX8_ends_37 : decode cX8_ends 37 = .ok (.getfield 225, 3) := by decide +kernel
theorem dX8_ends_40 : decode cX8_ends 40 = .ok (.ireturn, 1) := by decide +kernel
theorem dX8_ends_41 : decode cX8_ends 41 = .ok (.aload_n 0, 1) := by decide +kernel
theorem dX8_ends_42 : decode cX8_ends 42 = .ok (.getfield 51, 3) := by decide +kernel
theorem dX8_ends_45 : decode cX8_ends 45 = .ok (.getfield 228, 3) := by decide +kernel
theorem dX8_ends_48 : decode cX8_ends 48 = .ok (.ifCond .eq 8, 3) := by decide +kernel
theorem dX8_ends_51 : decode cX8_ends 51 = .ok (.bipush (-9), 2) := by decide +kernel
theorem dX8_ends_53 : decode cX8_ends 53 = .ok (.goto 10, 3) := by decide +kernel
theorem dX8_ends_56 : decode cX8_ends 56 = .ok (.aload_n 0, 1) := by decide +kernel
theorem dX8_ends_57 : decode cX8_ends 57 = .ok (.getfield 51, 3) := by decide +kernel
theorem dX8_ends_60 : decode cX8_ends 60 = .ok (.getfield 231, 3) := by decide +kernel
theorem dX8_ends_63 : decode cX8_ends 63 = .ok (.ireturn, 1) := by decide +kernel
theorem dX8_lasts_0 : decode cX8_lasts 0 = .ok (.iload_n 1, 1) := by decide +kernel
theorem dX8_lasts_1 : decode cX8_lasts 1 = .ok (.ifCond .lt 8, 3) := by decide +kernel
theorem dX8_lasts_4 : decode cX8_lasts 4 = .ok (.iload_n 1, 1) := by decide +kernel
theorem dX8_lasts_5 : decode cX8_lasts 5 = .ok (.iconst 1, 1) := by decide +kernel
theorem dX8_lasts_6 : decode cX8_lasts 6 = .ok (.if_icmp .le 5, 3) := by decide +kernel
theorem dX8_lasts_9 : decode cX8_lasts 9 = .ok (.iconst (-1), 1) := by decide +kernel
theorem dX8_lasts_10 : decode cX8_lasts 10 = .ok (.ireturn, 1) := by decide +kernel
theorem dX8_lasts_11 : decode cX8_lasts 11 = .ok (.aload_n 0, 1) := by decide +kernel
theorem dX8_lasts_12 : decode cX8_lasts 12 = .ok (.getfield 10, 3) := by decide +kernel
theorem dX8_lasts_15 : decode cX8_lasts 15 = .ok (.getfield 234, 3) := by decide +kernel
theorem dX8_lasts_18 : decode cX8_lasts 18 = .ok (.ifCond .eq 10, 3) := by decide +kernel
theorem dX8_lasts_21 : decode cX8_lasts 21 = .ok (.aload_n 0, 1) := by decide +kernel
theorem dX8_lasts_22 : decode cX8_lasts 22 = .ok (.invokevirtual 213, 3) := by decide +kernel
theorem dX8_lasts_25 : decode cX8_lasts 25 = .ok (.ifCond .ne 6, 3) := by decide +kernel
theorem dX8_lasts_28 : decode cX8_lasts 28 = .ok (.bipush (-9), 2) := by decide +kernel
theorem dX8_lasts_30 : decode cX8_lasts 30 = .ok (.ireturn, 1) := by decide +kernel
theorem dX8_lasts_31 : decode cX8_lasts 31 = .ok (.aload_n 0, 1) := by decide +kernel
theorem dX8_lasts_32 : decode cX8_lasts 32 = .ok (.getfield 51, 3) := by decide +kernel
theorem dX8_lasts_35 : decode cX8_lasts 35 = .ok (.aload_n 0, 1) := by decide +kernel
theorem dX8_lasts_36 : decode cX8_lasts 36 = .ok (.invokevirtual 213, 3) := by decide +kernel
theorem dX8_lasts_39 : decode cX8_lasts 39 = .ok (.invokevirtual 237, 3) := by decide +kernel
theorem dX8_lasts_42 : decode cX8_lasts 42 = .ok (.istore_n 2, 1) := by decide +kernel
theorem dX8_lasts_43 : decode cX8_lasts 43 = .ok (.iload_n 2, 1) := by decide +kernel
theorem dX8_lasts_44 : decode cX8_lasts 44 = .ok (.bipush (-9), 2) := by decide +kernel
theorem dX8_lasts_46 : decode cX8_lasts 46 = .ok (.if_icmp .eq 7, 3) := by decide +kernel
theorem dX8_lasts_49 : decode cX8_lasts 49 = .ok (.iload_n 1, 1) := by decide +kernel
theorem dX8_lasts_50 : decode cX8_lasts 50 = .ok (.ifCond .ne 5, 3) := by decide +kernel
theorem dX8_lasts_53 : decode cX8_lasts 53 = .ok (.iload_n 2, 1) := by decide +kernel
theorem dX8_lasts_54 : decode cX8_lasts 54 = .ok (.ireturn, 1) := by decide +kernel
theorem dX8_lasts_55 : decode cX8_lasts 55 = .ok (.aload_n 0, 1) := by decide +kernel
theorem dX8_lasts_56 : decode cX8_lasts 56 = .ok (.getfield 51, 3) := by decide +kernel
theorem dX8_lasts_59 : decode cX8_lasts 59 = .ok (.iload_n 2, 1) := by decide +kernel
theorem dX8_lasts_60 : decode cX8_lasts 60 = .ok (.aload_n 0, 1) := by decide +kernel
theorem dX8_lasts_61 : decode cX8_lasts 61 = .ok (.invokevirtual 213, 3) := by decide +kernel
theorem dX8_lasts_64 : decode cX8_lasts 64 = .ok (.invokevirtual 222, 3) := by decide +kernel
theorem dX8_lasts_67 : decode cX8_lasts 67 = .ok (.aload_n 0, 1) := by decide +kernel
theorem dX8_lasts_68 : decode cX8_lasts 68 = .ok (.getfield 51, 3) := by decide +kernel
theorem dX8_lasts_71 : decode cX8_lasts 71 = .ok (.getfield 231, 3) := by decide +kernel
theorem dX8_lasts_74 : decode cX8_lasts 74 = .ok (.ireturn, 1) := by decide +kernel
theorem dX8_buy_0 : decode cX8_buy 0 = .ok (.iload_n 1, 1) := by decide +kernel
theorem dX8_buy_1 : decode cX8_buy 1 = .ok (.iconst 1, 1) := by decide +kernel
theorem dX8_buy_2 : decode cX8_buy 2 = .ok (.if_icmp .lt 9, 3) := by decide +kernel
theorem dX8_buy_5 : decode cX8_buy 5 = .ok (.iload_n 1, 1) := by decide +kernel
theorem dX8_buy_6 : decode cX8_buy 6 = .ok (.bipush 99, 2) := by decide +kernel
theorem dX8_buy_8 : decode cX8_buy 8 = .ok (.if_icmp .le 5, 3) := by decide +kernel
theorem dX8_buy_11 : decode cX8_buy 11 = .ok (.iconst (-1), 1) := by decide +kernel
theorem dX8_buy_12 : decode cX8_buy 12 = .ok (.ireturn, 1) := by decide +kernel
theorem dX8_buy_13 : decode cX8_buy 13 = .ok (.aload_n 0, 1) := by decide +kernel
theorem dX8_buy_14 : decode cX8_buy 14 = .ok (.getfield 51, 3) := by decide +kernel
theorem dX8_buy_17 : decode cX8_buy 17 = .ok (.aload_n 0, 1) := by decide +kernel
theorem dX8_buy_18 : decode cX8_buy 18 = .ok (.getfield 36, 3) := by decide +kernel
theorem dX8_buy_21 : decode cX8_buy 21 = .ok (.invokevirtual 117, 3) := by decide +kernel
theorem dX8_buy_24 : decode cX8_buy 24 = .ok (.aload_n 0, 1) := by decide +kernel
theorem dX8_buy_25 : decode cX8_buy 25 = .ok (.invokevirtual 213, 3) := by decide +kernel
theorem dX8_buy_28 : decode cX8_buy 28 = .ok (.aload_n 0, 1) := by decide +kernel
theorem dX8_buy_29 : decode cX8_buy 29 = .ok (.getfield 36, 3) := by decide +kernel
theorem dX8_buy_32 : decode cX8_buy 32 = .ok (.invokevirtual 179, 3) := by decide +kernel
theorem dX8_buy_35 : decode cX8_buy 35 = .ok (.iload_n 1, 1) := by decide +kernel
theorem dX8_buy_36 : decode cX8_buy 36 = .ok (.invokevirtual 240, 3) := by decide +kernel
theorem dX8_buy_39 : decode cX8_buy 39 = .ok (.ireturn, 1) := by decide +kernel
theorem dX8_odds_0 : decode cX8_odds 0 = .ok (.iload_n 1, 1) := by decide +kernel
theorem dX8_odds_1 : decode cX8_odds 1 = .ok (.ifCond .lt 28, 3) := by decide +kernel
theorem dX8_odds_4 : decode cX8_odds 4 = .ok (.iload_n 1, 1) := by decide +kernel
theorem dX8_odds_5 : decode cX8_odds 5 = .ok (.bipush 10, 2) := by decide +kernel
theorem dX8_odds_7 : decode cX8_odds 7 = .ok (.if_icmp .gt 22, 3) := by decide +kernel
theorem dX8_odds_10 : decode cX8_odds 10 = .ok (.iload_n 2, 1) := by decide +kernel
theorem dX8_odds_11 : decode cX8_odds 11 = .ok (.ifCond .lt 18, 3) := by decide +kernel
theorem dX8_odds_14 : decode cX8_odds 14 = .ok (.iload_n 2, 1) := by decide +kernel
theorem dX8_odds_15 : decode cX8_odds 15 = .ok (.bipush 9, 2) := by decide +kernel
theorem dX8_odds_17 : decode cX8_odds 17 = .ok (.if_icmp .gt 12, 3) := by decide +kernel
theorem dX8_odds_20 : decode cX8_odds 20 = .ok (.iload_n 3, 1) := by decide +kernel
theorem dX8_odds_21 : decode cX8_odds 21 = .ok (.ifCond .lt 8, 3) := by decide +kernel
theorem dX8_odds_24 : decode cX8_odds 24 = .ok (.iload_n 3, 1) := by decide +kernel
theorem dX8_odds_25 : decode cX8_odds 25 = .ok (.iconst 1, 1) := by decide +kernel
theorem dX8_odds_26 : decode cX8_odds 26 = .ok (.if_icmp .le 5, 3) := by decide +kernel
theorem dX8_odds_29 : decode cX8_odds 29 = .ok (.iconst (-1), 1) := by decide +kernel
theorem dX8_odds_30 : decode cX8_odds 30 = .ok (.ireturn, 1) := by decide +kernel
theorem dX8_odds_31 : decode cX8_odds 31 = .ok (.aload_n 0, 1) := by decide +kernel
theorem dX8_odds_32 : decode cX8_odds 32 = .ok (.getfield 51, 3) := by decide +kernel
theorem dX8_odds_35 : decode cX8_odds 35 = .ok (.aload_n 0, 1) := by decide +kernel
theorem dX8_odds_36 : decode cX8_odds 36 = .ok (.getfield 36, 3) := by decide +kernel
theorem dX8_odds_39 : decode cX8_odds 39 = .ok (.invokevirtual 117, 3) := by decide +kernel
theorem dX8_odds_42 : decode cX8_odds 42 = .ok (.aload_n 0, 1) := by decide +kernel
theorem dX8_odds_43 : decode cX8_odds 43 = .ok (.invokevirtual 213, 3) := by decide +kernel
theorem dX8_odds_46 : decode cX8_odds 46 = .ok (.iload_n 2, 1) := by decide +kernel
theorem dX8_odds_47 : decode cX8_odds 47 = .ok (.invokevirtual 244, 3) := by decide +kernel
theorem dX8_odds_50 : decode cX8_odds 50 = .ok (.ifCond .ne 13, 3) := by decide +kernel
theorem dX8_odds_53 : decode cX8_odds 53 = .ok (.iload_n 3, 1) := by decide +kernel
theorem dX8_odds_54 : decode cX8_odds 54 = .ok (.ifCond .ne 7, 3) := by decide +kernel
theorem dX8_odds_57 : decode cX8_odds 57 = .ok (.iconst 0, 1) := by decide +kernel
theorem dX8_odds_58 : decode cX8_odds 58 = .ok (.goto 4, 3) := by decide +kernel
theorem dX8_odds_61 : decode cX8_odds 61 = .ok (.iconst 1, 1) := by decide +kernel
theorem dX8_odds_62 : decode cX8_odds 62 = .ok (.ireturn, 1) := by decide +kernel
theorem dX8_odds_63 : decode cX8_odds 63 = .ok (.bipush 10, 2) := by decide +kernel
theorem dX8_odds_65 : decode cX8_odds 65 = .ok (.iload_n 1, 1) := by decide +kernel
theorem dX8_odds_66 : decode cX8_odds 66 = .ok (.isub, 1) := by decide +kernel
theorem dX8_odds_67 : decode cX8_odds 67 = .ok (.istore 4, 2) := by decide +kernel
theorem dX8_odds_69 : decode cX8_odds 69 = .ok (.bipush 10, 2) := by decide +kernel
theorem dX8_odds_71 : decode cX8_odds 71 = .ok (.iload 4, 2) := by decide +kernel
theorem dX8_odds_73 : decode cX8_odds 73 = .ok (.invokestatic 248, 3) := by decide +kernel
theorem dX8_odds_76 : decode cX8_odds 76 = .ok (.istore 5, 2) := by decide +kernel
theorem dX8_odds_78 : decode cX8_odds 78 = .ok (.iload 5, 2) := by decide +kernel
theorem dX8_odds_80 : decode cX8_odds 80 = .ok (.iconst 1, 1) := by decide +kernel
theorem dX8_odds_81 : decode cX8_odds 81 = .ok (.if_icmp .ge 7, 3) := by decide +kernel
theorem dX8_odds_84 : decode cX8_odds 84 = .ok (.iconst (-1), 1) := by decide +kernel
theorem dX8_odds_85 : decode cX8_odds 85 = .ok (.goto 21, 3) := by decide +kernel
theorem dX8_odds_88 : decode cX8_odds 88 = .ok (.iload_n 3, 1) := by decide +kernel
theorem dX8_odds_89 : decode cX8_odds 89 = .ok (.ifCond .ne 8, 3) := by decide +kernel
theorem dX8_odds_92 : decode cX8_odds 92 = .ok (.iload 4, 2) := by decide +kernel
theorem dX8_odds_94 : decode cX8_odds 94 = .ok (.goto 5, 3) := by decide +kernel
theorem dX8_odds_97 : decode cX8_odds 97 = .ok (.bipush 10, 2) := by decide +kernel
theorem dX8_odds_99 : decode cX8_odds 99 = .ok (.iload 5, 2) := by decide +kernel
theorem dX8_odds_101 : decode cX8_odds 101 = .ok (.idiv, 1) := by decide +kernel
theorem dX8_odds_102 : decode cX8_odds 102 = .ok (.iload_n 2, 1) := by decide +kernel
theorem dX8_odds_103 : decode cX8_odds 103 = .ok (.invokestatic 251, 3) := by decide +kernel
theorem dX8_odds_106 : decode cX8_odds 106 = .ok (.ireturn, 1) := by decide +kernel
theorem dX8_commonDivisor_0 : decode cX8_commonDivisor 0 = .ok (.iload_n 0, 1) := by decide +kernel
theorem dX8_commonDivisor_1 : decode cX8_commonDivisor 1 = .ok (.istore_n 2, 1) := by decide +kernel
theorem dX8_commonDivisor_2 : decode cX8_commonDivisor 2 = .ok (.iload_n 1, 1) := by decide +kernel
theorem dX8_commonDivisor_3 : decode cX8_commonDivisor 3 = .ok (.istore_n 3, 1) := by decide +kernel
theorem dX8_commonDivisor_4 : decode cX8_commonDivisor 4 = .ok (.iconst 0, 1) := by decide +kernel
theorem dX8_commonDivisor_5 : decode cX8_commonDivisor 5 = .ok (.istore 4, 2) := by decide +kernel
theorem dX8_commonDivisor_7 : decode cX8_commonDivisor 7 = .ok (.iload 4, 2) := by decide +kernel
theorem dX8_commonDivisor_9 : decode cX8_commonDivisor 9 = .ok (.bipush 10, 2) := by decide +kernel
theorem dX8_commonDivisor_11 : decode cX8_commonDivisor 11 = .ok (.if_icmp .gt 23, 3) := by decide +kernel
theorem dX8_commonDivisor_14 : decode cX8_commonDivisor 14 = .ok (.iload_n 3, 1) := by decide +kernel
theorem dX8_commonDivisor_15 : decode cX8_commonDivisor 15 = .ok (.ifCond .eq 19, 3) := by decide +kernel
theorem dX8_commonDivisor_18 : decode cX8_commonDivisor 18 = .ok (.iload_n 2, 1) := by decide +kernel
theorem dX8_commonDivisor_19 : decode cX8_commonDivisor 19 = .ok (.iload_n 3, 1) := by decide +kernel
theorem dX8_commonDivisor_20 : decode cX8_commonDivisor 20 = .ok (.irem, 1) := by decide +kernel
theorem dX8_commonDivisor_21 : decode cX8_commonDivisor 21 = .ok (.istore 5, 2) := by decide +kernel
theorem dX8_commonDivisor_23 : decode cX8_commonDivisor 23 = .ok (.iload_n 3, 1) := by decide +kernel
theorem dX8_commonDivisor_24 : decode cX8_commonDivisor 24 = .ok (.istore_n 2, 1) := by decide +kernel
theorem dX8_commonDivisor_25 : decode cX8_commonDivisor 25 = .ok (.iload 5, 2) := by decide +kernel
theorem dX8_commonDivisor_27 : decode cX8_commonDivisor 27 = .ok (.istore_n 3, 1) := by decide +kernel
theorem dX8_commonDivisor_28 : decode cX8_commonDivisor 28 = .ok (.iinc 4 1, 3) := by decide +kernel
theorem dX8_commonDivisor_31 : decode cX8_commonDivisor 31 = .ok (.goto (-24), 3) := by decide +kernel
theorem dX8_commonDivisor_34 : decode cX8_commonDivisor 34 = .ok (.iload_n 2, 1) := by decide +kernel
theorem dX8_commonDivisor_35 : decode cX8_commonDivisor 35 = .ok (.ireturn, 1) := by decide +kernel
theorem dX8_power_0 : decode cX8_power 0 = .ok (.iconst 1, 1) := by decide +kernel
theorem dX8_power_1 : decode cX8_power 1 = .ok (.istore_n 2, 1) := by decide +kernel
theorem dX8_power_2 : decode cX8_power 2 = .ok (.iconst 0, 1) := by decide +kernel
theorem dX8_power_3 : decode cX8_power 3 = .ok (.istore_n 3, 1) := by decide +kernel
theorem dX8_power_4 : decode cX8_power 4 = .ok (.iload_n 3, 1) := by decide +kernel
theorem dX8_power_5 : decode cX8_power 5 = .ok (.iload_n 1, 1) := by decide +kernel
theorem dX8_power_6 : decode cX8_power 6 = .ok (.if_icmp .ge 13, 3) := by decide +kernel
theorem dX8_power_9 : decode cX8_power 9 = .ok (.iload_n 2, 1) := by decide +kernel
theorem dX8_power_10 : decode cX8_power 10 = .ok (.iload_n 0, 1) := by decide +kernel
theorem dX8_power_11 : decode cX8_power 11 = .ok (.imul, 1) := by decide +kernel
theorem dX8_power_12 : decode cX8_power 12 = .ok (.istore_n 2, 1) := by decide +kernel
theorem dX8_power_13 : decode cX8_power 13 = .ok (.iinc 3 1, 3) := by decide +kernel
theorem dX8_power_16 : decode cX8_power 16 = .ok (.goto (-12), 3) := by decide +kernel
theorem dX8_power_19 : decode cX8_power 19 = .ok (.iload_n 2, 1) := by decide +kernel
theorem dX8_power_20 : decode cX8_power 20 = .ok (.ireturn, 1) := by decide +kernel
theorem dX8_way_0 : decode cX8_way 0 = .ok (.iload_n 1, 1) := by decide +kernel
theorem dX8_way_1 : decode cX8_way 1 = .ok (.iconst (-1), 1) := by decide +kernel
theorem dX8_way_2 : decode cX8_way 2 = .ok (.if_icmp .ge 5, 3) := by decide +kernel
theorem dX8_way_5 : decode cX8_way 5 = .ok (.iconst (-1), 1) := by decide +kernel
theorem dX8_way_6 : decode cX8_way 6 = .ok (.ireturn, 1) := by decide +kernel
theorem dX8_way_7 : decode cX8_way 7 = .ok (.aload_n 0, 1) := by decide +kernel
theorem dX8_way_8 : decode cX8_way 8 = .ok (.getfield 58, 3) := by decide +kernel
theorem dX8_way_11 : decode cX8_way 11 = .ok (.aload_n 0, 1) := by decide +kernel
theorem dX8_way_12 : decode cX8_way 12 = .ok (.getfield 36, 3) := by decide +kernel
theorem dX8_way_15 : decode cX8_way 15 = .ok (.invokevirtual 117, 3) := by decide +kernel
theorem dX8_way_18 : decode cX8_way 18 = .ok (.aload_n 0, 1) := by decide +kernel
theorem dX8_way_19 : decode cX8_way 19 = .ok (.invokevirtual 213, 3) := by decide +kernel
theorem dX8_way_22 : decode cX8_way 22 = .ok (.aload_n 0, 1) := by decide +kernel
theorem dX8_way_23 : decode cX8_way 23 = .ok (.getfield 103, 3) := by decide +kernel
theorem dX8_way_26 : decode cX8_way 26 = .ok (.invokevirtual 254, 3) := by decide +kernel
theorem dX8_way_29 : decode cX8_way 29 = .ok (.iload_n 1, 1) := by decide +kernel
theorem dX8_way_30 : decode cX8_way 30 = .ok (.iconst (-1), 1) := by decide +kernel
theorem dX8_way_31 : decode cX8_way 31 = .ok (.if_icmp .ne 17, 3) := by decide +kernel
theorem dX8_way_34 : decode cX8_way 34 = .ok (.aload_n 0, 1) := by decide +kernel
theorem dX8_way_35 : decode cX8_way 35 = .ok (.getfield 58, 3) := by decide +kernel
theorem dX8_way_38 : decode cX8_way 38 = .ok (.aload_n 0, 1) := by decide +kernel
theorem dX8_way_39 : decode cX8_way 39 = .ok (.getfield 103, 3) := by decide +kernel
theorem dX8_way_42 : decode cX8_way 42 = .ok (.invokevirtual 257, 3) := by decide +kernel
theorem dX8_way_45 : decode cX8_way 45 = .ok (.goto 15, 3) := by decide +kernel
theorem dX8_way_48 : decode cX8_way 48 = .ok (.aload_n 0, 1) := by decide +kernel
theorem dX8_way_49 : decode cX8_way 49 = .ok (.getfield 58, 3) := by decide +kernel
theorem dX8_way_52 : decode cX8_way 52 = .ok (.aload_n 0, 1) := by decide +kernel
theorem dX8_way_53 : decode cX8_way 53 = .ok (.getfield 103, 3) := by decide +kernel
theorem dX8_way_56 : decode cX8_way 56 = .ok (.iload_n 1, 1) := by decide +kernel
theorem dX8_way_57 : decode cX8_way 57 = .ok (.invokevirtual 260, 3) := by decide +kernel
theorem dX8_way_60 : decode cX8_way 60 = .ok (.ireturn, 1) := by decide +kernel
theorem dX8_from_0 : decode cX8_from 0 = .ok (.aload_n 0, 1) := by decide +kernel
theorem dX8_from_1 : decode cX8_from 1 = .ok (.getfield 10, 3) := by decide +kernel
theorem dX8_from_4 : decode cX8_from 4 = .ok (.iload_n 1, 1) := by decide +kernel
theorem dX8_from_5 : decode cX8_from 5 = .ok (.invokevirtual 124, 3) := by decide +kernel
theorem dX8_from_8 : decode cX8_from 8 = .ok (.ifCond .eq 21, 3) := by decide +kernel
theorem dX8_from_11 : decode cX8_from 11 = .ok (.aload_n 0, 1) := by decide +kernel
theorem dX8_from_12 : decode cX8_from 12 = .ok (.getfield 58, 3) := by decide +kernel
theorem dX8_from_15 : decode cX8_from 15 = .ok (.iload_n 1, 1) := by decide +kernel
theorem dX8_from_16 : decode cX8_from 16 = .ok (.aload_n 0, 1) := by decide +kernel
theorem dX8_from_17 : decode cX8_from 17 = .ok (.getfield 36, 3) := by decide +kernel
theorem dX8_from_20 : decode cX8_from 20 = .ok (.invokevirtual 117, 3) := by decide +kernel
theorem dX8_from_23 : decode cX8_from 23 = .ok (.invokevirtual 263, 3) := by decide +kernel
theorem dX8_from_26 : decode cX8_from 26 = .ok (.goto 4, 3) := by decide +kernel
theorem dX8_from_29 : decode cX8_from 29 = .ok (.iconst (-1), 1) := by decide +kernel
theorem dX8_from_30 : decode cX8_from 30 = .ok (.ireturn, 1) := by decide +kernel
theorem dX8_saw_0 : decode cX8_saw 0 = .ok (.aload_n 0, 1) := by decide +kernel
theorem dX8_saw_1 : decode cX8_saw 1 = .ok (.getfield 10, 3) := by decide +kernel
theorem dX8_saw_4 : decode cX8_saw 4 = .ok (.iload_n 1, 1) := by decide +kernel
theorem dX8_saw_5 : decode cX8_saw 5 = .ok (.invokevirtual 150, 3) := by decide +kernel
theorem dX8_saw_8 : decode cX8_saw 8 = .ok (.ifCond .eq 14, 3) := by decide +kernel
theorem dX8_saw_11 : decode cX8_saw 11 = .ok (.aload_n 0, 1) := by decide +kernel
theorem dX8_saw_12 : decode cX8_saw 12 = .ok (.getfield 10, 3) := by decide +kernel
theorem dX8_saw_15 : decode cX8_saw 15 = .ok (.iload_n 2, 1) := by decide +kernel
theorem dX8_saw_16 : decode cX8_saw 16 = .ok (.invokevirtual 150, 3) := by decide +kernel
theorem dX8_saw_19 : decode cX8_saw 19 = .ok (.ifCond .ne 5, 3) := by decide +kernel
theorem dX8_saw_22 : decode cX8_saw 22 = .ok (.iconst (-1), 1) := by decide +kernel
theorem dX8_saw_23 : decode cX8_saw 23 = .ok (.ireturn, 1) := by decide +kernel
theorem dX8_saw_24 : decode cX8_saw 24 = .ok (.aload_n 0, 1) := by decide +kernel
theorem dX8_saw_25 : decode cX8_saw 25 = .ok (.getfield 65, 3) := by decide +kernel
theorem dX8_saw_28 : decode cX8_saw 28 = .ok (.iload_n 1, 1) := by decide +kernel
theorem dX8_saw_29 : decode cX8_saw 29 = .ok (.iload_n 2, 1) := by decide +kernel
theorem dX8_saw_30 : decode cX8_saw 30 = .ok (.invokevirtual 266, 3) := by decide +kernel
theorem dX8_saw_33 : decode cX8_saw 33 = .ok (.ifCond .eq 13, 3) := by decide +kernel
theorem dX8_saw_36 : decode cX8_saw 36 = .ok (.aload_n 0, 1) := by decide +kernel
theorem dX8_saw_37 : decode cX8_saw 37 = .ok (.getfield 65, 3) := by decide +kernel
theorem dX8_saw_40 : decode cX8_saw 40 = .ok (.getfield 268, 3) := by decide +kernel
theorem dX8_saw_43 : decode cX8_saw 43 = .ok (.goto 5, 3) := by decide +kernel
theorem dX8_saw_46 : decode cX8_saw 46 = .ok (.bipush (-3), 2) := by decide +kernel
theorem dX8_saw_48 : decode cX8_saw 48 = .ok (.ireturn, 1) := by decide +kernel
theorem dX8_forget_0 : decode cX8_forget 0 = .ok (.aload_n 0, 1) := by decide +kernel
theorem dX8_forget_1 : decode cX8_forget 1 = .ok (.getfield 65, 3) := by decide +kernel
theorem dX8_forget_4 : decode cX8_forget 4 = .ok (.invokevirtual 106, 3) := by decide +kernel
theorem dX8_forget_7 : decode cX8_forget 7 = .ok (.ireturn, 1) := by decide +kernel
theorem dX8_fit_0 : decode cX8_fit 0 = .ok (.iload_n 1, 1) := by decide +kernel
theorem dX8_fit_1 : decode cX8_fit 1 = .ok (.tableswitch 72 0 2 #[27, 42, 57], 27) := by decide +kernel
theorem dX8_fit_28 : decode cX8_fit 28 = .ok (.aload_n 0, 1) := by decide +kernel
theorem dX8_fit_29 : decode cX8_fit 29 = .ok (.getfield 65, 3) := by decide +kernel
theorem dX8_fit_32 : decode cX8_fit 32 = .ok (.aload_n 0, 1) := by decide +kernel
theorem dX8_fit_33 : decode cX8_fit 33 = .ok (.getfield 10, 3) := by decide +kernel
theorem dX8_fit_36 : decode cX8_fit 36 = .ok (.getfield 271, 3) := by decide +kernel
theorem dX8_fit_39 : decode cX8_fit 39 = .ok (.invokevirtual 274, 3) := by decide +kernel
theorem dX8_fit_42 : decode cX8_fit 42 = .ok (.ireturn, 1) := by decide +kernel
theorem dX8_fit_43 : decode cX8_fit 43 = .ok (.aload_n 0, 1) := by decide +kernel
theorem dX8_fit_44 : decode cX8_fit 44 = .ok (.getfield 65, 3) := by decide +kernel
theorem dX8_fit_47 : decode cX8_fit 47 = .ok (.aload_n 0, 1) := by decide +kernel
theorem dX8_fit_48 : decode cX8_fit 48 = .ok (.getfield 10, 3) := by decide +kernel
theorem dX8_fit_51 : decode cX8_fit 51 = .ok (.getfield 271, 3) := by decide +kernel
theorem dX8_fit_54 : decode cX8_fit 54 = .ok (.invokevirtual 277, 3) := by decide +kernel
theorem dX8_fit_57 : decode cX8_fit 57 = .ok (.ireturn, 1) := by decide +kernel
theorem dX8_fit_58 : decode cX8_fit 58 = .ok (.aload_n 0, 1) := by decide +kernel
theorem dX8_fit_59 : decode cX8_fit 59 = .ok (.getfield 65, 3) := by decide +kernel
theorem dX8_fit_62 : decode cX8_fit 62 = .ok (.aload_n 0, 1) := by decide +kernel
theorem dX8_fit_63 : decode cX8_fit 63 = .ok (.getfield 10, 3) := by decide +kernel
theorem dX8_fit_66 : decode cX8_fit 66 = .ok (.getfield 271, 3) := by decide +kernel
theorem dX8_fit_69 : decode cX8_fit 69 = .ok (.invokevirtual 280, 3) := by decide +kernel
theorem dX8_fit_72 : decode cX8_fit 72 = .ok (.ireturn, 1) := by decide +kernel
theorem dX8_fit_73 : decode cX8_fit 73 = .ok (.iconst (-1), 1) := by decide +kernel
theorem dX8_fit_74 : decode cX8_fit 74 = .ok (.ireturn, 1) := by decide +kernel
theorem dX8_mark_0 : decode cX8_mark 0 = .ok (.iload_n 1, 1) := by decide +kernel
theorem dX8_mark_1 : decode cX8_mark 1 = .ok (.invokestatic 283, 3) := by decide +kernel
theorem dX8_mark_4 : decode cX8_mark 4 = .ok (.ifCond .eq 14, 3) := by decide +kernel
theorem dX8_mark_7 : decode cX8_mark 7 = .ok (.aload_n 0, 1) := by decide +kernel
theorem dX8_mark_8 : decode cX8_mark 8 = .ok (.getfield 10, 3) := by decide +kernel
theorem dX8_mark_11 : decode cX8_mark 11 = .ok (.iload_n 2, 1) := by decide +kernel
theorem dX8_mark_12 : decode cX8_mark 12 = .ok (.invokevirtual 124, 3) := by decide +kernel
theorem dX8_mark_15 : decode cX8_mark 15 = .ok (.ifCond .ne 7, 3) := by decide +kernel
theorem dX8_mark_18 : decode cX8_mark 18 = .ok (.ldc_w 286, 3) := by decide +kernel
theorem dX8_mark_21 : decode cX8_mark 21 = .ok (.ireturn, 1) := by decide +kernel
theorem dX8_mark_22 : decode cX8_mark 22 = .ok (.aload_n 0, 1) := by decide +kernel
theorem dX8_mark_23 : decode cX8_mark 23 = .ok (.getfield 72, 3) := by decide +kernel
theorem dX8_mark_26 : decode cX8_mark 26 = .ok (.aload_n 0, 1) := by decide +kernel
theorem dX8_mark_27 : decode cX8_mark 27 = .ok (.getfield 10, 3) := by decide +kernel
theorem dX8_mark_30 : decode cX8_mark 30 = .ok (.iload_n 2, 1) := by decide +kernel
theorem dX8_mark_31 : decode cX8_mark 31 = .ok (.aload_n 0, 1) := by decide +kernel
theorem dX8_mark_32 : decode cX8_mark 32 = .ok (.getfield 36, 3) := by decide +kernel
theorem dX8_mark_35 : decode cX8_mark 35 = .ok (.invokevirtual 117, 3) := by decide +kernel
theorem dX8_mark_38 : decode cX8_mark 38 = .ok (.invokevirtual 140, 3) := by decide +kernel
theorem dX8_mark_41 : decode cX8_mark 41 = .ok (.invokestatic 182, 3) := by decide +kernel
theorem dX8_mark_44 : decode cX8_mark 44 = .ok (.putfield 287, 3) := by decide +kernel
theorem dX8_mark_47 : decode cX8_mark 47 = .ok (.aload_n 0, 1) := by decide +kernel
theorem dX8_mark_48 : decode cX8_mark 48 = .ok (.getfield 72, 3) := by decide +kernel
theorem dX8_mark_51 : decode cX8_mark 51 = .ok (.aload_n 0, 1) := by decide +kernel
theorem dX8_mark_52 : decode cX8_mark 52 = .ok (.getfield 10, 3) := by decide +kernel
theorem dX8_mark_55 : decode cX8_mark 55 = .ok (.iload_n 2, 1) := by decide +kernel
theorem dX8_mark_56 : decode cX8_mark 56 = .ok (.invokevirtual 127, 3) := by decide +kernel
theorem dX8_mark_59 : decode cX8_mark 59 = .ok (.putfield 290, 3) := by decide +kernel
theorem dX8_mark_62 : decode cX8_mark 62 = .ok (.aload_n 0, 1) := by decide +kernel
theorem dX8_mark_63 : decode cX8_mark 63 = .ok (.getfield 72, 3) := by decide +kernel
theorem dX8_mark_66 : decode cX8_mark 66 = .ok (.aload_n 0, 1) := by decide +kernel
theorem dX8_mark_67 : decode cX8_mark 67 = .ok (.getfield 10, 3) := by decide +kernel
theorem dX8_mark_70 : decode cX8_mark 70 = .ok (.iload_n 2, 1) := by decide +kernel
theorem dX8_mark_71 : decode cX8_mark 71 = .ok (.invokevirtual 131, 3) := by decide +kernel
theorem dX8_mark_74 : decode cX8_mark 74 = .ok (.putfield 293, 3) := by decide +kernel
theorem dX8_mark_77 : decode cX8_mark 77 = .ok (.aload_n 0, 1) := by decide +kernel
theorem dX8_mark_78 : decode cX8_mark 78 = .ok (.getfield 72, 3) := by decide +kernel
theorem dX8_mark_81 : decode cX8_mark 81 = .ok (.aload_n 0, 1) := by decide +kernel
theorem dX8_mark_82 : decode cX8_mark 82 = .ok (.getfield 36, 3) := by decide +kernel
theorem dX8_mark_85 : decode cX8_mark 85 = .ok (.iload_n 2, 1) := by decide +kernel
theorem dX8_mark_86 : decode cX8_mark 86 = .ok (.invokevirtual 137, 3) := by decide +kernel
theorem dX8_mark_89 : decode cX8_mark 89 = .ok (.putfield 296, 3) := by decide +kernel
theorem dX8_mark_92 : decode cX8_mark 92 = .ok (.aload_n 0, 1) := by decide +kernel
theorem dX8_mark_93 : decode cX8_mark 93 = .ok (.getfield 72, 3) := by decide +kernel
theorem dX8_mark_96 : decode cX8_mark 96 = .ok (.aload_n 0, 1) := by decide +kernel
theorem dX8_mark_97 : decode cX8_mark 97 = .ok (.getfield 36, 3) := by decide +kernel
theorem dX8_mark_100 : decode cX8_mark 100 = .ok (.invokevirtual 156, 3) := by decide +kernel
theorem dX8_mark_103 : decode cX8_mark 103 = .ok (.putfield 299, 3) := by decide +kernel
theorem dX8_mark_106 : decode cX8_mark 106 = .ok (.aload_n 0, 1) := by decide +kernel
theorem dX8_mark_107 : decode cX8_mark 107 = .ok (.getfield 72, 3) := by decide +kernel
theorem dX8_mark_110 : decode cX8_mark 110 = .ok (.iload_n 1, 1) := by decide +kernel
theorem dX8_mark_111 : decode cX8_mark 111 = .ok (.iconst 0, 1) := by decide +kernel
theorem dX8_mark_112 : decode cX8_mark 112 = .ok (.invokevirtual 300, 3) := by decide +kernel
theorem dX8_mark_115 : decode cX8_mark 115 = .ok (.ireturn, 1) := by decide +kernel
theorem dX8_keep_0 : decode cX8_keep 0 = .ok (.iload_n 1, 1) := by decide +kernel
theorem dX8_keep_1 : decode cX8_keep 1 = .ok (.ifCond .ne 22, 3) := by decide +kernel
theorem dX8_keep_4 : decode cX8_keep 4 = .ok (.aload_n 0, 1) := by decide +kernel
theorem dX8_keep_5 : decode cX8_keep 5 = .ok (.getfield 40, 3) := by decide +kernel
theorem dX8_keep_8 : decode cX8_keep 8 = .ok (.aload_n 0, 1) := by decide +kernel
theorem dX8_keep_9 : decode cX8_keep 9 = .ok (.getfield 36, 3) := by decide +kernel
theorem dX8_keep_12 : decode cX8_keep 12 = .ok (.invokevirtual 303, 3) := by decide +kernel
theorem dX8_keep_15 : decode cX8_keep 15 = .ok (.aload_n 0, 1) := by decide +kernel
theorem dX8_keep_16 : decode cX8_keep 16 = .ok (.iconst 1, 1) := by decide +kernel
theorem dX8_keep_17 : decode cX8_keep 17 = .ok (.putfield 107, 3) := by decide +kernel
theorem dX8_keep_20 : decode cX8_keep 20 = .ok (.goto 29, 3) := by decide +kernel
theorem dX8_keep_23 : decode cX8_keep 23 = .ok (.iload_n 1, 1) := by decide +kernel
theorem dX8_keep_24 : decode cX8_keep 24 = .ok (.iconst 1, 1) := by decide +kernel
theorem dX8_keep_25 : decode cX8_keep 25 = .ok (.if_icmp .ne 22, 3) := by decide +kernel
theorem dX8_keep_28 : decode cX8_keep 28 = .ok (.aload_n 0, 1) := by decide +kernel
theorem dX8_keep_29 : decode cX8_keep 29 = .ok (.getfield 43, 3) := by decide +kernel
theorem dX8_keep_32 : decode cX8_keep 32 = .ok (.aload_n 0, 1) := by decide +kernel
theorem dX8_keep_33 : decode cX8_keep 33 = .ok (.getfield 36, 3) := by decide +kernel
theorem dX8_keep_36 : decode cX8_keep 36 = .ok (.invokevirtual 303, 3) := by decide +kernel
theorem dX8_keep_39 : decode cX8_keep 39 = .ok (.aload_n 0, 1) := by decide +kernel
theorem dX8_keep_40 : decode cX8_keep 40 = .ok (.iconst 1, 1) := by decide +kernel
theorem dX8_keep_41 : decode cX8_keep 41 = .ok (.putfield 111, 3) := by decide +kernel
theorem dX8_keep_44 : decode cX8_keep 44 = .ok (.goto 5, 3) := by decide +kernel
theorem dX8_keep_47 : decode cX8_keep 47 = .ok (.iconst (-1), 1) := by decide +kernel
theorem dX8_keep_48 : decode cX8_keep 48 = .ok (.ireturn, 1) := by decide +kernel
theorem dX8_keep_49 : decode cX8_keep 49 = .ok (.aload_n 0, 1) := by decide +kernel
theorem dX8_keep_50 : decode cX8_keep 50 = .ok (.getfield 36, 3) := by decide +kernel
theorem dX8_keep_53 : decode cX8_keep 53 = .ok (.invokevirtual 156, 3) := by decide +kernel
theorem dX8_keep_56 : decode cX8_keep 56 = .ok (.ireturn, 1) := by decide +kernel
theorem dX8_back_0 : decode cX8_back 0 = .ok (.iload_n 1, 1) := by decide +kernel
theorem dX8_back_1 : decode cX8_back 1 = .ok (.ifCond .lt 8, 3) := by decide +kernel
theorem dX8_back_4 : decode cX8_back 4 = .ok (.iload_n 1, 1) := by decide +kernel
theorem dX8_back_5 : decode cX8_back 5 = .ok (.iconst 1, 1) := by decide +kernel
theorem dX8_back_6 : decode cX8_back 6 = .ok (.if_icmp .le 5, 3) := by decide +kernel
theorem dX8_back_9 : decode cX8_back 9 = .ok (.iconst (-1), 1) := by decide +kernel
theorem dX8_back_10 : decode cX8_back 10 = .ok (.ireturn, 1) := by decide +kernel
theorem dX8_back_11 : decode cX8_back 11 = .ok (.iload_n 1, 1) := by decide +kernel
theorem dX8_back_12 : decode cX8_back 12 = .ok (.ifCond .ne 13, 3) := by decide +kernel
theorem dX8_back_15 : decode cX8_back 15 = .ok (.aload_n 0, 1) := by decide +kernel
theorem dX8_back_16 : decode cX8_back 16 = .ok (.getfield 107, 3) := by decide +kernel
theorem dX8_back_19 : decode cX8_back 19 = .ok (.ifCond .ne 16, 3) := by decide +kernel
theorem dX8_back_22 : decode cX8_back 22 = .ok (.goto 10, 3) := by decide +kernel
theorem dX8_back_25 : decode cX8_back 25 = .ok (.aload_n 0, 1) := by decide +kernel
theorem dX8_back_26 : decode cX8_back 26 = .ok (.getfield 111, 3) := by decide +kernel
theorem dX8_back_29 : decode cX8_back 29 = .ok (.ifCond .ne 6, 3) := by decide +kernel
theorem dX8_back_32 : decode cX8_back 32 = .ok (.bipush (-2), 2) := by decide +kernel
theorem dX8_back_34 : decode cX8_back 34 = .ok (.ireturn, 1) := by decide +kernel
theorem dX8_back_35 : decode cX8_back 35 = .ok (.aload_n 0, 1) := by decide +kernel
theorem dX8_back_36 : decode cX8_back 36 = .ok (.getfield 36, 3) := by decide +kernel
theorem dX8_back_39 : decode cX8_back 39 = .ok (.iload_n 1, 1) := by decide +kernel
theorem dX8_back_40 : decode cX8_back 40 = .ok (.ifCond .ne 10, 3) := by decide +kernel
theorem dX8_back_43 : decode cX8_back 43 = .ok (.aload_n 0, 1) := by decide +kernel
theorem dX8_back_44 : decode cX8_back 44 = .ok (.getfield 40, 3) := by decide +kernel
theorem dX8_back_47 : decode cX8_back 47 = .ok (.goto 7, 3) := by decide +kernel
theorem dX8_back_50 : decode cX8_back 50 = .ok (.aload_n 0, 1) := by decide +kernel
theorem dX8_back_51 : decode cX8_back 51 = .ok (.getfield 43, 3) := by decide +kernel
theorem dX8_back_54 : decode cX8_back 54 = .ok (.invokevirtual 303, 3) := by decide +kernel
theorem dX8_back_57 : decode cX8_back 57 = .ok (.aload_n 0, 1) := by decide +kernel
theorem dX8_back_58 : decode cX8_back 58 = .ok (.getfield 36, 3) := by decide +kernel
theorem dX8_back_61 : decode cX8_back 61 = .ok (.invokevirtual 156, 3) := by decide +kernel
theorem dX8_back_64 : decode cX8_back 64 = .ok (.ireturn, 1) := by decide +kernel
theorem dX8_count_0 : decode cX8_count 0 = .ok (.iload_n 1, 1) := by decide +kernel
theorem dX8_count_1 : decode cX8_count 1 = .ok (.tableswitch 99 0 6 #[43, 51, 59, 67, 75, 83, 91], 43) := by decide +kernel
theorem dX8_count_44 : decode cX8_count 44 = .ok (.aload_n 0, 1) := by decide +kernel
theorem dX8_count_45 : decode cX8_count 45 = .ok (.getfield 10, 3) := by decide +kernel
theorem dX8_count_48 : decode cX8_count 48 = .ok (.getfield 271, 3) := by decide +kernel
theorem dX8_count_51 : decode cX8_count 51 = .ok (.ireturn, 1) := by decide +kernel
theorem dX8_count_52 : decode cX8_count 52 = .ok (.aload_n 0, 1) := by decide +kernel
theorem dX8_count_53 : decode cX8_count 53 = .ok (.getfield 10, 3) := by decide +kernel
theorem dX8_count_56 : decode cX8_count 56 = .ok (.getfield 234, 3) := by decide +kernel
theorem dX8_count_59 : decode cX8_count 59 = .ok (.ireturn, 1) := by decide +kernel
theorem dX8_count_60 : decode cX8_count 60 = .ok (.aload_n 0, 1) := by decide +kernel
theorem dX8_count_61 : decode cX8_count 61 = .ok (.getfield 10, 3) := by decide +kernel
theorem dX8_count_64 : decode cX8_count 64 = .ok (.getfield 207, 3) := by decide +kernel
theorem dX8_count_67 : decode cX8_count 67 = .ok (.ireturn, 1) := by decide +kernel
theorem dX8_count_68 : decode cX8_count 68 = .ok (.aload_n 0, 1) := by decide +kernel
theorem dX8_count_69 : decode cX8_count 69 = .ok (.getfield 10, 3) := by decide +kernel
theorem dX8_count_72 : decode cX8_count 72 = .ok (.getfield 307, 3) := by decide +kernel
theorem dX8_count_75 : decode cX8_count 75 = .ok (.ireturn, 1) := by decide +kernel
theorem dX8_count_76 : decode cX8_count 76 = .ok (.aload_n 0, 1) := by decide +kernel
theorem dX8_count_77 : decode cX8_count 77 = .ok (.getfield 65, 3) := by decide +kernel
theorem dX8_count_80 : decode cX8_count 80 = .ok (.getfield 268, 3) := by decide +kernel
theorem dX8_count_83 : decode cX8_count 83 = .ok (.ireturn, 1) := by decide +kernel
theorem dX8_count_84 : decode cX8_count 84 = .ok (.aload_n 0, 1) := by decide +kernel
theorem dX8_count_85 : decode cX8_count 85 = .ok (.getfield 36, 3) := by decide +kernel
theorem dX8_count_88 : decode cX8_count 88 = .ok (.getfield 191, 3) := by decide +kernel
theorem dX8_count_91 : decode cX8_count 91 = .ok (.ireturn, 1) := by decide +kernel
theorem dX8_count_92 : decode cX8_count 92 = .ok (.aload_n 0, 1) := by decide +kernel
theorem dX8_count_93 : decode cX8_count 93 = .ok (.getfield 22, 3) := by decide +kernel
theorem dX8_count_96 : decode cX8_count 96 = .ok (.getfield 80, 3) := by decide +kernel
theorem dX8_count_99 : decode cX8_count 99 = .ok (.ireturn, 1) := by decide +kernel
theorem dX8_count_100 : decode cX8_count 100 = .ok (.iconst (-1), 1) := by decide +kernel
theorem dX8_count_101 : decode cX8_count 101 = .ok (.ireturn, 1) := by decide +kernel
theorem dX8_trace_0 : decode cX8_trace 0 = .ok (.aload_n 0, 1) := by decide +kernel
theorem dX8_trace_1 : decode cX8_trace 1 = .ok (.getfield 72, 3) := by decide +kernel
theorem dX8_trace_4 : decode cX8_trace 4 = .ok (.getfield 310, 3) := by decide +kernel
theorem dX8_trace_7 : decode cX8_trace 7 = .ok (.lreturn, 1) := by decide +kernel
theorem dX9_init_0 : decode cX9_init 0 = .ok (.aload_n 0, 1) := by decide +kernel
theorem dX9_init_1 : decode cX9_init 1 = .ok (.invokespecial 1, 3) := by decide +kernel
theorem dX9_init_4 : decode cX9_init 4 = .ok (.aload_n 0, 1) := by decide +kernel
theorem dX9_init_5 : decode cX9_init 5 = .ok (.bipush 120, 2) := by decide +kernel
theorem dX9_init_7 : decode cX9_init 7 = .ok (.newarray .byte, 2) := by decide +kernel
theorem dX9_init_9 : decode cX9_init 9 = .ok (.putfield 7, 3) := by decide +kernel
theorem dX9_init_12 : decode cX9_init 12 = .ok (.aload_n 0, 1) := by decide +kernel
theorem dX9_init_13 : decode cX9_init 13 = .ok (.iconst 2, 1) := by decide +kernel
theorem dX9_init_14 : decode cX9_init 14 = .ok (.newarray .int, 2) := by decide +kernel
theorem dX9_init_16 : decode cX9_init 16 = .ok (.putfield 13, 3) := by decide +kernel
theorem dX9_init_19 : decode cX9_init 19 = .ok (.aload_n 0, 1) := by decide +kernel
theorem dX9_init_20 : decode cX9_init 20 = .ok (.iconst 2, 1) := by decide +kernel
theorem dX9_init_21 : decode cX9_init 21 = .ok (.newarray .int, 2) := by decide +kernel
theorem dX9_init_23 : decode cX9_init 23 = .ok (.putfield 17, 3) := by decide +kernel
theorem dX9_init_26 : decode cX9_init 26 = .ok (.aload_n 0, 1) := by decide +kernel
theorem dX9_init_27 : decode cX9_init 27 = .ok (.iconst 4, 1) := by decide +kernel
theorem dX9_init_28 : decode cX9_init 28 = .ok (.newarray .int, 2) := by decide +kernel
theorem dX9_init_30 : decode cX9_init 30 = .ok (.putfield 20, 3) := by decide +kernel
theorem dX9_init_33 : decode cX9_init 33 = .ok (.aload_n 0, 1) := by decide +kernel
theorem dX9_init_34 : decode cX9_init 34 = .ok (.iconst 2, 1) := by decide +kernel
theorem dX9_init_35 : decode cX9_init 35 = .ok (.newarray .int, 2) := by decide +kernel
theorem dX9_init_37 : decode cX9_init 37 = .ok (.putfield 23, 3) := by decide +kernel
theorem dX9_init_40 : decode cX9_init 40 = .ok (.aload_n 0, 1) := by decide +kernel
theorem dX9_init_41 : decode cX9_init 41 = .ok (.bipush 12, 2) := by decide +kernel
theorem dX9_init_43 : decode cX9_init 43 = .ok (.newarray .int, 2) := by decide +kernel
theorem dX9_init_45 : decode cX9_init 45 = .ok (.putfield 26, 3) := by decide +kernel
theorem dX9_init_48 : decode cX9_init 48 = .ok (.aload_n 0, 1) := by decide +kernel
theorem dX9_init_49 : decode cX9_init 49 = .ok (.bipush 12, 2) := by decide +kernel
theorem dX9_init_51 : decode cX9_init 51 = .ok (.newarray .int, 2) := by decide +kernel
theorem dX9_init_53 : decode cX9_init 53 = .ok (.putfield 29, 3) := by decide +kernel
theorem dX9_init_56 : decode cX9_init 56 = .ok (.aload_n 0, 1) := by decide +kernel
theorem dX9_init_57 : decode cX9_init 57 = .ok (.iconst 2, 1) := by decide +kernel
theorem dX9_init_58 : decode cX9_init 58 = .ok (.newarray .int, 2) := by decide +kernel
theorem dX9_init_60 : decode cX9_init 60 = .ok (.putfield 32, 3) := by decide +kernel
theorem dX9_init_63 : decode cX9_init 63 = .ok (.aload_n 0, 1) := by decide +kernel
theorem dX9_init_64 : decode cX9_init 64 = .ok (.sipush 300, 3) := by decide +kernel
theorem dX9_init_67 : decode cX9_init 67 = .ok (.newarray .int, 2) := by decide +kernel
theorem dX9_init_69 : decode cX9_init 69 = .ok (.putfield 35, 3) := by decide +kernel
theorem dX9_init_72 : decode cX9_init 72 = .ok (.aload_n 0, 1) := by decide +kernel
theorem dX9_init_73 : decode cX9_init 73 = .ok (.iconst 2, 1) := by decide +kernel
theorem dX9_init_74 : decode cX9_init 74 = .ok (.newarray .boolean, 2) := by decide +kernel
theorem dX9_init_76 : decode cX9_init 76 = .ok (.putfield 38, 3) := by decide +kernel
theorem dX9_init_79 : decode cX9_init 79 = .ok (.aload_n 0, 1) := by decide +kernel
theorem dX9_init_80 : decode cX9_init 80 = .ok (.sipush 625, 3) := by decide +kernel
theorem dX9_init_83 : decode cX9_init 83 = .ok (.newarray .int, 2) := by decide +kernel
theorem dX9_init_85 : decode cX9_init 85 = .ok (.putfield 42, 3) := by decide +kernel
theorem dX9_init_88 : decode cX9_init 88 = .ok (.aload_n 0, 1) := by decide +kernel
theorem dX9_init_89 : decode cX9_init 89 = .ok (.bipush 6, 2) := by decide +kernel
theorem dX9_init_91 : decode cX9_init 91 = .ok (.newarray .int, 2) := by decide +kernel
theorem dX9_init_93 : decode cX9_init 93 = .ok (.putfield 45, 3) := by decide +kernel
theorem dX9_init_96 : decode cX9_init 96 = .ok (.aload_n 0, 1) := by decide +kernel
theorem dX9_init_97 : decode cX9_init 97 = .ok (.bipush 6, 2) := by decide +kernel
theorem dX9_init_99 : decode cX9_init 99 = .ok (.newarray .int, 2) := by decide +kernel
theorem dX9_init_101 : decode cX9_init 101 = .ok (.putfield 48, 3) := by decide +kernel
theorem dX9_init_104 : decode cX9_init 104 = .ok (.aload_n 0, 1) := by decide +kernel
theorem dX9_init_105 : decode cX9_init 105 = .ok (.invokevirtual 51, 3) := by decide +kernel
theorem dX9_init_108 : decode cX9_init 108 = .ok (.aload_n 0, 1) := by decide +kernel
theorem dX9_init_109 : decode cX9_init 109 = .ok (.invokevirtual 54, 3) := by decide +kernel
theorem dX9_init_112 : decode cX9_init 112 = .ok (.return_, 1) := by decide +kernel
theorem dX9_in_0 : decode cX9_in 0 = .ok (.iload_n 0, 1) := by decide +kernel
theorem dX9_in_1 : decode cX9_in 1 = .ok (.iload_n 1, 1) := by decide +kernel
theorem dX9_in_2 : decode cX9_in 2 = .ok (.if_icmp .lt 12, 3) := by decide +kernel
theorem dX9_in_5 : decode cX9_in 5 = .ok (.iload_n 0, 1) := by decide +kernel
theorem dX9_in_6 : decode cX9_in 6 = .ok (.iload_n 2, 1) := by decide +kernel
theorem dX9_in_7 : decode cX9_in 7 = .ok (.if_icmp .gt 7, 3) := by decide +kernel
theorem dX9_in_10 : decode cX9_in 10 = .ok (.iconst 1, 1) := by decide +kernel
theorem dX9_in_11 : decode cX9_in 11 = .ok (.goto 4, 3) := by decide +kernel
theorem dX9_in_14 : decode cX9_in 14 = .ok (.iconst 0, 1) := by decide +kernel
theorem dX9_in_15 : decode cX9_in 15 = .ok (.ireturn, 1) := by decide +kernel
theorem dX9_type_0 : decode cX9_type 0 = .ok (.iload_n 1, 1) := by decide +kernel
theorem dX9_type_1 : decode cX9_type 1 = .ok (.iconst 0, 1) := by decide +kernel
theorem dX9_type_2 : decode cX9_type 2 = .ok (.sipush 255, 3) := by decide +kernel
theorem dX9_type_5 : decode cX9_type 5 = .ok (.invokestatic 57, 3) := by decide +kernel
theorem dX9_type_8 : decode cX9_type 8 = .ok (.ifCond .ne 5, 3) := by decide +kernel
theorem dX9_type_11 : decode cX9_type 11 = .ok (.iconst (-1), 1) := by decide +kernel
theorem dX9_type_12 : decode cX9_type 12 = .ok (.ireturn, 1) := by decide +kernel
theorem dX9_type_13 : decode cX9_type 13 = .ok (.aload_n 0, 1) := by decide +kernel
theorem dX9_type_14 : decode cX9_type 14 = .ok (.getfield 61, 3) := by decide +kernel
theorem dX9_type_17 : decode cX9_type 17 = .ok (.bipush 120, 2) := by decide +kernel
theorem dX9_type_19 : decode cX9_type 19 = .ok (.if_icmp .ne 6, 3) := by decide +kernel
theorem dX9_type_22 : decode cX9_type 22 = .ok (.bipush (-3), 2) := by decide +kernel
theorem dX9_type_24 : decode cX9_type 24 = .ok (.ireturn, 1) := by decide +kernel
theorem dX9_type_25 : decode cX9_type 25 = .ok (.aload_n 0, 1) := by decide +kernel
theorem dX9_type_26 : decode cX9_type 26 = .ok (.getfield 7, 3) := by decide +kernel
theorem dX9_type_29 : decode cX9_type 29 = .ok (.aload_n 0, 1) := by decide +kernel
theorem dX9_type_30 : decode cX9_type 30 = .ok (.getfield 61, 3) := by decide +kernel
theorem dX9_type_33 : decode cX9_type 33 = .ok (.iload_n 1, 1) := by decide +kernel
theorem dX9_type_34 : decode cX9_type 34 = .ok (.i2b, 1) := by decide +kernel
theorem dX9_type_35 : decode cX9_type 35 = .ok (.bastore, 1) := by decide +kernel
theorem dX9_type_36 : decode cX9_type 36 = .ok (.aload_n 0, 1) := by decide +kernel
theorem dX9_type_37 : decode cX9_type 37 = .ok (.dup, 1) := by decide +kernel
theorem dX9_type_38 : decode cX9_type 38 = .ok (.getfield 61, 3) := by decide +kernel
theorem dX9_type_41 : decode cX9_type 41 = .ok (.iconst 1, 1) := by decide +kernel
theorem dX9_type_42 : decode cX9_type 42 = .ok (.iadd, 1) := by decide +kernel
theorem dX9_type_43 : decode cX9_type 43 = .ok (.putfield 61, 3) := by decide +kernel
theorem dX9_type_46 : decode cX9_type 46 = .ok (.aload_n 0, 1) := by decide +kernel
theorem dX9_type_47 : decode cX9_type 47 = .ok (.getfield 61, 3) := by decide +kernel
theorem dX9_type_50 : decode cX9_type 50 = .ok (.ireturn, 1) := by decide +kernel
theorem dX9_clear_0 : decode cX9_clear 0 = .ok (.aload_n 0, 1) := by decide +kernel
theorem dX9_clear_1 : decode cX9_clear 1 = .ok (.getfield 61, 3) := by decide +kernel
theorem dX9_clear_4 : decode cX9_clear 4 = .ok (.istore_n 1, 1) := by decide +kernel
theorem dX9_clear_5 : decode cX9_clear 5 = .ok (.aload_n 0, 1) := by decide +kernel
theorem dX9_clear_6 : decode cX9_clear 6 = .ok (.iconst 0, 1) := by decide +kernel
theorem dX9_clear_7 : decode cX9_clear 7 = .ok (.putfield 61, 3) := by decide +kernel
theorem dX9_clear_10 : decode cX9_clear 10 = .ok (.iload_n 1, 1) := by decide +kernel
theorem dX9_clear_11 : decode cX9_clear 11 = .ok (.ireturn, 1) := by decide +kernel
theorem dX9_here_0 : decode cX9_here 0 = .ok (.aload_n 0, 1) := by decide +kernel
theorem dX9_here_1 : decode cX9_here 1 = .ok (.getfield 65, 3) := by decide +kernel
theorem dX9_here_4 : decode cX9_here 4 = .ok (.aload_n 0, 1) := by decide +kernel
theorem dX9_here_5 : decode cX9_here 5 = .ok (.getfield 61, 3) := by decide +kernel
theorem dX9_here_8 : decode cX9_here 8 = .ok (.if_icmp .ge 19, 3) := by decide +kernel
theorem dX9_here_11 : decode cX9_here 11 = .ok (.aload_n 0, 1) := by decide +kernel
theorem dX9_here_12 : decode cX9_here 12 = .ok (.getfield 7, 3) := by decide +kernel
theorem dX9_here_15 : decode cX9_here 15 = .ok (.aload_n 0, 1) := by decide +kernel
theorem dX9_here_16 : decode cX9_here 16 = .ok (.getfield 65, 3) := by decide +kernel
theorem dX9_here_19 : decode cX9_here 19 = .ok (.baload, 1) := by decide +kernel
theorem dX9_here_20 : decode cX9_here 20 = .ok (.sipush 255, 3) := by decide +kernel
theorem dX9_here_23 : decode cX9_here 23 = .ok (.iand, 1) := by decide +kernel
theorem dX9_here_24 : decode cX9_here 24 = .ok (.goto 4, 3) := by decide +kernel
theorem dX9_here_27 : decode cX9_here 27 = .ok (.iconst (-1), 1) := by decide +kernel
theorem dX9_here_28 : decode cX9_here 28 = .ok (.ireturn, 1) := by decide +kernel
theorem dX9_step_0 : decode cX9_step 0 = .ok (.aload_n 0, 1) := by decide +kernel
theorem dX9_step_1 : decode cX9_step 1 = .ok (.invokevirtual 68, 3) := by decide +kernel
theorem dX9_step_4 : decode cX9_step 4 = .ok (.bipush 32, 2) := by decide +kernel
theorem dX9_step_6 : decode cX9_step 6 = .ok (.if_icmp .ne 16, 3) := by decide +kernel
theorem dX9_step_9 : decode cX9_step 9 = .ok (.aload_n 0, 1) := by decide +kernel
theorem dX9_step_10 : decode cX9_step 10 = .ok (.dup, 1) := by decide +kernel
theorem dX9_step_11 : decode cX9_step 11 = .ok (.getfield 65, 3) := by decide +kernel
theorem dX9_step_14 : decode cX9_step 14 = .ok (.iconst 1, 1) := by decide +kernel
theorem dX9_step_15 : decode cX9_step 15 = .ok (.iadd, 1) := by decide +kernel
theorem dX9_step_16 : decode cX9_step 16 = .ok (.putfield 65, 3) := by decide +kernel
theorem dX9_step_19 : decode cX9_step 19 = .ok (.goto (-19), 3) := by decide +kernel
theorem dX9_step_22 : decode cX9_step 22 = .ok (.aload_n 0, 1) := by decide +kernel
theorem dX9_step_23 : decode cX9_step 23 = .ok (.aload_n 0, 1) := by decide +kernel
theorem dX9_step_24 : decode cX9_step 24 = .ok (.getfield 65, 3) := by decide +kernel
theorem dX9_step_27 : decode cX9_step 27 = .ok (.putfield 72, 3) := by decide +kernel
theorem dX9_step_30 : decode cX9_step 30 = .ok (.aload_n 0, 1) := by decide +kernel
theorem dX9_step_31 : decode cX9_step 31 = .ok (.iconst 0, 1) := by decide +kernel
theorem dX9_step_32 : decode cX9_step 32 = .ok (.putfield 75, 3) := by decide +kernel
theorem dX9_step_35 : decode cX9_step 35 = .ok (.aload_n 0, 1) := by decide +kernel
theorem dX9_step_36 : decode cX9_step 36 = .ok (.invokevirtual 68, 3) := by decide +kernel
theorem dX9_step_39 : decode cX9_step 39 = .ok (.istore_n 1, 1) := by decide +kernel
