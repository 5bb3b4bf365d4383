theorem dX9_errs_19 : decode cX9_errs 19 = .ok (.aload_n 0, 1) := by decide +kernel
theorem dX9_errs_20 : decode cX9_errs 20 = .ok (.getfield 35, 3) := by decide +kernel
theorem dX9_errs_23 : decode cX9_errs 23 = .ok (.iconst 0, 1) := by decide +kernel
theorem dX9_errs_24 : decode cX9_errs 24 = .ok (.iaload, 1) := by decide +kernel
theorem dX9_errs_25 : decode cX9_errs 25 = .ok (.iload_n 1, 1) := by decide +kernel
theorem dX9_errs_26 : decode cX9_errs 26 = .ok (.invokevirtual 113, 3) := by decide +kernel
theorem dX9_errs_29 : decode cX9_errs 29 = .ok (.istore_n 3, 1) := by decide +kernel
theorem dX9_errs_30 : decode cX9_errs 30 = .ok (.iload_n 3, 1) := by decide +kernel
theorem dX9_errs_31 : decode cX9_errs 31 = .ok (.iload_n 2, 1) := by decide +kernel
theorem dX9_errs_32 : decode cX9_errs 32 = .ok (.if_icmp .ne 6, 3) := by decide +kernel
theorem dX9_errs_35 : decode cX9_errs 35 = .ok (.bipush (-2), 2) := by decide +kernel
theorem dX9_errs_37 : decode cX9_errs 37 = .ok (.ireturn, 1) := by decide +kernel
theorem dX9_errs_38 : decode cX9_errs 38 = .ok (.aload_n 0, 1) := by decide +kernel
theorem dX9_errs_39 : decode cX9_errs 39 = .ok (.invokevirtual 145, 3) := by decide +kernel
theorem dX9_errs_42 : decode cX9_errs 42 = .ok (.aload_n 0, 1) := by decide +kernel
theorem dX9_errs_43 : decode cX9_errs 43 = .ok (.getfield 35, 3) := by decide +kernel
theorem dX9_errs_46 : decode cX9_errs 46 = .ok (.iconst 0, 1) := by decide +kernel
theorem dX9_errs_47 : decode cX9_errs 47 = .ok (.aload_n 0, 1) := by decide +kernel
theorem dX9_errs_48 : decode cX9_errs 48 = .ok (.aload_n 0, 1) := by decide +kernel
theorem dX9_errs_49 : decode cX9_errs 49 = .ok (.getfield 35, 3) := by decide +kernel
theorem dX9_errs_52 : decode cX9_errs 52 = .ok (.iconst 0, 1) := by decide +kernel
theorem dX9_errs_53 : decode cX9_errs 53 = .ok (.iaload, 1) := by decide +kernel
theorem dX9_errs_54 : decode cX9_errs 54 = .ok (.iload_n 1, 1) := by decide +kernel
theorem dX9_errs_55 : decode cX9_errs 55 = .ok (.iload_n 2, 1) := by decide +kernel
theorem dX9_errs_56 : decode cX9_errs 56 = .ok (.invokevirtual 148, 3) := by decide +kernel
theorem dX9_errs_59 : decode cX9_errs 59 = .ok (.iastore, 1) := by decide +kernel
theorem dX9_errs_60 : decode cX9_errs 60 = .ok (.iload_n 3, 1) := by decide +kernel
theorem dX9_errs_61 : decode cX9_errs 61 = .ok (.ireturn, 1) := by decide +kernel
theorem dX9_releases_0 : decode cX9_releases 0 = .ok (.aload_n 0, 1) := by decide +kernel
theorem dX9_releases_1 : decode cX9_releases 1 = .ok (.iload_n 1, 1) := by decide +kernel
theorem dX9_releases_2 : decode cX9_releases 2 = .ok (.invokevirtual 133, 3) := by decide +kernel
theorem dX9_releases_5 : decode cX9_releases 5 = .ok (.ifCond .eq 12, 3) := by decide +kernel
theorem dX9_releases_8 : decode cX9_releases 8 = .ok (.iload_n 2, 1) := by decide +kernel
theorem dX9_releases_9 : decode cX9_releases 9 = .ok (.iconst 0, 1) := by decide +kernel
theorem dX9_releases_10 : decode cX9_releases 10 = .ok (.iconst 1, 1) := by decide +kernel
theorem dX9_releases_11 : decode cX9_releases 11 = .ok (.invokestatic 57, 3) := by decide +kernel
theorem dX9_releases_14 : decode cX9_releases 14 = .ok (.ifCond .ne 5, 3) := by decide +kernel
theorem dX9_releases_17 : decode cX9_releases 17 = .ok (.iconst (-1), 1) := by decide +kernel
theorem dX9_releases_18 : decode cX9_releases 18 = .ok (.ireturn, 1) := by decide +kernel
theorem dX9_releases_19 : decode cX9_releases 19 = .ok (.aload_n 0, 1) := by decide +kernel
theorem dX9_releases_20 : decode cX9_releases 20 = .ok (.getfield 35, 3) := by decide +kernel
theorem dX9_releases_23 : decode cX9_releases 23 = .ok (.bipush 8, 2) := by decide +kernel
theorem dX9_releases_25 : decode cX9_releases 25 = .ok (.iaload, 1) := by decide +kernel
theorem dX9_releases_26 : decode cX9_releases 26 = .ok (.iload_n 1, 1) := by decide +kernel
theorem dX9_releases_27 : decode cX9_releases 27 = .ok (.ishr, 1) := by decide +kernel
theorem dX9_releases_28 : decode cX9_releases 28 = .ok (.iconst 1, 1) := by decide +kernel
theorem dX9_releases_29 : decode cX9_releases 29 = .ok (.iand, 1) := by decide +kernel
theorem dX9_releases_30 : decode cX9_releases 30 = .ok (.iload_n 2, 1) := by decide +kernel
theorem dX9_releases_31 : decode cX9_releases 31 = .ok (.if_icmp .ne 6, 3) := by decide +kernel
theorem dX9_releases_34 : decode cX9_releases 34 = .ok (.bipush (-2), 2) := by decide +kernel
theorem dX9_releases_36 : decode cX9_releases 36 = .ok (.ireturn, 1) := by decide +kernel
theorem dX9_releases_37 : decode cX9_releases 37 = .ok (.aload_n 0, 1) := by decide +kernel
theorem dX9_releases_38 : decode cX9_releases 38 = .ok (.invokevirtual 145, 3) := by decide +kernel
theorem dX9_releases_41 : decode cX9_releases 41 = .ok (.aload_n 0, 1) := by decide +kernel
theorem dX9_releases_42 : decode cX9_releases 42 = .ok (.getfield 35, 3) := by decide +kernel
theorem dX9_releases_45 : decode cX9_releases 45 = .ok (.bipush 8, 2) := by decide +kernel
theorem dX9_releases_47 : decode cX9_releases 47 = .ok (.dup2, 1) := by decide +kernel
theorem dX9_releases_48 : decode cX9_releases 48 = .ok (.iaload, 1) := by decide +kernel
theorem dX9_releases_49 : decode cX9_releases 49 = .ok (.iconst 1, 1) := by decide +kernel
theorem dX9_releases_50 : decode cX9_releases 50 = .ok (.iload_n 1, 1) := by decide +kernel
theorem dX9_releases_51 : decode cX9_releases 51 = .ok (.ishl, 1) := by decide +kernel
theorem dX9_releases_52 : decode cX9_releases 52 = .ok (.ixor, 1) := by decide +kernel
theorem dX9_releases_53 : decode cX9_releases 53 = .ok (.iastore, 1) := by decide +kernel
theorem dX9_releases_54 : decode cX9_releases 54 = .ok (.aload_n 0, 1) := by decide +kernel
theorem dX9_releases_55 : decode cX9_releases 55 = .ok (.getfield 35, 3) := by decide +kernel
theorem dX9_releases_58 : decode cX9_releases 58 = .ok (.bipush 8, 2) := by decide +kernel
theorem dX9_releases_60 : decode cX9_releases 60 = .ok (.iaload, 1) := by decide +kernel
theorem dX9_releases_61 : decode cX9_releases 61 = .ok (.invokestatic 122, 3) := by decide +kernel
theorem dX9_releases_64 : decode cX9_releases 64 = .ok (.ireturn, 1) := by decide +kernel
theorem dX9_aims_0 : decode cX9_aims 0 = .ok (.aload_n 0, 1) := by decide +kernel
theorem dX9_aims_1 : decode cX9_aims 1 = .ok (.iload_n 1, 1) := by decide +kernel
theorem dX9_aims_2 : decode cX9_aims 2 = .ok (.invokevirtual 129, 3) := by decide +kernel
theorem dX9_aims_5 : decode cX9_aims 5 = .ok (.ifCond .eq 11, 3) := by decide +kernel
theorem dX9_aims_8 : decode cX9_aims 8 = .ok (.aload_n 0, 1) := by decide +kernel
theorem dX9_aims_9 : decode cX9_aims 9 = .ok (.iload_n 2, 1) := by decide +kernel
theorem dX9_aims_10 : decode cX9_aims 10 = .ok (.invokevirtual 142, 3) := by decide +kernel
theorem dX9_aims_13 : decode cX9_aims 13 = .ok (.ifCond .ne 5, 3) := by decide +kernel
theorem dX9_aims_16 : decode cX9_aims 16 = .ok (.iconst (-1), 1) := by decide +kernel
theorem dX9_aims_17 : decode cX9_aims 17 = .ok (.ireturn, 1) := by decide +kernel
theorem dX9_aims_18 : decode cX9_aims 18 = .ok (.aload_n 0, 1) := by decide +kernel
theorem dX9_aims_19 : decode cX9_aims 19 = .ok (.aload_n 0, 1) := by decide +kernel
theorem dX9_aims_20 : decode cX9_aims 20 = .ok (.getfield 99, 3) := by decide +kernel
theorem dX9_aims_23 : decode cX9_aims 23 = .ok (.iload_n 1, 1) := by decide +kernel
theorem dX9_aims_24 : decode cX9_aims 24 = .ok (.invokevirtual 113, 3) := by decide +kernel
theorem dX9_aims_27 : decode cX9_aims 27 = .ok (.istore_n 3, 1) := by decide +kernel
theorem dX9_aims_28 : decode cX9_aims 28 = .ok (.aload_n 0, 1) := by decide +kernel
theorem dX9_aims_29 : decode cX9_aims 29 = .ok (.aload_n 0, 1) := by decide +kernel
theorem dX9_aims_30 : decode cX9_aims 30 = .ok (.aload_n 0, 1) := by decide +kernel
theorem dX9_aims_31 : decode cX9_aims 31 = .ok (.getfield 99, 3) := by decide +kernel
theorem dX9_aims_34 : decode cX9_aims 34 = .ok (.iload_n 1, 1) := by decide +kernel
theorem dX9_aims_35 : decode cX9_aims 35 = .ok (.iload_n 2, 1) := by decide +kernel
theorem dX9_aims_36 : decode cX9_aims 36 = .ok (.invokevirtual 148, 3) := by decide +kernel
theorem dX9_aims_39 : decode cX9_aims 39 = .ok (.putfield 99, 3) := by decide +kernel
theorem dX9_aims_42 : decode cX9_aims 42 = .ok (.iload_n 3, 1) := by decide +kernel
theorem dX9_aims_43 : decode cX9_aims 43 = .ok (.ireturn, 1) := by decide +kernel
theorem dX9_undo_0 : decode cX9_undo 0 = .ok (.aload_n 0, 1) := by decide +kernel
theorem dX9_undo_1 : decode cX9_undo 1 = .ok (.getfield 35, 3) := by decide +kernel
theorem dX9_undo_4 : decode cX9_undo 4 = .ok (.bipush 9, 2) := by decide +kernel
theorem dX9_undo_6 : decode cX9_undo 6 = .ok (.iaload, 1) := by decide +kernel
theorem dX9_undo_7 : decode cX9_undo 7 = .ok (.ifCond .ne 6, 3) := by decide +kernel
theorem dX9_undo_10 : decode cX9_undo 10 = .ok (.bipush (-2), 2) := by decide +kernel
theorem dX9_undo_12 : decode cX9_undo 12 = .ok (.ireturn, 1) := by decide +kernel
theorem dX9_undo_13 : decode cX9_undo 13 = .ok (.aload_n 0, 1) := by decide +kernel
theorem dX9_undo_14 : decode cX9_undo 14 = .ok (.getfield 35, 3) := by decide +kernel
theorem dX9_undo_17 : decode cX9_undo 17 = .ok (.bipush 9, 2) := by decide +kernel
theorem dX9_undo_19 : decode cX9_undo 19 = .ok (.dup2, 1) := by decide +kernel
theorem dX9_undo_20 : decode cX9_undo 20 = .ok (.iaload, 1) := by decide +kernel
theorem dX9_undo_21 : decode cX9_undo 21 = .ok (.iconst 1, 1) := by decide +kernel
theorem dX9_undo_22 : decode cX9_undo 22 = .ok (.isub, 1) := by decide +kernel
theorem dX9_undo_23 : decode cX9_undo 23 = .ok (.iastore, 1) := by decide +kernel
theorem dX9_undo_24 : decode cX9_undo 24 = .ok (.iconst 0, 1) := by decide +kernel
theorem dX9_undo_25 : decode cX9_undo 25 = .ok (.istore_n 1, 1) := by decide +kernel
theorem dX9_undo_26 : decode cX9_undo 26 = .ok (.iload_n 1, 1) := by decide +kernel
theorem dX9_undo_27 : decode cX9_undo 27 = .ok (.bipush 9, 2) := by decide +kernel
theorem dX9_undo_29 : decode cX9_undo 29 = .ok (.if_icmp .ge 35, 3) := by decide +kernel
theorem dX9_undo_32 : decode cX9_undo 32 = .ok (.aload_n 0, 1) := by decide +kernel
theorem dX9_undo_33 : decode cX9_undo 33 = .ok (.getfield 35, 3) := by decide +kernel
theorem dX9_undo_36 : decode cX9_undo 36 = .ok (.iload_n 1, 1) := by decide +kernel
theorem dX9_undo_37 : decode cX9_undo 37 = .ok (.aload_n 0, 1) := by decide +kernel
theorem dX9_undo_38 : decode cX9_undo 38 = .ok (.getfield 35, 3) := by decide +kernel
theorem dX9_undo_41 : decode cX9_undo 41 = .ok (.bipush 10, 2) := by decide +kernel
theorem dX9_undo_43 : decode cX9_undo 43 = .ok (.bipush 9, 2) := by decide +kernel
theorem dX9_undo_45 : decode cX9_undo 45 = .ok (.aload_n 0, 1) := by decide +kernel
theorem dX9_undo_46 : decode cX9_undo 46 = .ok (.getfield 35, 3) := by decide +kernel
theorem dX9_undo_49 : decode cX9_undo 49 = .ok (.bipush 9, 2) := by decide +kernel
theorem dX9_undo_51 : decode cX9_undo 51 = .ok (.iaload, 1) := by decide +kernel
theorem dX9_undo_52 : decode cX9_undo 52 = .ok (.imul, 1) := by decide +kernel
theorem dX9_undo_53 : decode cX9_undo 53 = .ok (.iadd, 1) := by decide +kernel
theorem dX9_undo_54 : decode cX9_undo 54 = .ok (.iload_n 1, 1) := by decide +kernel
theorem dX9_undo_55 : decode cX9_undo 55 = .ok (.iadd, 1) := by decide +kernel
theorem dX9_undo_56 : decode cX9_undo 56 = .ok (.iaload, 1) := by decide +kernel
theorem dX9_undo_57 : decode cX9_undo 57 = .ok (.iastore, 1) := by decide +kernel
theorem dX9_undo_58 : decode cX9_undo 58 = .ok (.iinc 1 1, 3) := by decide +kernel
theorem dX9_undo_61 : decode cX9_undo 61 = .ok (.goto (-35), 3) := by decide +kernel
theorem dX9_undo_64 : decode cX9_undo 64 = .ok (.aload_n 0, 1) := by decide +kernel
theorem dX9_undo_65 : decode cX9_undo 65 = .ok (.getfield 35, 3) := by decide +kernel
theorem dX9_undo_68 : decode cX9_undo 68 = .ok (.bipush 9, 2) := by decide +kernel
theorem dX9_undo_70 : decode cX9_undo 70 = .ok (.iaload, 1) := by decide +kernel
theorem dX9_undo_71 : decode cX9_undo 71 = .ok (.ireturn, 1) := by decide +kernel
theorem dX9_mayCome_0 : decode cX9_mayCome 0 = .ok (.aload_n 0, 1) := by decide +kernel
theorem dX9_mayCome_1 : decode cX9_mayCome 1 = .ok (.iload_n 1, 1) := by decide +kernel
theorem dX9_mayCome_2 : decode cX9_mayCome 2 = .ok (.iload_n 2, 1) := by decide +kernel
theorem dX9_mayCome_3 : decode cX9_mayCome 3 = .ok (.invokevirtual 136, 3) := by decide +kernel
theorem dX9_mayCome_6 : decode cX9_mayCome 6 = .ok (.ifCond .ne 22, 3) := by decide +kernel
theorem dX9_mayCome_9 : decode cX9_mayCome 9 = .ok (.aload_n 0, 1) := by decide +kernel
theorem dX9_mayCome_10 : decode cX9_mayCome 10 = .ok (.iload_n 1, 1) := by decide +kernel
theorem dX9_mayCome_11 : decode cX9_mayCome 11 = .ok (.iload_n 2, 1) := by decide +kernel
theorem dX9_mayCome_12 : decode cX9_mayCome 12 = .ok (.invokevirtual 126, 3) := by decide +kernel
theorem dX9_mayCome_15 : decode cX9_mayCome 15 = .ok (.aload_n 0, 1) := by decide +kernel
theorem dX9_mayCome_16 : decode cX9_mayCome 16 = .ok (.getfield 35, 3) := by decide +kernel
theorem dX9_mayCome_19 : decode cX9_mayCome 19 = .ok (.iconst 0, 1) := by decide +kernel
theorem dX9_mayCome_20 : decode cX9_mayCome 20 = .ok (.iaload, 1) := by decide +kernel
theorem dX9_mayCome_21 : decode cX9_mayCome 21 = .ok (.if_icmp .ne 7, 3) := by decide +kernel
theorem dX9_mayCome_24 : decode cX9_mayCome 24 = .ok (.iconst 1, 1) := by decide +kernel
theorem dX9_mayCome_25 : decode cX9_mayCome 25 = .ok (.goto 4, 3) := by decide +kernel
theorem dX9_mayCome_28 : decode cX9_mayCome 28 = .ok (.iconst 0, 1) := by decide +kernel
theorem dX9_mayCome_29 : decode cX9_mayCome 29 = .ok (.ireturn, 1) := by decide +kernel
theorem dX9_fromOf_0 : decode cX9_fromOf 0 = .ok (.iconst 0, 1) := by decide +kernel
theorem dX9_fromOf_1 : decode cX9_fromOf 1 = .ok (.istore_n 2, 1) := by decide +kernel
theorem dX9_fromOf_2 : decode cX9_fromOf 2 = .ok (.iconst 0, 1) := by decide +kernel
theorem dX9_fromOf_3 : decode cX9_fromOf 3 = .ok (.istore_n 3, 1) := by decide +kernel
theorem dX9_fromOf_4 : decode cX9_fromOf 4 = .ok (.iload_n 3, 1) := by decide +kernel
theorem dX9_fromOf_5 : decode cX9_fromOf 5 = .ok (.aload_n 0, 1) := by decide +kernel
theorem dX9_fromOf_6 : decode cX9_fromOf 6 = .ok (.invokevirtual 152, 3) := by decide +kernel
theorem dX9_fromOf_9 : decode cX9_fromOf 9 = .ok (.if_icmp .ge 26, 3) := by decide +kernel
theorem dX9_fromOf_12 : decode cX9_fromOf 12 = .ok (.iload_n 2, 1) := by decide +kernel
theorem dX9_fromOf_13 : decode cX9_fromOf 13 = .ok (.aload_n 0, 1) := by decide +kernel
theorem dX9_fromOf_14 : decode cX9_fromOf 14 = .ok (.iload_n 1, 1) := by decide +kernel
theorem dX9_fromOf_15 : decode cX9_fromOf 15 = .ok (.iload_n 3, 1) := by decide +kernel
theorem dX9_fromOf_16 : decode cX9_fromOf 16 = .ok (.invokevirtual 155, 3) := by decide +kernel
theorem dX9_fromOf_19 : decode cX9_fromOf 19 = .ok (.ifCond .eq 7, 3) := by decide +kernel
theorem dX9_fromOf_22 : decode cX9_fromOf 22 = .ok (.iconst 1, 1) := by decide +kernel
theorem dX9_fromOf_23 : decode cX9_fromOf 23 = .ok (.goto 4, 3) := by decide +kernel
theorem dX9_fromOf_26 : decode cX9_fromOf 26 = .ok (.iconst 0, 1) := by decide +kernel
theorem dX9_fromOf_27 : decode cX9_fromOf 27 = .ok (.iadd, 1) := by decide +kernel
theorem dX9_fromOf_28 : decode cX9_fromOf 28 = .ok (.istore_n 2, 1) := by decide +kernel
theorem dX9_fromOf_29 : decode cX9_fromOf 29 = .ok (.iinc 3 1, 3) := by decide +kernel
theorem dX9_fromOf_32 : decode cX9_fromOf 32 = .ok (.goto (-28), 3) := by decide +kernel
theorem dX9_fromOf_35 : decode cX9_fromOf 35 = .ok (.iload_n 2, 1) := by decide +kernel
theorem dX9_fromOf_36 : decode cX9_fromOf 36 = .ok (.ireturn, 1) := by decide +kernel
theorem dX9_same_0 : decode cX9_same 0 = .ok (.bipush (-9), 2) := by decide +kernel
theorem dX9_same_2 : decode cX9_same 2 = .ok (.istore_n 1, 1) := by decide +kernel
theorem dX9_same_3 : decode cX9_same 3 = .ok (.iconst 1, 1) := by decide +kernel
theorem dX9_same_4 : decode cX9_same 4 = .ok (.aload_n 0, 1) := by decide +kernel
theorem dX9_same_5 : decode cX9_same 5 = .ok (.getfield 17, 3) := by decide +kernel
theorem dX9_same_8 : decode cX9_same 8 = .ok (.iconst 0, 1) := by decide +kernel
theorem dX9_same_9 : decode cX9_same 9 = .ok (.iaload, 1) := by decide +kernel
theorem dX9_same_10 : decode cX9_same 10 = .ok (.ishl, 1) := by decide +kernel
theorem dX9_same_11 : decode cX9_same 11 = .ok (.iconst 1, 1) := by decide +kernel
theorem dX9_same_12 : decode cX9_same 12 = .ok (.isub, 1) := by decide +kernel
theorem dX9_same_13 : decode cX9_same 13 = .ok (.istore_n 2, 1) := by decide +kernel
theorem dX9_same_14 : decode cX9_same 14 = .ok (.iconst 0, 1) := by decide +kernel
theorem dX9_same_15 : decode cX9_same 15 = .ok (.istore_n 3, 1) := by decide +kernel
theorem dX9_same_16 : decode cX9_same 16 = .ok (.iload_n 3, 1) := by decide +kernel
theorem dX9_same_17 : decode cX9_same 17 = .ok (.aload_n 0, 1) := by decide +kernel
theorem dX9_same_18 : decode cX9_same 18 = .ok (.invokevirtual 152, 3) := by decide +kernel
theorem dX9_same_21 : decode cX9_same 21 = .ok (.if_icmp .ge 126, 3) := by decide +kernel
theorem dX9_same_24 : decode cX9_same 24 = .ok (.iconst 0, 1) := by decide +kernel
theorem dX9_same_25 : decode cX9_same 25 = .ok (.istore 4, 2) := by decide +kernel
theorem dX9_same_27 : decode cX9_same 27 = .ok (.iconst 0, 1) := by decide +kernel
theorem dX9_same_28 : decode cX9_same 28 = .ok (.istore 5, 2) := by decide +kernel
theorem dX9_same_30 : decode cX9_same 30 = .ok (.iload 5, 2) := by decide +kernel
theorem dX9_same_32 : decode cX9_same 32 = .ok (.aload_n 0, 1) := by decide +kernel
theorem dX9_same_33 : decode cX9_same 33 = .ok (.getfield 23, 3) := by decide +kernel
theorem dX9_same_36 : decode cX9_same 36 = .ok (.iconst 0, 1) := by decide +kernel
theorem dX9_same_37 : decode cX9_same 37 = .ok (.iaload, 1) := by decide +kernel
theorem dX9_same_38 : decode cX9_same 38 = .ok (.if_icmp .ge 31, 3) := by decide +kernel
theorem dX9_same_41 : decode cX9_same 41 = .ok (.iload 4, 2) := by decide +kernel
theorem dX9_same_43 : decode cX9_same 43 = .ok (.ifCond .ne 13, 3) := by decide +kernel
theorem dX9_same_46 : decode cX9_same 46 = .ok (.aload_n 0, 1) := by decide +kernel
theorem dX9_same_47 : decode cX9_same 47 = .ok (.iload 5, 2) := by decide +kernel
theorem dX9_same_49 : decode cX9_same 49 = .ok (.iload_n 3, 1) := by decide +kernel
theorem dX9_same_50 : decode cX9_same 50 = .ok (.invokevirtual 155, 3) := by decide +kernel
theorem dX9_same_53 : decode cX9_same 53 = .ok (.ifCond .eq 7, 3) := by decide +kernel
theorem dX9_same_56 : decode cX9_same 56 = .ok (.iconst 1, 1) := by decide +kernel
theorem dX9_same_57 : decode cX9_same 57 = .ok (.goto 4, 3) := by decide +kernel
theorem dX9_same_60 : decode cX9_same 60 = .ok (.iconst 0, 1) := by decide +kernel
theorem dX9_same_61 : decode cX9_same 61 = .ok (.istore 4, 2) := by decide +kernel
theorem dX9_same_63 : decode cX9_same 63 = .ok (.iinc 5 1, 3) := by decide +kernel
theorem dX9_same_66 : decode cX9_same 66 = .ok (.goto (-36), 3) := by decide +kernel
theorem dX9_same_69 : decode cX9_same 69 = .ok (.iload 4, 2) := by decide +kernel
theorem dX9_same_71 : decode cX9_same 71 = .ok (.ifCond .eq 13, 3) := by decide +kernel
theorem dX9_same_74 : decode cX9_same 74 = .ok (.iload_n 1, 1) := by decide +kernel
theorem dX9_same_75 : decode cX9_same 75 = .ok (.bipush (-9), 2) := by decide +kernel
theorem dX9_same_77 : decode cX9_same 77 = .ok (.if_icmp .ne 7, 3) := by decide +kernel
theorem dX9_same_80 : decode cX9_same 80 = .ok (.iload_n 3, 1) := by decide +kernel
theorem dX9_same_81 : decode cX9_same 81 = .ok (.goto 4, 3) := by decide +kernel
theorem dX9_same_84 : decode cX9_same 84 = .ok (.iload_n 1, 1) := by decide +kernel
theorem dX9_same_85 : decode cX9_same 85 = .ok (.istore_n 1, 1) := by decide +kernel
theorem dX9_same_86 : decode cX9_same 86 = .ok (.iconst 0, 1) := by decide +kernel
theorem dX9_same_87 : decode cX9_same 87 = .ok (.istore 5, 2) := by decide +kernel
theorem dX9_same_89 : decode cX9_same 89 = .ok (.iload 5, 2) := by decide +kernel
theorem dX9_same_91 : decode cX9_same 91 = .ok (.aload_n 0, 1) := by decide +kernel
theorem dX9_same_92 : decode cX9_same 92 = .ok (.getfield 17, 3) := by decide +kernel
theorem dX9_same_95 : decode cX9_same 95 = .ok (.iconst 0, 1) := by decide +kernel
theorem dX9_same_96 : decode cX9_same 96 = .ok (.iaload, 1) := by decide +kernel
theorem dX9_same_97 : decode cX9_same 97 = .ok (.if_icmp .ge 44, 3) := by decide +kernel
theorem dX9_same_100 : decode cX9_same 100 = .ok (.iload 4, 2) := by decide +kernel
theorem dX9_same_102 : decode cX9_same 102 = .ok (.ifCond .eq 39, 3) := by decide +kernel
theorem dX9_same_105 : decode cX9_same 105 = .ok (.iload_n 2, 1) := by decide +kernel
theorem dX9_same_106 : decode cX9_same 106 = .ok (.aload_n 0, 1) := by decide +kernel
theorem dX9_same_107 : decode cX9_same 107 = .ok (.iload_n 3, 1) := by decide +kernel
theorem dX9_same_108 : decode cX9_same 108 = .ok (.iload 5, 2) := by decide +kernel
theorem dX9_same_110 : decode cX9_same 110 = .ok (.invokevirtual 113, 3) := by decide +kernel
theorem dX9_same_113 : decode cX9_same 113 = .ok (.aload_n 0, 1) := by decide +kernel
theorem dX9_same_114 : decode cX9_same 114 = .ok (.iload_n 1, 1) := by decide +kernel
theorem dX9_same_115 : decode cX9_same 115 = .ok (.iload 5, 2) := by decide +kernel
theorem dX9_same_117 : decode cX9_same 117 = .ok (.invokevirtual 113, 3) := by decide +kernel
theorem dX9_same_120 : decode cX9_same 120 = .ok (.if_icmp .ne 7, 3) := by decide +kernel
theorem dX9_same_123 : decode cX9_same 123 = .ok (.iconst (-1), 1) := by decide +kernel
theorem dX9_same_124 : decode cX9_same 124 = .ok (.goto 9, 3) := by decide +kernel
theorem dX9_same_127 : decode cX9_same 127 = .ok (.iconst 1, 1) := by decide +kernel
theorem dX9_same_128 : decode cX9_same 128 = .ok (.iload 5, 2) := by decide +kernel
theorem dX9_same_130 : decode cX9_same 130 = .ok (.ishl, 1) := by decide +kernel
theorem dX9_same_131 : decode cX9_same 131 = .ok (.iconst (-1), 1) := by decide +kernel
theorem dX9_same_132 : decode cX9_same 132 = .ok (.ixor, 1) := by decide +kernel
theorem dX9_same_133 : decode cX9_same 133 = .ok (.iand, 1) := by decide +kernel
theorem dX9_same_134 : decode cX9_same 134 = .ok (.istore_n 2, 1) := by decide +kernel
theorem dX9_same_135 : decode cX9_same 135 = .ok (.iinc 5 1, 3) := by decide +kernel
theorem dX9_same_138 : decode cX9_same 138 = .ok (.goto (-49), 3) := by decide +kernel
theorem dX9_same_141 : decode cX9_same 141 = .ok (.iinc 3 1, 3) := by decide +kernel
theorem dX9_same_144 : decode cX9_same 144 = .ok (.goto (-128), 3) := by decide +kernel
theorem dX9_same_147 : decode cX9_same 147 = .ok (.iload_n 1, 1) := by decide +kernel
theorem dX9_same_148 : decode cX9_same 148 = .ok (.bipush (-9), 2) := by decide +kernel
theorem dX9_same_150 : decode cX9_same 150 = .ok (.if_icmp .ne 7, 3) := by decide +kernel
theorem dX9_same_153 : decode cX9_same 153 = .ok (.iconst 0, 1) := by decide +kernel
theorem dX9_same_154 : decode cX9_same 154 = .ok (.goto 4, 3) := by decide +kernel
theorem dX9_same_157 : decode cX9_same 157 = .ok (.iload_n 2, 1) := by decide +kernel
theorem dX9_same_158 : decode cX9_same 158 = .ok (.ireturn, 1) := by decide +kernel
theorem dX9_now_0 : decode cX9_now 0 = .ok (.iconst 0, 1) := by decide +kernel
theorem dX9_now_1 : decode cX9_now 1 = .ok (.istore_n 2, 1) := by decide +kernel
theorem dX9_now_2 : decode cX9_now 2 = .ok (.iload_n 1, 1) := by decide +kernel
theorem dX9_now_3 : decode cX9_now 3 = .ok (.tableswitch 188 0 5 #[37, 44, 52, 96, 134, 139], 37) := by decide +kernel
theorem dX9_now_40 : decode cX9_now 40 = .ok (.aload_n 0, 1) := by decide +kernel
theorem dX9_now_41 : decode cX9_now 41 = .ok (.getfield 35, 3) := by decide +kernel
theorem dX9_now_44 : decode cX9_now 44 = .ok (.iconst 1, 1) := by decide +kernel
theorem dX9_now_45 : decode cX9_now 45 = .ok (.iaload, 1) := by decide +kernel
theorem dX9_now_46 : decode cX9_now 46 = .ok (.ireturn, 1) := by decide +kernel
theorem dX9_now_47 : decode cX9_now 47 = .ok (.aload_n 0, 1) := by decide +kernel
theorem dX9_now_48 : decode cX9_now 48 = .ok (.getfield 35, 3) := by decide +kernel
theorem dX9_now_51 : decode cX9_now 51 = .ok (.bipush 8, 2) := by decide +kernel
theorem dX9_now_53 : decode cX9_now 53 = .ok (.iaload, 1) := by decide +kernel
theorem dX9_now_54 : decode cX9_now 54 = .ok (.ireturn, 1) := by decide +kernel
theorem dX9_now_55 : decode cX9_now 55 = .ok (.iconst 0, 1) := by decide +kernel
theorem dX9_now_56 : decode cX9_now 56 = .ok (.istore_n 3, 1) := by decide +kernel
theorem dX9_now_57 : decode cX9_now 57 = .ok (.iload_n 3, 1) := by decide +kernel
theorem dX9_now_58 : decode cX9_now 58 = .ok (.aload_n 0, 1) := by decide +kernel
theorem dX9_now_59 : decode cX9_now 59 = .ok (.getfield 23, 3) := by decide +kernel
theorem dX9_now_62 : decode cX9_now 62 = .ok (.iconst 0, 1) := by decide +kernel
theorem dX9_now_63 : decode cX9_now 63 = .ok (.iaload, 1) := by decide +kernel
theorem dX9_now_64 : decode cX9_now 64 = .ok (.if_icmp .ge 33, 3) := by decide +kernel
theorem dX9_now_67 : decode cX9_now 67 = .ok (.iload_n 2, 1) := by decide +kernel
theorem dX9_now_68 : decode cX9_now 68 = .ok (.aload_n 0, 1) := by decide +kernel
theorem dX9_now_69 : decode cX9_now 69 = .ok (.iload_n 3, 1) := by decide +kernel
theorem dX9_now_70 : decode cX9_now 70 = .ok (.aload_n 0, 1) := by decide +kernel
theorem dX9_now_71 : decode cX9_now 71 = .ok (.getfield 35, 3) := by decide +kernel
theorem dX9_now_74 : decode cX9_now 74 = .ok (.iconst 0, 1) := by decide +kernel
theorem dX9_now_75 : decode cX9_now 75 = .ok (.iaload, 1) := by decide +kernel
theorem dX9_now_76 : decode cX9_now 76 = .ok (.invokevirtual 136, 3) := by decide +kernel
theorem dX9_now_79 : decode cX9_now 79 = .ok (.ifCond .eq 9, 3) := by decide +kernel
theorem dX9_now_82 : decode cX9_now 82 = .ok (.iconst 1, 1) := by decide +kernel
theorem dX9_now_83 : decode cX9_now 83 = .ok (.iload_n 3, 1) := by decide +kernel
theorem dX9_now_84 : decode cX9_now 84 = .ok (.ishl, 1) := by decide +kernel
theorem dX9_now_85 : decode cX9_now 85 = .ok (.goto 4, 3) := by decide +kernel
theorem dX9_now_88 : decode cX9_now 88 = .ok (.iconst 0, 1) := by decide +kernel
theorem dX9_now_89 : decode cX9_now 89 = .ok (.ior, 1) := by decide +kernel
theorem dX9_now_90 : decode cX9_now 90 = .ok (.istore_n 2, 1) := by decide +kernel
theorem dX9_now_91 : decode cX9_now 91 = .ok (.iinc 3 1, 3) := by decide +kernel
theorem dX9_now_94 : decode cX9_now 94 = .ok (.goto (-37), 3) := by decide +kernel
theorem dX9_now_97 : decode cX9_now 97 = .ok (.iload_n 2, 1) := by decide +kernel
theorem dX9_now_98 : decode cX9_now 98 = .ok (.ireturn, 1) := by decide +kernel
theorem dX9_now_99 : decode cX9_now 99 = .ok (.iconst 0, 1) := by decide +kernel
theorem dX9_now_100 : decode cX9_now 100 = .ok (.istore_n 3, 1) := by decide +kernel
theorem dX9_now_101 : decode cX9_now 101 = .ok (.iload_n 3, 1) := by decide +kernel
theorem dX9_now_102 : decode cX9_now 102 = .ok (.aload_n 0, 1) := by decide +kernel
theorem dX9_now_103 : decode cX9_now 103 = .ok (.getfield 23, 3) := by decide +kernel
theorem dX9_now_106 : decode cX9_now 106 = .ok (.iconst 0, 1) := by decide +kernel
theorem dX9_now_107 : decode cX9_now 107 = .ok (.iaload, 1) := by decide +kernel
theorem dX9_now_108 : decode cX9_now 108 = .ok (.if_icmp .ge 27, 3) := by decide +kernel
theorem dX9_now_111 : decode cX9_now 111 = .ok (.iload_n 2, 1) := by decide +kernel
theorem dX9_now_112 : decode cX9_now 112 = .ok (.aload_n 0, 1) := by decide +kernel
theorem dX9_now_113 : decode cX9_now 113 = .ok (.iload_n 3, 1) := by decide +kernel
theorem dX9_now_114 : decode cX9_now 114 = .ok (.invokevirtual 158, 3) := by decide +kernel
theorem dX9_now_117 : decode cX9_now 117 = .ok (.ifCond .le 9, 3) := by decide +kernel
theorem dX9_now_120 : decode cX9_now 120 = .ok (.iconst 1, 1) := by decide +kernel
theorem dX9_now_121 : decode cX9_now 121 = .ok (.iload_n 3, 1) := by decide +kernel
theorem dX9_now_122 : decode cX9_now 122 = .ok (.ishl, 1) := by decide +kernel
theorem dX9_now_123 : decode cX9_now 123 = .ok (.goto 4, 3) := by decide +kernel
theorem dX9_now_126 : decode cX9_now 126 = .ok (.iconst 0, 1) := by decide +kernel
theorem dX9_now_127 : decode cX9_now 127 = .ok (.ior, 1) := by decide +kernel
theorem dX9_now_128 : decode cX9_now 128 = .ok (.istore_n 2, 1) := by decide +kernel
theorem dX9_now_129 : decode cX9_now 129 = .ok (.iinc 3 1, 3) := by decide +kernel
theorem dX9_now_132 : decode cX9_now 132 = .ok (.goto (-31), 3) := by decide +kernel
theorem dX9_now_135 : decode cX9_now 135 = .ok (.iload_n 2, 1) := by decide +kernel
theorem dX9_now_136 : decode cX9_now 136 = .ok (.ireturn, 1) := by decide +kernel
theorem dX9_now_137 : decode cX9_now 137 = .ok (.aload_n 0, 1) := by decide +kernel
theorem dX9_now_138 : decode cX9_now 138 = .ok (.invokevirtual 161, 3) := by decide +kernel
theorem dX9_now_141 : decode cX9_now 141 = .ok (.ireturn, 1) := by decide +kernel
theorem dX9_now_142 : decode cX9_now 142 = .ok (.iconst 0, 1) := by decide +kernel
theorem dX9_now_143 : decode cX9_now 143 = .ok (.istore_n 3, 1) := by decide +kernel
theorem dX9_now_144 : decode cX9_now 144 = .ok (.iload_n 3, 1) := by decide +kernel
theorem dX9_now_145 : decode cX9_now 145 = .ok (.aload_n 0, 1) := by decide +kernel
theorem dX9_now_146 : decode cX9_now 146 = .ok (.getfield 23, 3) := by decide +kernel
theorem dX9_now_149 : decode cX9_now 149 = .ok (.iconst 0, 1) := by decide +kernel
theorem dX9_now_150 : decode cX9_now 150 = .ok (.iaload, 1) := by decide +kernel
theorem dX9_now_151 : decode cX9_now 151 = .ok (.if_icmp .ge 38, 3) := by decide +kernel
theorem dX9_now_154 : decode cX9_now 154 = .ok (.iload_n 2, 1) := by decide +kernel
theorem dX9_now_155 : decode cX9_now 155 = .ok (.aload_n 0, 1) := by decide +kernel
theorem dX9_now_156 : decode cX9_now 156 = .ok (.aload_n 0, 1) := by decide +kernel
theorem dX9_now_157 : decode cX9_now 157 = .ok (.getfield 26, 3) := by decide +kernel
theorem dX9_now_160 : decode cX9_now 160 = .ok (.iload_n 3, 1) := by decide +kernel
theorem dX9_now_161 : decode cX9_now 161 = .ok (.iaload, 1) := by decide +kernel
theorem dX9_now_162 : decode cX9_now 162 = .ok (.aload_n 0, 1) := by decide +kernel
theorem dX9_now_163 : decode cX9_now 163 = .ok (.getfield 29, 3) := by decide +kernel
theorem dX9_now_166 : decode cX9_now 166 = .ok (.iload_n 3, 1) := by decide +kernel
theorem dX9_now_167 : decode cX9_now 167 = .ok (.iaload, 1) := by decide +kernel
theorem dX9_now_168 : decode cX9_now 168 = .ok (.invokevirtual 164, 3) := by decide +kernel
theorem dX9_now_171 : decode cX9_now 171 = .ok (.ifCond .eq 9, 3) := by decide +kernel
theorem dX9_now_174 : decode cX9_now 174 = .ok (.iconst 1, 1) := by decide +kernel
theorem dX9_now_175 : decode cX9_now 175 = .ok (.iload_n 3, 1) := by decide +kernel
theorem dX9_now_176 : decode cX9_now 176 = .ok (.ishl, 1) := by decide +kernel
theorem dX9_now_177 : decode cX9_now 177 = .ok (.goto 4, 3) := by decide +kernel
theorem dX9_now_180 : decode cX9_now 180 = .ok (.iconst 0, 1) := by decide +kernel
theorem dX9_now_181 : decode cX9_now 181 = .ok (.ior, 1) := by decide +kernel
theorem dX9_now_182 : decode cX9_now 182 = .ok (.istore_n 2, 1) := by decide +kernel
theorem dX9_now_183 : decode cX9_now 183 = .ok (.iinc 3 1, 3) := by decide +kernel
theorem dX9_now_186 : decode cX9_now 186 = .ok (.goto (-42), 3) := by decide +kernel
theorem dX9_now_189 : decode cX9_now 189 = .ok (.iload_n 2, 1) := by decide +kernel
theorem dX9_now_190 : decode cX9_now 190 = .ok (.ireturn, 1) := by decide +kernel
theorem dX9_now_191 : decode cX9_now 191 = .ok (.iconst (-1), 1) := by decide +kernel
theorem dX9_now_192 : decode cX9_now 192 = .ok (.ireturn, 1) := by decide +kernel
theorem dX9_go_0 : decode cX9_go 0 = .ok (.aload_n 0, 1) := by decide +kernel
theorem dX9_go_1 : decode cX9_go 1 = .ok (.iload_n 1, 1) := by decide +kernel
theorem dX9_go_2 : decode cX9_go 2 = .ok (.putfield 167, 3) := by decide +kernel
theorem dX9_go_5 : decode cX9_go 5 = .ok (.aload_n 0, 1) := by decide +kernel
theorem dX9_go_6 : decode cX9_go 6 = .ok (.bipush (-9), 2) := by decide +kernel
theorem dX9_go_8 : decode cX9_go 8 = .ok (.putfield 170, 3) := by decide +kernel
theorem dX9_go_11 : decode cX9_go 11 = .ok (.aload_n 0, 1) := by decide +kernel
theorem dX9_go_12 : decode cX9_go 12 = .ok (.iconst 0, 1) := by decide +kernel
theorem dX9_go_13 : decode cX9_go 13 = .ok (.putfield 173, 3) := by decide +kernel
theorem dX9_go_16 : decode cX9_go 16 = .ok (.iconst (-1), 1) := by decide +kernel
theorem dX9_go_17 : decode cX9_go 17 = .ok (.istore 4, 2) := by decide +kernel
theorem dX9_go_19 : decode cX9_go 19 = .ok (.aload_n 0, 1) := by decide +kernel
theorem dX9_go_20 : decode cX9_go 20 = .ok (.getfield 170, 3) := by decide +kernel
theorem dX9_go_23 : decode cX9_go 23 = .ok (.bipush (-9), 2) := by decide +kernel
theorem dX9_go_25 : decode cX9_go 25 = .ok (.if_icmp .ne 83, 3) := by decide +kernel
theorem dX9_go_28 : decode cX9_go 28 = .ok (.aload_n 0, 1) := by decide +kernel
theorem dX9_go_29 : decode cX9_go 29 = .ok (.getfield 173, 3) := by decide +kernel
theorem dX9_go_32 : decode cX9_go 32 = .ok (.iload_n 3, 1) := by decide +kernel
theorem dX9_go_33 : decode cX9_go 33 = .ok (.if_icmp .ge 75, 3) := by decide +kernel
theorem dX9_go_36 : decode cX9_go 36 = .ok (.iload_n 2, 1) := by decide +kernel
theorem dX9_go_37 : decode cX9_go 37 = .ok (.ifCond .eq 71, 3) := by decide +kernel
theorem dX9_go_40 : decode cX9_go 40 = .ok (.iload 4, 2) := by decide +kernel
theorem dX9_go_42 : decode cX9_go 42 = .ok (.iconst 1, 1) := by decide +kernel
theorem dX9_go_43 : decode cX9_go 43 = .ok (.iadd, 1) := by decide +kernel
theorem dX9_go_44 : decode cX9_go 44 = .ok (.bipush 6, 2) := by decide +kernel
theorem dX9_go_46 : decode cX9_go 46 = .ok (.irem, 1) := by decide +kernel
theorem dX9_go_47 : decode cX9_go 47 = .ok (.istore 4, 2) := by decide +kernel
theorem dX9_go_49 : decode cX9_go 49 = .ok (.iload_n 2, 1) := by decide +kernel
theorem dX9_go_50 : decode cX9_go 50 = .ok (.iload 4, 2) := by decide +kernel
theorem dX9_go_52 : decode cX9_go 52 = .ok (.ishr, 1) := by decide +kernel
theorem dX9_go_53 : decode cX9_go 53 = .ok (.iconst 1, 1) := by decide +kernel
theorem dX9_go_54 : decode cX9_go 54 = .ok (.iand, 1) := by decide +kernel
theorem dX9_go_55 : decode cX9_go 55 = .ok (.iconst 1, 1) := by decide +kernel
theorem dX9_go_56 : decode cX9_go 56 = .ok (.if_icmp .ne (-37), 3) := by decide +kernel
theorem dX9_go_59 : decode cX9_go 59 = .ok (.aload_n 0, 1) := by decide +kernel
theorem dX9_go_60 : decode cX9_go 60 = .ok (.iload 4, 2) := by decide +kernel
theorem dX9_go_62 : decode cX9_go 62 = .ok (.aload_n 0, 1) := by decide +kernel
theorem dX9_go_63 : decode cX9_go 63 = .ok (.getfield 167, 3) := by decide +kernel
theorem dX9_go_66 : decode cX9_go 66 = .ok (.invokevirtual 136, 3) := by decide +kernel
theorem dX9_go_69 : decode cX9_go 69 = .ok (.ifCond .eq 12, 3) := by decide +kernel
theorem dX9_go_72 : decode cX9_go 72 = .ok (.aload_n 0, 1) := by decide +kernel
theorem dX9_go_73 : decode cX9_go 73 = .ok (.iload 4, 2) := by decide +kernel
theorem dX9_go_75 : decode cX9_go 75 = .ok (.putfield 170, 3) := by decide +kernel
theorem dX9_go_78 : decode cX9_go 78 = .ok (.goto (-59), 3) := by decide +kernel
theorem dX9_go_81 : decode cX9_go 81 = .ok (.aload_n 0, 1) := by decide +kernel
theorem dX9_go_82 : decode cX9_go 82 = .ok (.aload_n 0, 1) := by decide +kernel
theorem dX9_go_83 : decode cX9_go 83 = .ok (.iload 4, 2) := by decide +kernel
theorem dX9_go_85 : decode cX9_go 85 = .ok (.aload_n 0, 1) := by decide +kernel
theorem dX9_go_86 : decode cX9_go 86 = .ok (.getfield 167, 3) := by decide +kernel
theorem dX9_go_89 : decode cX9_go 89 = .ok (.invokevirtual 126, 3) := by decide +kernel
theorem dX9_go_92 : decode cX9_go 92 = .ok (.putfield 167, 3) := by decide +kernel
theorem dX9_go_95 : decode cX9_go 95 = .ok (.aload_n 0, 1) := by decide +kernel
theorem dX9_go_96 : decode cX9_go 96 = .ok (.dup, 1) := by decide +kernel
theorem dX9_go_97 : decode cX9_go 97 = .ok (.getfield 173, 3) := by decide +kernel
theorem dX9_go_100 : decode cX9_go 100 = .ok (.iconst 1, 1) := by decide +kernel
theorem dX9_go_101 : decode cX9_go 101 = .ok (.iadd, 1) := by decide +kernel
theorem dX9_go_102 : decode cX9_go 102 = .ok (.putfield 173, 3) := by decide +kernel
theorem dX9_go_105 : decode cX9_go 105 = .ok (.goto (-86), 3) := by decide +kernel
theorem dX9_go_108 : decode cX9_go 108 = .ok (.return_, 1) := by decide +kernel
theorem dX9_boughtIn_0 : decode cX9_boughtIn 0 = .ok (.iconst 1, 1) := by decide +kernel
theorem dX9_boughtIn_1 : decode cX9_boughtIn 1 = .ok (.aload_n 0, 1) := by decide +kernel
theorem dX9_boughtIn_2 : decode cX9_boughtIn 2 = .ok (.getfield 23, 3) := by decide +kernel
theorem dX9_boughtIn_5 : decode cX9_boughtIn 5 = .ok (.iconst 0, 1) := by decide +kernel
theorem dX9_boughtIn_6 : decode cX9_boughtIn 6 = .ok (.iaload, 1) := by decide +kernel
theorem dX9_boughtIn_7 : decode cX9_boughtIn 7 = .ok (.ishl, 1) := by decide +kernel
theorem dX9_boughtIn_8 : decode cX9_boughtIn 8 = .ok (.iconst 1, 1) := by decide +kernel
theorem dX9_boughtIn_9 : decode cX9_boughtIn 9 = .ok (.isub, 1) := by decide +kernel
theorem dX9_boughtIn_10 : decode cX9_boughtIn 10 = .ok (.aload_n 0, 1) := by decide +kernel
theorem dX9_boughtIn_11 : decode cX9_boughtIn 11 = .ok (.getfield 35, 3) := by decide +kernel
theorem dX9_boughtIn_14 : decode cX9_boughtIn 14 = .ok (.bipush 8, 2) := by decide +kernel
theorem dX9_boughtIn_16 : decode cX9_boughtIn 16 = .ok (.iaload, 1) := by decide +kernel
theorem dX9_boughtIn_17 : decode cX9_boughtIn 17 = .ok (.iconst (-1), 1) := by decide +kernel
theorem dX9_boughtIn_18 : decode cX9_boughtIn 18 = .ok (.ixor, 1) := by decide +kernel
theorem dX9_boughtIn_19 : decode cX9_boughtIn 19 = .ok (.iand, 1) := by decide +kernel
theorem dX9_boughtIn_20 : decode cX9_boughtIn 20 = .ok (.ireturn, 1) := by decide +kernel
theorem dX9_behind_0 : decode cX9_behind 0 = .ok (.iload_n 1, 1) := by decide +kernel
theorem dX9_behind_1 : decode cX9_behind 1 = .ok (.iconst 0, 1) := by decide +kernel
theorem dX9_behind_2 : decode cX9_behind 2 = .ok (.bipush 99, 2) := by decide +kernel
theorem dX9_behind_4 : decode cX9_behind 4 = .ok (.invokestatic 57, 3) := by decide +kernel
theorem dX9_behind_7 : decode cX9_behind 7 = .ok (.ifCond .eq 11, 3) := by decide +kernel
theorem dX9_behind_10 : decode cX9_behind 10 = .ok (.aload_n 0, 1) := by decide +kernel
theorem dX9_behind_11 : decode cX9_behind 11 = .ok (.iload_n 2, 1) := by decide +kernel
theorem dX9_behind_12 : decode cX9_behind 12 = .ok (.invokevirtual 129, 3) := by decide +kernel
theorem dX9_behind_15 : decode cX9_behind 15 = .ok (.ifCond .ne 5, 3) := by decide +kernel
theorem dX9_behind_18 : decode cX9_behind 18 = .ok (.iconst (-1), 1) := by decide +kernel
theorem dX9_behind_19 : decode cX9_behind 19 = .ok (.ireturn, 1) := by decide +kernel
theorem dX9_behind_20 : decode cX9_behind 20 = .ok (.aload_n 0, 1) := by decide +kernel
theorem dX9_behind_21 : decode cX9_behind 21 = .ok (.aload_n 0, 1) := by decide +kernel
theorem dX9_behind_22 : decode cX9_behind 22 = .ok (.getfield 35, 3) := by decide +kernel
theorem dX9_behind_25 : decode cX9_behind 25 = .ok (.iconst 0, 1) := by decide +kernel
theorem dX9_behind_26 : decode cX9_behind 26 = .ok (.iaload, 1) := by decide +kernel
theorem dX9_behind_27 : decode cX9_behind 27 = .ok (.aload_n 0, 1) := by decide +kernel
theorem dX9_behind_28 : decode cX9_behind 28 = .ok (.invokevirtual 176, 3) := by decide +kernel
theorem dX9_behind_31 : decode cX9_behind 31 = .ok (.iload_n 1, 1) := by decide +kernel
theorem dX9_behind_32 : decode cX9_behind 32 = .ok (.invokevirtual 179, 3) := by decide +kernel
theorem dX9_behind_35 : decode cX9_behind 35 = .ok (.aload_n 0, 1) := by decide +kernel
theorem dX9_behind_36 : decode cX9_behind 36 = .ok (.aload_n 0, 1) := by decide +kernel
theorem dX9_behind_37 : decode cX9_behind 37 = .ok (.getfield 167, 3) := by decide +kernel
theorem dX9_behind_40 : decode cX9_behind 40 = .ok (.iload_n 2, 1) := by decide +kernel
theorem dX9_behind_41 : decode cX9_behind 41 = .ok (.invokevirtual 113, 3) := by decide +kernel
theorem dX9_behind_44 : decode cX9_behind 44 = .ok (.ireturn, 1) := by decide +kernel
theorem dX9_ends_0 : decode cX9_ends 0 = .ok (.iload_n 1, 1) := by decide +kernel
theorem dX9_ends_1 : decode cX9_ends 1 = .ok (.iconst 0, 1) := by decide +kernel
theorem dX9_ends_2 : decode cX9_ends 2 = .ok (.iconst 1, 1) := by decide +kernel
theorem dX9_ends_3 : decode cX9_ends 3 = .ok (.invokestatic 57, 3) := by decide +kernel
theorem dX9_ends_6 : decode cX9_ends 6 = .ok (.ifCond .ne 5, 3) := by decide +kernel
theorem dX9_ends_9 : decode cX9_ends 9 = .ok (.iconst (-1), 1) := by decide +kernel
theorem dX9_ends_10 : decode cX9_ends 10 = .ok (.ireturn, 1) := by decide +kernel
theorem dX9_ends_11 : decode cX9_ends 11 = .ok (.aload_n 0, 1) := by decide +kernel
theorem dX9_ends_12 : decode cX9_ends 12 = .ok (.aload_n 0, 1) := by decide +kernel
theorem dX9_ends_13 : decode cX9_ends 13 = .ok (.getfield 35, 3) := by decide +kernel
theorem dX9_ends_16 : decode cX9_ends 16 = .ok (.iconst 0, 1) := by decide +kernel
theorem dX9_ends_17 : decode cX9_ends 17 = .ok (.iaload, 1) := by decide +kernel
theorem dX9_ends_18 : decode cX9_ends 18 = .ok (.aload_n 0, 1) := by decide +kernel
theorem dX9_ends_19 : decode cX9_ends 19 = .ok (.invokevirtual 176, 3) := by decide +kernel
theorem dX9_ends_22 : decode cX9_ends 22 = .ok (.sipush 4000, 3) := by decide +kernel
theorem dX9_ends_25 : decode cX9_ends 25 = .ok (.invokevirtual 179, 3) := by decide +kernel
theorem dX9_ends_28 : decode cX9_ends 28 = .ok (.iload_n 1, 1) := by decide +kernel
theorem dX9_ends_29 : decode cX9_ends 29 = .ok (.ifCond .ne 10, 3) := by decide +kernel
theorem dX9_ends_32 : decode cX9_ends 32 = .ok (.aload_n 0, 1) := by decide +kernel
theorem dX9_ends_33 : decode cX9_ends 33 = .ok (.getfield 170, 3) := by decide +kernel
theorem dX9_ends_36 : decode cX9_ends 36 = .ok (.goto 22, 3) := by decide +kernel
theorem dX9_ends_39 : decode cX9_ends 39 = .ok (.aload_n 0, 1) := by decide +kernel
theorem dX9_ends_40 : decode cX9_ends 40 = .ok (.getfield 173, 3) := by decide +kernel
theorem dX9_ends_43 : decode cX9_ends 43 = .ok (.sipush 4000, 3) := by decide +kernel
theorem dX9_ends_46 : decode cX9_ends 46 = .ok (.if_icmp .ne 8, 3) := by decide +kernel
theorem dX9_ends_49 : decode cX9_ends 49 = .ok (.bipush (-9), 2) := by decide +kernel
theorem dX9_ends_51 : decode cX9_ends 51 = .ok (.goto 7, 3) := by decide +kernel
theorem dX9_ends_54 : decode cX9_ends 54 = .ok (.aload_n 0, 1) := by decide +kernel
theorem dX9_ends_55 : decode cX9_ends 55 = .ok (.getfield 173, 3) := by decide +kernel
theorem dX9_ends_58 : decode cX9_ends 58 = .ok (.ireturn, 1) := by decide +kernel
theorem dX9_lasts_0 : decode cX9_lasts 0 = .ok (.iload_n 1, 1) := by decide +kernel
theorem dX9_lasts_1 : decode cX9_lasts 1 = .ok (.iconst 0, 1) := by decide +kernel
theorem dX9_lasts_2 : decode cX9_lasts 2 = .ok (.iconst 1, 1) := by decide +kernel
theorem dX9_lasts_3 : decode cX9_lasts 3 = .ok (.invokestatic 57, 3) := by decide +kernel
theorem dX9_lasts_6 : decode cX9_lasts 6 = .ok (.ifCond .ne 5, 3) := by decide +kernel
theorem dX9_lasts_9 : decode cX9_lasts 9 = .ok (.iconst (-1), 1) := by decide +kernel
theorem dX9_lasts_10 : decode cX9_lasts 10 = .ok (.ireturn, 1) := by decide +kernel
theorem dX9_lasts_11 : decode cX9_lasts 11 = .ok (.aload_n 0, 1) := by decide +kernel
theorem dX9_lasts_12 : decode cX9_lasts 12 = .ok (.getfield 17, 3) := by decide +kernel
theorem dX9_lasts_15 : decode cX9_lasts 15 = .ok (.iconst 0, 1) := by decide +kernel
theorem dX9_lasts_16 : decode cX9_lasts 16 = .ok (.iaload, 1) := by decide +kernel
theorem dX9_lasts_17 : decode cX9_lasts 17 = .ok (.ifCond .eq 10, 3) := by decide +kernel
theorem dX9_lasts_20 : decode cX9_lasts 20 = .ok (.aload_n 0, 1) := by decide +kernel
theorem dX9_lasts_21 : decode cX9_lasts 21 = .ok (.invokevirtual 176, 3) := by decide +kernel
theorem dX9_lasts_24 : decode cX9_lasts 24 = .ok (.ifCond .ne 6, 3) := by decide +kernel
theorem dX9_lasts_27 : decode cX9_lasts 27 = .ok (.bipush (-9), 2) := by decide +kernel
theorem dX9_lasts_29 : decode cX9_lasts 29 = .ok (.ireturn, 1) := by decide +kernel
theorem dX9_lasts_30 : decode cX9_lasts 30 = .ok (.bipush (-9), 2) := by decide +kernel
theorem dX9_lasts_32 : decode cX9_lasts 32 = .ok (.istore_n 2, 1) := by decide +kernel
theorem dX9_lasts_33 : decode cX9_lasts 33 = .ok (.iconst (-1), 1) := by decide +kernel
theorem dX9_lasts_34 : decode cX9_lasts 34 = .ok (.istore_n 3, 1) := by decide +kernel
theorem dX9_lasts_35 : decode cX9_lasts 35 = .ok (.iconst 0, 1) := by decide +kernel
theorem dX9_lasts_36 : decode cX9_lasts 36 = .ok (.istore 4, 2) := by decide +kernel
theorem dX9_lasts_38 : decode cX9_lasts 38 = .ok (.iload 4, 2) := by decide +kernel
theorem dX9_lasts_40 : decode cX9_lasts 40 = .ok (.aload_n 0, 1) := by decide +kernel
theorem dX9_lasts_41 : decode cX9_lasts 41 = .ok (.invokevirtual 152, 3) := by decide +kernel
theorem dX9_lasts_44 : decode cX9_lasts 44 = .ok (.if_icmp .ge 51, 3) := by decide +kernel
theorem dX9_lasts_47 : decode cX9_lasts 47 = .ok (.aload_n 0, 1) := by decide +kernel
theorem dX9_lasts_48 : decode cX9_lasts 48 = .ok (.iload 4, 2) := by decide +kernel
theorem dX9_lasts_50 : decode cX9_lasts 50 = .ok (.aload_n 0, 1) := by decide +kernel
theorem dX9_lasts_51 : decode cX9_lasts 51 = .ok (.invokevirtual 176, 3) := by decide +kernel
theorem dX9_lasts_54 : decode cX9_lasts 54 = .ok (.sipush 4000, 3) := by decide +kernel
theorem dX9_lasts_57 : decode cX9_lasts 57 = .ok (.invokevirtual 179, 3) := by decide +kernel
theorem dX9_lasts_60 : decode cX9_lasts 60 = .ok (.aload_n 0, 1) := by decide +kernel
theorem dX9_lasts_61 : decode cX9_lasts 61 = .ok (.getfield 173, 3) := by decide +kernel
theorem dX9_lasts_64 : decode cX9_lasts 64 = .ok (.sipush 4000, 3) := by decide +kernel
theorem dX9_lasts_67 : decode cX9_lasts 67 = .ok (.if_icmp .ne 6, 3) := by decide +kernel
theorem dX9_lasts_70 : decode cX9_lasts 70 = .ok (.bipush (-9), 2) := by decide +kernel
theorem dX9_lasts_72 : decode cX9_lasts 72 = .ok (.ireturn, 1) := by decide +kernel
theorem dX9_lasts_73 : decode cX9_lasts 73 = .ok (.aload_n 0, 1) := by decide +kernel
theorem dX9_lasts_74 : decode cX9_lasts 74 = .ok (.getfield 173, 3) := by decide +kernel
theorem dX9_lasts_77 : decode cX9_lasts 77 = .ok (.iload_n 3, 1) := by decide +kernel
theorem dX9_lasts_78 : decode cX9_lasts 78 = .ok (.if_icmp .le 11, 3) := by decide +kernel
theorem dX9_lasts_81 : decode cX9_lasts 81 = .ok (.iload 4, 2) := by decide +kernel
theorem dX9_lasts_83 : decode cX9_lasts 83 = .ok (.istore_n 2, 1) := by decide +kernel
theorem dX9_lasts_84 : decode cX9_lasts 84 = .ok (.aload_n 0, 1) := by decide +kernel
theorem dX9_lasts_85 : decode cX9_lasts 85 = .ok (.getfield 173, 3) := by decide +kernel
theorem dX9_lasts_88 : decode cX9_lasts 88 = .ok (.istore_n 3, 1) := by decide +kernel
theorem dX9_lasts_89 : decode cX9_lasts 89 = .ok (.iinc 4 1, 3) := by decide +kernel
theorem dX9_lasts_92 : decode cX9_lasts 92 = .ok (.goto (-54), 3) := by decide +kernel
theorem dX9_lasts_95 : decode cX9_lasts 95 = .ok (.iload_n 1, 1) := by decide +kernel
theorem dX9_lasts_96 : decode cX9_lasts 96 = .ok (.ifCond .ne 7, 3) := by decide +kernel
theorem dX9_lasts_99 : decode cX9_lasts 99 = .ok (.iload_n 2, 1) := by decide +kernel
theorem dX9_lasts_100 : decode cX9_lasts 100 = .ok (.goto 4, 3) := by decide +kernel
theorem dX9_lasts_103 : decode cX9_lasts 103 = .ok (.iload_n 3, 1) := by decide +kernel
theorem dX9_lasts_104 : decode cX9_lasts 104 = .ok (.ireturn, 1) := by decide +kernel
theorem dX9_buy_0 : decode cX9_buy 0 = .ok (.iload_n 1, 1) := by decide +kernel
theorem dX9_buy_1 : decode cX9_buy 1 = .ok (.iconst 1, 1) := by decide +kernel
theorem dX9_buy_2 : decode cX9_buy 2 = .ok (.bipush 99, 2) := by decide +kernel
theorem dX9_buy_4 : decode cX9_buy 4 = .ok (.invokestatic 57, 3) := by decide +kernel
theorem dX9_buy_7 : decode cX9_buy 7 = .ok (.ifCond .ne 5, 3) := by decide +kernel
theorem dX9_buy_10 : decode cX9_buy 10 = .ok (.iconst (-1), 1) := by decide +kernel
theorem dX9_buy_11 : decode cX9_buy 11 = .ok (.ireturn, 1) := by decide +kernel
theorem dX9_buy_12 : decode cX9_buy 12 = .ok (.bipush (-9), 2) := by decide +kernel
theorem dX9_buy_14 : decode cX9_buy 14 = .ok (.istore_n 2, 1) := by decide +kernel
theorem dX9_buy_15 : decode cX9_buy 15 = .ok (.iconst 0, 1) := by decide +kernel
theorem dX9_buy_16 : decode cX9_buy 16 = .ok (.istore_n 3, 1) := by decide +kernel
theorem dX9_buy_17 : decode cX9_buy 17 = .ok (.iload_n 3, 1) := by decide +kernel
theorem dX9_buy_18 : decode cX9_buy 18 = .ok (.aload_n 0, 1) := by decide +kernel
theorem dX9_buy_19 : decode cX9_buy 19 = .ok (.getfield 35, 3) := by decide +kernel
theorem dX9_buy_22 : decode cX9_buy 22 = .ok (.bipush 8, 2) := by decide +kernel
theorem dX9_buy_24 : decode cX9_buy 24 = .ok (.iaload, 1) := by decide +kernel
theorem dX9_buy_25 : decode cX9_buy 25 = .ok (.if_icmp .gt 71, 3) := by decide +kernel
theorem dX9_buy_28 : decode cX9_buy 28 = .ok (.iload_n 3, 1) := by decide +kernel
theorem dX9_buy_29 : decode cX9_buy 29 = .ok (.aload_n 0, 1) := by decide +kernel
theorem dX9_buy_30 : decode cX9_buy 30 = .ok (.getfield 35, 3) := by decide +kernel
theorem dX9_buy_33 : decode cX9_buy 33 = .ok (.bipush 8, 2) := by decide +kernel
theorem dX9_buy_35 : decode cX9_buy 35 = .ok (.iaload, 1) := by decide +kernel
theorem dX9_buy_36 : decode cX9_buy 36 = .ok (.iconst (-1), 1) := by decide +kernel
theorem dX9_buy_37 : decode cX9_buy 37 = .ok (.ixor, 1) := by decide +kernel
theorem dX9_buy_38 : decode cX9_buy 38 = .ok (.iand, 1) := by decide +kernel
theorem dX9_buy_39 : decode cX9_buy 39 = .ok (.ifCond .ne 51, 3) := by decide +kernel
theorem dX9_buy_42 : decode cX9_buy 42 = .ok (.iload_n 2, 1) := by decide +kernel
theorem dX9_buy_43 : decode cX9_buy 43 = .ok (.bipush (-9), 2) := by decide +kernel
theorem dX9_buy_45 : decode cX9_buy 45 = .ok (.if_icmp .eq 14, 3) := by decide +kernel
theorem dX9_buy_48 : decode cX9_buy 48 = .ok (.iload_n 3, 1) := by decide +kernel
theorem dX9_buy_49 : decode cX9_buy 49 = .ok (.invokestatic 122, 3) := by decide +kernel
theorem dX9_buy_52 : decode cX9_buy 52 = .ok (.iload_n 2, 1) := by decide +kernel
theorem dX9_buy_53 : decode cX9_buy 53 = .ok (.invokestatic 122, 3) := by decide +kernel
theorem dX9_buy_56 : decode cX9_buy 56 = .ok (.if_icmp .ge 34, 3) := by decide +kernel
theorem dX9_buy_59 : decode cX9_buy 59 = .ok (.aload_n 0, 1) := by decide +kernel
theorem dX9_buy_60 : decode cX9_buy 60 = .ok (.aload_n 0, 1) := by decide +kernel
theorem dX9_buy_61 : decode cX9_buy 61 = .ok (.getfield 35, 3) := by decide +kernel
theorem dX9_buy_64 : decode cX9_buy 64 = .ok (.iconst 0, 1) := by decide +kernel
theorem dX9_buy_65 : decode cX9_buy 65 = .ok (.iaload, 1) := by decide +kernel
theorem dX9_buy_66 : decode cX9_buy 66 = .ok (.aload_n 0, 1) := by decide +kernel
theorem dX9_buy_67 : decode cX9_buy 67 = .ok (.invokevirtual 176, 3) := by decide +kernel
theorem dX9_buy_70 : decode cX9_buy 70 = .ok (.iload_n 3, 1) := by decide +kernel
theorem dX9_buy_71 : decode cX9_buy 71 = .ok (.ior, 1) := by decide +kernel
theorem dX9_buy_72 : decode cX9_buy 72 = .ok (.iload_n 1, 1) := by decide +kernel
theorem dX9_buy_73 : decode cX9_buy 73 = .ok (.invokevirtual 179, 3) := by decide +kernel
theorem dX9_buy_76 : decode cX9_buy 76 = .ok (.aload_n 0, 1) := by decide +kernel
theorem dX9_buy_77 : decode cX9_buy 77 = .ok (.getfield 173, 3) := by decide +kernel
theorem dX9_buy_80 : decode cX9_buy 80 = .ok (.iload_n 1, 1) := by decide +kernel
theorem dX9_buy_81 : decode cX9_buy 81 = .ok (.if_icmp .ne 7, 3) := by decide +kernel
theorem dX9_buy_84 : decode cX9_buy 84 = .ok (.iload_n 3, 1) := by decide +kernel
theorem dX9_buy_85 : decode cX9_buy 85 = .ok (.goto 4, 3) := by decide +kernel
theorem dX9_buy_88 : decode cX9_buy 88 = .ok (.iload_n 2, 1) := by decide +kernel
theorem dX9_buy_89 : decode cX9_buy 89 = .ok (.istore_n 2, 1) := by decide +kernel
theorem dX9_buy_90 : decode cX9_buy 90 = .ok (.iinc 3 1, 3) := by decide +kernel
theorem dX9_buy_93 : decode cX9_buy 93 = .ok (.goto (-76), 3) := by decide +kernel
theorem dX9_buy_96 : decode cX9_buy 96 = .ok (.iload_n 2, 1) := by decide +kernel
theorem dX9_buy_97 : decode cX9_buy 97 = .ok (.ireturn, 1) := by decide +kernel
theorem dX9_odds_0 : decode cX9_odds 0 = .ok (.iload_n 1, 1) := by decide +kernel
theorem dX9_odds_1 : decode cX9_odds 1 = .ok (.iconst 0, 1) := by decide +kernel
theorem dX9_odds_2 : decode cX9_odds 2 = .ok (.bipush 10, 2) := by decide +kernel
theorem dX9_odds_4 : decode cX9_odds 4 = .ok (.invokestatic 57, 3) := by decide +kernel
theorem dX9_odds_7 : decode cX9_odds 7 = .ok (.ifCond .eq 22, 3) := by decide +kernel
theorem dX9_odds_10 : decode cX9_odds 10 = .ok (.iload_n 2, 1) := by decide +kernel
theorem dX9_odds_11 : decode cX9_odds 11 = .ok (.iconst 0, 1) := by decide +kernel
theorem dX9_odds_12 : decode cX9_odds 12 = .ok (.bipush 9, 2) := by decide +kernel
theorem dX9_odds_14 : decode cX9_odds 14 = .ok (.invokestatic 57, 3) := by decide +kernel
theorem dX9_odds_17 : decode cX9_odds 17 = .ok (.ifCond .eq 12, 3) := by decide +kernel
theorem dX9_odds_20 : decode cX9_odds 20 = .ok (.iload_n 3, 1) := by decide +kernel
theorem dX9_odds_21 : decode cX9_odds 21 = .ok (.iconst 0, 1) := by decide +kernel
theorem dX9_odds_22 : decode cX9_odds 22 = .ok (.iconst 1, 1) := by decide +kernel
theorem dX9_odds_23 : decode cX9_odds 23 = .ok (.invokestatic 57, 3) := by decide +kernel
theorem dX9_odds_26 : decode cX9_odds 26 = .ok (.ifCond .ne 5, 3) := by decide +kernel
theorem dX9_odds_29 : decode cX9_odds 29 = .ok (.iconst (-1), 1) := by decide +kernel
theorem dX9_odds_30 : decode cX9_odds 30 = .ok (.ireturn, 1) := by decide +kernel
theorem dX9_odds_31 : decode cX9_odds 31 = .ok (.aload_n 0, 1) := by decide +kernel
theorem dX9_odds_32 : decode cX9_odds 32 = .ok (.aload_n 0, 1) := by decide +kernel
theorem dX9_odds_33 : decode cX9_odds 33 = .ok (.getfield 35, 3) := by decide +kernel
theorem dX9_odds_36 : decode cX9_odds 36 = .ok (.iconst 0, 1) := by decide +kernel
theorem dX9_odds_37 : decode cX9_odds 37 = .ok (.iaload, 1) := by decide +kernel
theorem dX9_odds_38 : decode cX9_odds 38 = .ok (.aload_n 0, 1) := by decide +kernel
theorem dX9_odds_39 : decode cX9_odds 39 = .ok (.invokevirtual 176, 3) := by decide +kernel
theorem dX9_odds_42 : decode cX9_odds 42 = .ok (.iload_n 2, 1) := by decide +kernel
theorem dX9_odds_43 : decode cX9_odds 43 = .ok (.invokevirtual 179, 3) := by decide +kernel
theorem dX9_odds_46 : decode cX9_odds 46 = .ok (.aload_n 0, 1) := by decide +kernel
theorem dX9_odds_47 : decode cX9_odds 47 = .ok (.getfield 173, 3) := by decide +kernel
theorem dX9_odds_50 : decode cX9_odds 50 = .ok (.iload_n 2, 1) := by decide +kernel
theorem dX9_odds_51 : decode cX9_odds 51 = .ok (.if_icmp .ne 7, 3) := by decide +kernel
theorem dX9_odds_54 : decode cX9_odds 54 = .ok (.iconst 1, 1) := by decide +kernel
theorem dX9_odds_55 : decode cX9_odds 55 = .ok (.goto 4, 3) := by decide +kernel
theorem dX9_odds_58 : decode cX9_odds 58 = .ok (.iconst 0, 1) := by decide +kernel
theorem dX9_odds_59 : decode cX9_odds 59 = .ok (.istore 4, 2) := by decide +kernel
theorem dX9_odds_61 : decode cX9_odds 61 = .ok (.iconst 1, 1) := by decide +kernel
theorem dX9_odds_62 : decode cX9_odds 62 = .ok (.istore 5, 2) := by decide +kernel
theorem dX9_odds_64 : decode cX9_odds 64 = .ok (.iconst 0, 1) := by decide +kernel
theorem dX9_odds_65 : decode cX9_odds 65 = .ok (.istore 6, 2) := by decide +kernel
theorem dX9_odds_67 : decode cX9_odds 67 = .ok (.iload 6, 2) := by decide +kernel
theorem dX9_odds_69 : decode cX9_odds 69 = .ok (.iload_n 2, 1) := by decide +kernel
theorem dX9_odds_70 : decode cX9_odds 70 = .ok (.if_icmp .ge 25, 3) := by decide +kernel
theorem dX9_odds_73 : decode cX9_odds 73 = .ok (.iload 4, 2) := by decide +kernel
theorem dX9_odds_75 : decode cX9_odds 75 = .ok (.bipush 10, 2) := by decide +kernel
theorem dX9_odds_77 : decode cX9_odds 77 = .ok (.iload_n 1, 1) := by decide +kernel
theorem dX9_odds_78 : decode cX9_odds 78 = .ok (.isub, 1) := by decide +kernel
theorem dX9_odds_79 : decode cX9_odds 79 = .ok (.imul, 1) := by decide +kernel
theorem dX9_odds_80 : decode cX9_odds 80 = .ok (.istore 4, 2) := by decide +kernel
theorem dX9_odds_82 : decode cX9_odds 82 = .ok (.iload 5, 2) := by decide +kernel
theorem dX9_odds_84 : decode cX9_odds 84 = .ok (.bipush 10, 2) := by decide +kernel
theorem dX9_odds_86 : decode cX9_odds 86 = .ok (.imul, 1) := by decide +kernel
theorem dX9_odds_87 : decode cX9_odds 87 = .ok (.istore 5, 2) := by decide +kernel
theorem dX9_odds_89 : decode cX9_odds 89 = .ok (.iinc 6 1, 3) := by decide +kernel
theorem dX9_odds_92 : decode cX9_odds 92 = .ok (.goto (-25), 3) := by decide +kernel
theorem dX9_odds_95 : decode cX9_odds 95 = .ok (.iload 4, 2) := by decide +kernel
theorem dX9_odds_97 : decode cX9_odds 97 = .ok (.istore 6, 2) := by decide +kernel
theorem dX9_odds_99 : decode cX9_odds 99 = .ok (.iload 5, 2) := by decide +kernel
theorem dX9_odds_101 : decode cX9_odds 101 = .ok (.istore 7, 2) := by decide +kernel
theorem dX9_odds_103 : decode cX9_odds 103 = .ok (.iload 7, 2) := by decide +kernel
theorem dX9_odds_105 : decode cX9_odds 105 = .ok (.ifCond .eq 21, 3) := by decide +kernel
theorem dX9_odds_108 : decode cX9_odds 108 = .ok (.iload 6, 2) := by decide +kernel
theorem dX9_odds_110 : decode cX9_odds 110 = .ok (.iload 7, 2) := by decide +kernel
theorem dX9_odds_112 : decode cX9_odds 112 = .ok (.irem, 1) := by decide +kernel
theorem dX9_odds_113 : decode cX9_odds 113 = .ok (.istore 8, 2) := by decide +kernel
theorem dX9_odds_115 : decode cX9_odds 115 = .ok (.iload 7, 2) := by decide +kernel
theorem dX9_odds_117 : decode cX9_odds 117 = .ok (.istore 6, 2) := by decide +kernel
theorem dX9_odds_119 : decode cX9_odds 119 = .ok (.iload 8, 2) := by decide +kernel
theorem dX9_odds_121 : decode cX9_odds 121 = .ok (.istore 7, 2) := by decide +kernel
theorem dX9_odds_123 : decode cX9_odds 123 = .ok (.goto (-20), 3) := by decide +kernel
theorem dX9_odds_126 : decode cX9_odds 126 = .ok (.iload_n 3, 1) := by decide +kernel
theorem dX9_odds_127 : decode cX9_odds 127 = .ok (.ifCond .ne 11, 3) := by decide +kernel
theorem dX9_odds_130 : decode cX9_odds 130 = .ok (.iload 4, 2) := by decide +kernel
theorem dX9_odds_132 : decode cX9_odds 132 = .ok (.iload 6, 2) := by decide +kernel
theorem dX9_odds_134 : decode cX9_odds 134 = .ok (.idiv, 1) := by decide +kernel
theorem dX9_odds_135 : decode cX9_odds 135 = .ok (.goto 8, 3) := by decide +kernel
theorem dX9_odds_138 : decode cX9_odds 138 = .ok (.iload 5, 2) := by decide +kernel
theorem dX9_odds_140 : decode cX9_odds 140 = .ok (.iload 6, 2) := by decide +kernel
theorem dX9_odds_142 : decode cX9_odds 142 = .ok (.idiv, 1) := by decide +kernel
theorem dX9_odds_143 : decode cX9_odds 143 = .ok (.ireturn, 1) := by decide +kernel
theorem dX9_measure_0 : decode cX9_measure 0 = .ok (.iconst 0, 1) := by decide +kernel
theorem dX9_measure_1 : decode cX9_measure 1 = .ok (.istore_n 1, 1) := by decide +kernel
theorem dX9_measure_2 : decode cX9_measure 2 = .ok (.iload_n 1, 1) := by decide +kernel
theorem dX9_measure_3 : decode cX9_measure 3 = .ok (.sipush 625, 3) := by decide +kernel
theorem dX9_measure_6 : decode cX9_measure 6 = .ok (.if_icmp .ge 29, 3) := by decide +kernel
theorem dX9_measure_9 : decode cX9_measure 9 = .ok (.aload_n 0, 1) := by decide +kernel
theorem dX9_measure_10 : decode cX9_measure 10 = .ok (.getfield 42, 3) := by decide +kernel
theorem dX9_measure_13 : decode cX9_measure 13 = .ok (.iload_n 1, 1) := by decide +kernel
theorem dX9_measure_14 : decode cX9_measure 14 = .ok (.iload_n 1, 1) := by decide +kernel
theorem dX9_measure_15 : decode cX9_measure 15 = .ok (.aload_n 0, 1) := by decide +kernel
theorem dX9_measure_16 : decode cX9_measure 16 = .ok (.getfield 99, 3) := by decide +kernel
theorem dX9_measure_19 : decode cX9_measure 19 = .ok (.if_icmp .ne 7, 3) := by decide +kernel
theorem dX9_measure_22 : decode cX9_measure 22 = .ok (.iconst 0, 1) := by decide +kernel
theorem dX9_measure_23 : decode cX9_measure 23 = .ok (.goto 5, 3) := by decide +kernel
theorem dX9_measure_26 : decode cX9_measure 26 = .ok (.bipush (-9), 2) := by decide +kernel
theorem dX9_measure_28 : decode cX9_measure 28 = .ok (.iastore, 1) := by decide +kernel
theorem dX9_measure_29 : decode cX9_measure 29 = .ok (.iinc 1 1, 3) := by decide +kernel
theorem dX9_measure_32 : decode cX9_measure 32 = .ok (.goto (-30), 3) := by decide +kernel
theorem dX9_measure_35 : decode cX9_measure 35 = .ok (.iconst 1, 1) := by decide +kernel
theorem dX9_measure_36 : decode cX9_measure 36 = .ok (.istore_n 1, 1) := by decide +kernel
theorem dX9_measure_37 : decode cX9_measure 37 = .ok (.iconst 0, 1) := by decide +kernel
theorem dX9_measure_38 : decode cX9_measure 38 = .ok (.istore_n 2, 1) := by decide +kernel
theorem dX9_measure_39 : decode cX9_measure 39 = .ok (.iload_n 1, 1) := by decide +kernel
theorem dX9_measure_40 : decode cX9_measure 40 = .ok (.ifCond .eq 120, 3) := by decide +kernel
theorem dX9_measure_43 : decode cX9_measure 43 = .ok (.iconst 0, 1) := by decide +kernel
theorem dX9_measure_44 : decode cX9_measure 44 = .ok (.istore_n 1, 1) := by decide +kernel
theorem dX9_measure_45 : decode cX9_measure 45 = .ok (.iconst 0, 1) := by decide +kernel
theorem dX9_measure_46 : decode cX9_measure 46 = .ok (.istore_n 3, 1) := by decide +kernel
theorem dX9_measure_47 : decode cX9_measure 47 = .ok (.iload_n 3, 1) := by decide +kernel
theorem dX9_measure_48 : decode cX9_measure 48 = .ok (.aload_n 0, 1) := by decide +kernel
theorem dX9_measure_49 : decode cX9_measure 49 = .ok (.invokevirtual 152, 3) := by decide +kernel
theorem dX9_measure_52 : decode cX9_measure 52 = .ok (.if_icmp .ge 102, 3) := by decide +kernel
theorem dX9_measure_55 : decode cX9_measure 55 = .ok (.iconst 0, 1) := by decide +kernel
theorem dX9_measure_56 : decode cX9_measure 56 = .ok (.istore 4, 2) := by decide +kernel
theorem dX9_measure_58 : decode cX9_measure 58 = .ok (.iload 4, 2) := by decide +kernel
theorem dX9_measure_60 : decode cX9_measure 60 = .ok (.aload_n 0, 1) := by decide +kernel
theorem dX9_measure_61 : decode cX9_measure 61 = .ok (.getfield 23, 3) := by decide +kernel
theorem dX9_measure_64 : decode cX9_measure 64 = .ok (.iconst 0, 1) := by decide +kernel
theorem dX9_measure_65 : decode cX9_measure 65 = .ok (.iaload, 1) := by decide +kernel
theorem dX9_measure_66 : decode cX9_measure 66 = .ok (.if_icmp .ge 82, 3) := by decide +kernel
theorem dX9_measure_69 : decode cX9_measure 69 = .ok (.aload_n 0, 1) := by decide +kernel
theorem dX9_measure_70 : decode cX9_measure 70 = .ok (.getfield 42, 3) := by decide +kernel
theorem dX9_measure_73 : decode cX9_measure 73 = .ok (.iload_n 3, 1) := by decide +kernel
theorem dX9_measure_74 : decode cX9_measure 74 = .ok (.iaload, 1) := by decide +kernel
theorem dX9_measure_75 : decode cX9_measure 75 = .ok (.bipush (-9), 2) := by decide +kernel
theorem dX9_measure_77 : decode cX9_measure 77 = .ok (.if_icmp .ne 71, 3) := by decide +kernel
theorem dX9_measure_80 : decode cX9_measure 80 = .ok (.aload_n 0, 1) := by decide +kernel
theorem dX9_measure_81 : decode cX9_measure 81 = .ok (.invokevirtual 176, 3) := by decide +kernel
theorem dX9_measure_84 : decode cX9_measure 84 = .ok (.iload 4, 2) := by decide +kernel
theorem dX9_measure_86 : decode cX9_measure 86 = .ok (.ishr, 1) := by decide +kernel
theorem dX9_measure_87 : decode cX9_measure 87 = .ok (.iconst 1, 1) := by decide +kernel
theorem dX9_measure_88 : decode cX9_measure 88 = .ok (.iand, 1) := by decide +kernel
theorem dX9_measure_89 : decode cX9_measure 89 = .ok (.iconst 1, 1) := by decide +kernel
theorem dX9_measure_90 : decode cX9_measure 90 = .ok (.if_icmp .ne 33, 3) := by decide +kernel
theorem dX9_measure_93 : decode cX9_measure 93 = .ok (.aload_n 0, 1) := by decide +kernel
theorem dX9_measure_94 : decode cX9_measure 94 = .ok (.iload 4, 2) := by decide +kernel
theorem dX9_measure_96 : decode cX9_measure 96 = .ok (.iload_n 3, 1) := by decide +kernel
theorem dX9_measure_97 : decode cX9_measure 97 = .ok (.invokevirtual 136, 3) := by decide +kernel
theorem dX9_measure_100 : decode cX9_measure 100 = .ok (.ifCond .ne 23, 3) := by decide +kernel
theorem dX9_measure_103 : decode cX9_measure 103 = .ok (.aload_n 0, 1) := by decide +kernel
theorem dX9_measure_104 : decode cX9_measure 104 = .ok (.getfield 42, 3) := by decide +kernel
theorem dX9_measure_107 : decode cX9_measure 107 = .ok (.aload_n 0, 1) := by decide +kernel
theorem dX9_measure_108 : decode cX9_measure 108 = .ok (.iload 4, 2) := by decide +kernel
theorem dX9_measure_110 : decode cX9_measure 110 = .ok (.iload_n 3, 1) := by decide +kernel
theorem dX9_measure_111 : decode cX9_measure 111 = .ok (.invokevirtual 126, 3) := by decide +kernel
theorem dX9_measure_114 : decode cX9_measure 114 = .ok (.iaload, 1) := by decide +kernel
theorem dX9_measure_115 : decode cX9_measure 115 = .ok (.iload_n 2, 1) := by decide +kernel
theorem dX9_measure_116 : decode cX9_measure 116 = .ok (.if_icmp .ne 7, 3) := by decide +kernel
theorem dX9_measure_119 : decode cX9_measure 119 = .ok (.iconst 1, 1) := by decide +kernel
theorem dX9_measure_120 : decode cX9_measure 120 = .ok (.goto 4, 3) := by decide +kernel
theorem dX9_measure_123 : decode cX9_measure 123 = .ok (.iconst 0, 1) := by decide +kernel
theorem dX9_measure_124 : decode cX9_measure 124 = .ok (.istore 5, 2) := by decide +kernel
theorem dX9_measure_126 : decode cX9_measure 126 = .ok (.iload 5, 2) := by decide +kernel
theorem dX9_measure_128 : decode cX9_measure 128 = .ok (.ifCond .eq 14, 3) := by decide +kernel
theorem dX9_measure_131 : decode cX9_measure 131 = .ok (.aload_n 0, 1) := by decide +kernel
theorem dX9_measure_132 : decode cX9_measure 132 = .ok (.getfield 42, 3) := by decide +kernel
theorem dX9_measure_135 : decode cX9_measure 135 = .ok (.iload_n 3, 1) := by decide +kernel
theorem dX9_measure_136 : decode cX9_measure 136 = .ok (.iload_n 2, 1) := by decide +kernel
theorem dX9_measure_137 : decode cX9_measure 137 = .ok (.iconst 1, 1) := by decide +kernel
theorem dX9_measure_138 : decode cX9_measure 138 = .ok (.iadd, 1) := by decide +kernel
theorem dX9_measure_139 : decode cX9_measure 139 = .ok (.iastore, 1) := by decide +kernel
theorem dX9_measure_140 : decode cX9_measure 140 = .ok (.iconst 1, 1) := by decide +kernel
theorem dX9_measure_141 : decode cX9_measure 141 = .ok (.istore_n 1, 1) := by decide +kernel
theorem dX9_measure_142 : decode cX9_measure 142 = .ok (.iinc 4 1, 3) := by decide +kernel
theorem dX9_measure_145 : decode cX9_measure 145 = .ok (.goto (-87), 3) := by decide +kernel
theorem dX9_measure_148 : decode cX9_measure 148 = .ok (.iinc 3 1, 3) := by decide +kernel
theorem dX9_measure_151 : decode cX9_measure 151 = .ok (.goto (-104), 3) := by decide +kernel
theorem dX9_measure_154 : decode cX9_measure 154 = .ok (.iinc 2 1, 3) := by decide +kernel
theorem dX9_measure_157 : decode cX9_measure 157 = .ok (.goto (-118), 3) := by decide +kernel
theorem dX9_measure_160 : decode cX9_measure 160 = .ok (.return_, 1) := by decide +kernel
theorem dX9_way_0 : decode cX9_way 0 = .ok (.iload_n 1, 1) := by decide +kernel
theorem dX9_way_1 : decode cX9_way 1 = .ok (.iconst (-1), 1) := by decide +kernel
theorem dX9_way_2 : decode cX9_way 2 = .ok (.if_icmp .ge 5, 3) := by decide +kernel
theorem dX9_way_5 : decode cX9_way 5 = .ok (.iconst (-1), 1) := by decide +kernel
theorem dX9_way_6 : decode cX9_way 6 = .ok (.ireturn, 1) := by decide +kernel
theorem dX9_way_7 : decode cX9_way 7 = .ok (.aload_n 0, 1) := by decide +kernel
theorem dX9_way_8 : decode cX9_way 8 = .ok (.invokevirtual 183, 3) := by decide +kernel
theorem dX9_way_11 : decode cX9_way 11 = .ok (.aload_n 0, 1) := by decide +kernel
theorem dX9_way_12 : decode cX9_way 12 = .ok (.getfield 42, 3) := by decide +kernel
theorem dX9_way_15 : decode cX9_way 15 = .ok (.aload_n 0, 1) := by decide +kernel
theorem dX9_way_16 : decode cX9_way 16 = .ok (.getfield 35, 3) := by decide +kernel
theorem dX9_way_19 : decode cX9_way 19 = .ok (.iconst 0, 1) := by decide +kernel
theorem dX9_way_20 : decode cX9_way 20 = .ok (.iaload, 1) := by decide +kernel
theorem dX9_way_21 : decode cX9_way 21 = .ok (.iaload, 1) := by decide +kernel
theorem dX9_way_22 : decode cX9_way 22 = .ok (.istore_n 2, 1) := by decide +kernel
theorem dX9_way_23 : decode cX9_way 23 = .ok (.iload_n 1, 1) := by decide +kernel
theorem dX9_way_24 : decode cX9_way 24 = .ok (.iconst (-1), 1) := by decide +kernel
theorem dX9_way_25 : decode cX9_way 25 = .ok (.if_icmp .eq 8, 3) := by decide +kernel
theorem dX9_way_28 : decode cX9_way 28 = .ok (.iload_n 1, 1) := by decide +kernel
theorem dX9_way_29 : decode cX9_way 29 = .ok (.iload_n 2, 1) := by decide +kernel
theorem dX9_way_30 : decode cX9_way 30 = .ok (.if_icmp .lt 15, 3) := by decide +kernel
theorem dX9_way_33 : decode cX9_way 33 = .ok (.iload_n 1, 1) := by decide +kernel
theorem dX9_way_34 : decode cX9_way 34 = .ok (.iconst (-1), 1) := by decide +kernel
theorem dX9_way_35 : decode cX9_way 35 = .ok (.if_icmp .ne 7, 3) := by decide +kernel
theorem dX9_way_38 : decode cX9_way 38 = .ok (.iload_n 2, 1) := by decide +kernel
theorem dX9_way_39 : decode cX9_way 39 = .ok (.goto 5, 3) := by decide +kernel
theorem dX9_way_42 : decode cX9_way 42 = .ok (.bipush (-9), 2) := by decide +kernel
theorem dX9_way_44 : decode cX9_way 44 = .ok (.ireturn, 1) := by decide +kernel
theorem dX9_way_45 : decode cX9_way 45 = .ok (.aload_n 0, 1) := by decide +kernel
theorem dX9_way_46 : decode cX9_way 46 = .ok (.getfield 35, 3) := by decide +kernel
theorem dX9_way_49 : decode cX9_way 49 = .ok (.iconst 0, 1) := by decide +kernel
theorem dX9_way_50 : decode cX9_way 50 = .ok (.iaload, 1) := by decide +kernel
theorem dX9_way_51 : decode cX9_way 51 = .ok (.istore_n 3, 1) := by decide +kernel
theorem dX9_way_52 : decode cX9_way 52 = .ok (.bipush (-9), 2) := by decide +kernel
theorem dX9_way_54 : decode cX9_way 54 = .ok (.istore 4, 2) := by decide +kernel
theorem dX9_way_56 : decode cX9_way 56 = .ok (.iconst 0, 1) := by decide +kernel
theorem dX9_way_57 : decode cX9_way 57 = .ok (.istore 5, 2) := by decide +kernel
theorem dX9_way_59 : decode cX9_way 59 = .ok (.iload 5, 2) := by decide +kernel
theorem dX9_way_61 : decode cX9_way 61 = .ok (.iload_n 1, 1) := by decide +kernel
theorem dX9_way_62 : decode cX9_way 62 = .ok (.if_icmp .gt 69, 3) := by decide +kernel
theorem dX9_way_65 : decode cX9_way 65 = .ok (.iconst 0, 1) := by decide +kernel
theorem dX9_way_66 : decode cX9_way 66 = .ok (.istore 4, 2) := by decide +kernel
theorem dX9_way_68 : decode cX9_way 68 = .ok (.aload_n 0, 1) := by decide +kernel
theorem dX9_way_69 : decode cX9_way 69 = .ok (.invokevirtual 176, 3) := by decide +kernel
theorem dX9_way_72 : decode cX9_way 72 = .ok (.iload 4, 2) := by decide +kernel
theorem dX9_way_74 : decode cX9_way 74 = .ok (.ishr, 1) := by decide +kernel
theorem dX9_way_75 : decode cX9_way 75 = .ok (.iconst 1, 1) := by decide +kernel
theorem dX9_way_76 : decode cX9_way 76 = .ok (.iand, 1) := by decide +kernel
theorem dX9_way_77 : decode cX9_way 77 = .ok (.ifCond .eq 34, 3) := by decide +kernel
theorem dX9_way_80 : decode cX9_way 80 = .ok (.aload_n 0, 1) := by decide +kernel
theorem dX9_way_81 : decode cX9_way 81 = .ok (.iload 4, 2) := by decide +kernel
theorem dX9_way_83 : decode cX9_way 83 = .ok (.iload_n 3, 1) := by decide +kernel
theorem dX9_way_84 : decode cX9_way 84 = .ok (.invokevirtual 136, 3) := by decide +kernel
theorem dX9_way_87 : decode cX9_way 87 = .ok (.ifCond .ne 24, 3) := by decide +kernel
theorem dX9_way_90 : decode cX9_way 90 = .ok (.aload_n 0, 1) := by decide +kernel
theorem dX9_way_91 : decode cX9_way 91 = .ok (.getfield 42, 3) := by decide +kernel
theorem dX9_way_94 : decode cX9_way 94 = .ok (.aload_n 0, 1) := by decide +kernel
theorem dX9_way_95 : decode cX9_way 95 = .ok (.iload 4, 2) := by decide +kernel
theorem dX9_way_97 : decode cX9_way 97 = .ok (.iload_n 3, 1) := by decide +kernel
theorem dX9_way_98 : decode cX9_way 98 = .ok (.invokevirtual 126, 3) := by decide +kernel
theorem dX9_way_101 : decode cX9_way 101 = .ok (.iaload, 1) := by decide +kernel
theorem dX9_way_102 : decode cX9_way 102 = .ok (.iload_n 2, 1) := by decide +kernel
theorem dX9_way_103 : decode cX9_way 103 = .ok (.iload 5, 2) := by decide +kernel
theorem dX9_way_105 : decode cX9_way 105 = .ok (.isub, 1) := by decide +kernel
theorem dX9_way_106 : decode cX9_way 106 = .ok (.iconst 1, 1) := by decide +kernel
theorem dX9_way_107 : decode cX9_way 107 = .ok (.isub, 1) := by decide +kernel
theorem dX9_way_108 : decode cX9_way 108 = .ok (.if_icmp .eq 9, 3) := by decide +kernel
theorem dX9_way_111 : decode cX9_way 111 = .ok (.iinc 4 1, 3) := by decide +kernel
theorem dX9_way_114 : decode cX9_way 114 = .ok (.goto (-46), 3) := by decide +kernel
theorem dX9_way_117 : decode cX9_way 117 = .ok (.aload_n 0, 1) := by decide +kernel
theorem dX9_way_118 : decode cX9_way 118 = .ok (.iload 4, 2) := by decide +kernel
theorem dX9_way_120 : decode cX9_way 120 = .ok (.iload_n 3, 1) := by decide +kernel
theorem dX9_way_121 : decode cX9_way 121 = .ok (.invokevirtual 126, 3) := by decide +kernel
theorem dX9_way_124 : decode cX9_way 124 = .ok (.istore_n 3, 1) := by decide +kernel
theorem dX9_way_125 : decode cX9_way 125 = .ok (.iinc 5 1, 3) := by decide +kernel
theorem dX9_way_128 : decode cX9_way 128 = .ok (.goto (-69), 3) := by decide +kernel
theorem dX9_way_131 : decode cX9_way 131 = .ok (.iload 4, 2) := by decide +kernel
theorem dX9_way_133 : decode cX9_way 133 = .ok (.ireturn, 1) := by decide +kernel
theorem dX9_from_0 : decode cX9_from 0 = .ok (.aload_n 0, 1) := by decide +kernel
theorem dX9_from_1 : decode cX9_from 1 = .ok (.iload_n 1, 1) := by decide +kernel
theorem dX9_from_2 : decode cX9_from 2 = .ok (.invokevirtual 133, 3) := by decide +kernel
theorem dX9_from_5 : decode cX9_from 5 = .ok (.ifCond .eq 11, 3) := by decide +kernel
theorem dX9_from_8 : decode cX9_from 8 = .ok (.aload_n 0, 1) := by decide +kernel
theorem dX9_from_9 : decode cX9_from 9 = .ok (.iload_n 1, 1) := by decide +kernel
theorem dX9_from_10 : decode cX9_from 10 = .ok (.invokevirtual 158, 3) := by decide +kernel
theorem dX9_from_13 : decode cX9_from 13 = .ok (.goto 4, 3) := by decide +kernel
theorem dX9_from_16 : decode cX9_from 16 = .ok (.iconst (-1), 1) := by decide +kernel
theorem dX9_from_17 : decode cX9_from 17 = .ok (.ireturn, 1) := by decide +kernel
theorem dX9_saw_0 : decode cX9_saw 0 = .ok (.aload_n 0, 1) := by decide +kernel
theorem dX9_saw_1 : decode cX9_saw 1 = .ok (.iload_n 1, 1) := by decide +kernel
theorem dX9_saw_2 : decode cX9_saw 2 = .ok (.invokevirtual 142, 3) := by decide +kernel
theorem dX9_saw_5 : decode cX9_saw 5 = .ok (.ifCond .eq 11, 3) := by decide +kernel
theorem dX9_saw_8 : decode cX9_saw 8 = .ok (.aload_n 0, 1) := by decide +kernel
theorem dX9_saw_9 : decode cX9_saw 9 = .ok (.iload_n 2, 1) := by decide +kernel
theorem dX9_saw_10 : decode cX9_saw 10 = .ok (.invokevirtual 142, 3) := by decide +kernel
theorem dX9_saw_13 : decode cX9_saw 13 = .ok (.ifCond .ne 5, 3) := by decide +kernel
theorem dX9_saw_16 : decode cX9_saw 16 = .ok (.iconst (-1), 1) := by decide +kernel
theorem dX9_saw_17 : decode cX9_saw 17 = .ok (.ireturn, 1) := by decide +kernel
theorem dX9_saw_18 : decode cX9_saw 18 = .ok (.aload_n 0, 1) := by decide +kernel
theorem dX9_saw_19 : decode cX9_saw 19 = .ok (.getfield 102, 3) := by decide +kernel
theorem dX9_saw_22 : decode cX9_saw 22 = .ok (.bipush 6, 2) := by decide +kernel
theorem dX9_saw_24 : decode cX9_saw 24 = .ok (.if_icmp .ne 6, 3) := by decide +kernel
theorem dX9_saw_27 : decode cX9_saw 27 = .ok (.bipush (-3), 2) := by decide +kernel
theorem dX9_saw_29 : decode cX9_saw 29 = .ok (.ireturn, 1) := by decide +kernel
theorem dX9_saw_30 : decode cX9_saw 30 = .ok (.aload_n 0, 1) := by decide +kernel
theorem dX9_saw_31 : decode cX9_saw 31 = .ok (.getfield 45, 3) := by decide +kernel
theorem dX9_saw_34 : decode cX9_saw 34 = .ok (.aload_n 0, 1) := by decide +kernel
theorem dX9_saw_35 : decode cX9_saw 35 = .ok (.getfield 102, 3) := by decide +kernel
theorem dX9_saw_38 : decode cX9_saw 38 = .ok (.iload_n 1, 1) := by decide +kernel
theorem dX9_saw_39 : decode cX9_saw 39 = .ok (.iastore, 1) := by decide +kernel
theorem dX9_saw_40 : decode cX9_saw 40 = .ok (.aload_n 0, 1) := by decide +kernel
theorem dX9_saw_41 : decode cX9_saw 41 = .ok (.getfield 48, 3) := by decide +kernel
theorem dX9_saw_44 : decode cX9_saw 44 = .ok (.aload_n 0, 1) := by decide +kernel
theorem dX9_saw_45 : decode cX9_saw 45 = .ok (.getfield 102, 3) := by decide +kernel
theorem dX9_saw_48 : decode cX9_saw 48 = .ok (.iload_n 2, 1) := by decide +kernel
theorem dX9_saw_49 : decode cX9_saw 49 = .ok (.iastore, 1) := by decide +kernel
theorem dX9_saw_50 : decode cX9_saw 50 = .ok (.aload_n 0, 1) := by decide +kernel
theorem dX9_saw_51 : decode cX9_saw 51 = .ok (.dup, 1) := by decide +kernel
theorem dX9_saw_52 : decode cX9_saw 52 = .ok (.getfield 102, 3) := by decide +kernel
theorem dX9_saw_55 : decode cX9_saw 55 = .ok (.iconst 1, 1) := by decide +kernel
theorem dX9_saw_56 : decode cX9_saw 56 = .ok (.iadd, 1) := by decide +kernel
theorem dX9_saw_57 : decode cX9_saw 57 = .ok (.putfield 102, 3) := by decide +kernel
theorem dX9_saw_60 : decode cX9_saw 60 = .ok (.aload_n 0, 1) := by decide +kernel
theorem dX9_saw_61 : decode cX9_saw 61 = .ok (.getfield 102, 3) := by decide +kernel
theorem dX9_saw_64 : decode cX9_saw 64 = .ok (.ireturn, 1) := by decide +kernel
theorem dX9_forget_0 : decode cX9_forget 0 = .ok (.aload_n 0, 1) := by decide +kernel
theorem dX9_forget_1 : decode cX9_forget 1 = .ok (.getfield 102, 3) := by decide +kernel
theorem dX9_forget_4 : decode cX9_forget 4 = .ok (.istore_n 1, 1) := by decide +kernel
theorem dX9_forget_5 : decode cX9_forget 5 = .ok (.aload_n 0, 1) := by decide +kernel
theorem dX9_forget_6 : decode cX9_forget 6 = .ok (.iconst 0, 1) := by decide +kernel
theorem dX9_forget_7 : decode cX9_forget 7 = .ok (.putfield 102, 3) := by decide +kernel
theorem dX9_forget_10 : decode cX9_forget 10 = .ok (.iload_n 1, 1) := by decide +kernel
theorem dX9_forget_11 : decode cX9_forget 11 = .ok (.ireturn, 1) := by decide +kernel
theorem dX9_isSo_0 : decode cX9_isSo 0 = .ok (.iconst 1, 1) := by decide +kernel
theorem dX9_isSo_1 : decode cX9_isSo 1 = .ok (.istore_n 3, 1) := by decide +kernel
theorem dX9_isSo_2 : decode cX9_isSo 2 = .ok (.iconst 0, 1) := by decide +kernel
theorem dX9_isSo_3 : decode cX9_isSo 3 = .ok (.istore 4, 2) := by decide +kernel
theorem dX9_isSo_5 : decode cX9_isSo 5 = .ok (.iload 4, 2) := by decide +kernel
theorem dX9_isSo_7 : decode cX9_isSo 7 = .ok (.aload_n 0, 1) := by decide +kernel
theorem dX9_isSo_8 : decode cX9_isSo 8 = .ok (.getfield 102, 3) := by decide +kernel
theorem dX9_isSo_11 : decode cX9_isSo 11 = .ok (.if_icmp .ge 47, 3) := by decide +kernel
theorem dX9_isSo_14 : decode cX9_isSo 14 = .ok (.iload_n 3, 1) := by decide +kernel
theorem dX9_isSo_15 : decode cX9_isSo 15 = .ok (.ifCond .eq 35, 3) := by decide +kernel
theorem dX9_isSo_18 : decode cX9_isSo 18 = .ok (.iload_n 1, 1) := by decide +kernel
theorem dX9_isSo_19 : decode cX9_isSo 19 = .ok (.aload_n 0, 1) := by decide +kernel
theorem dX9_isSo_20 : decode cX9_isSo 20 = .ok (.getfield 45, 3) := by decide +kernel
theorem dX9_isSo_23 : decode cX9_isSo 23 = .ok (.iload 4, 2) := by decide +kernel
theorem dX9_isSo_25 : decode cX9_isSo 25 = .ok (.iaload, 1) := by decide +kernel
theorem dX9_isSo_26 : decode cX9_isSo 26 = .ok (.imul, 1) := by decide +kernel
theorem dX9_isSo_27 : decode cX9_isSo 27 = .ok (.iload_n 2, 1) := by decide +kernel
theorem dX9_isSo_28 : decode cX9_isSo 28 = .ok (.iadd, 1) := by decide +kernel
theorem dX9_isSo_29 : decode cX9_isSo 29 = .ok (.aload_n 0, 1) := by decide +kernel
theorem dX9_isSo_30 : decode cX9_isSo 30 = .ok (.getfield 13, 3) := by decide +kernel
theorem dX9_isSo_33 : decode cX9_isSo 33 = .ok (.iconst 0, 1) := by decide +kernel
theorem dX9_isSo_34 : decode cX9_isSo 34 = .ok (.iaload, 1) := by decide +kernel
theorem dX9_isSo_35 : decode cX9_isSo 35 = .ok (.irem, 1) := by decide +kernel
theorem dX9_isSo_36 : decode cX9_isSo 36 = .ok (.aload_n 0, 1) := by decide +kernel
theorem dX9_isSo_37 : decode cX9_isSo 37 = .ok (.getfield 48, 3) := by decide +kernel
theorem dX9_isSo_40 : decode cX9_isSo 40 = .ok (.iload 4, 2) := by decide +kernel
theorem dX9_isSo_42 : decode cX9_isSo 42 = .ok (.iaload, 1) := by decide +kernel
theorem dX9_isSo_43 : decode cX9_isSo 43 = .ok (.if_icmp .ne 7, 3) := by decide +kernel
theorem dX9_isSo_46 : decode cX9_isSo 46 = .ok (.iconst 1, 1) := by decide +kernel
theorem dX9_isSo_47 : decode cX9_isSo 47 = .ok (.goto 4, 3) := by decide +kernel
theorem dX9_isSo_50 : decode cX9_isSo 50 = .ok (.iconst 0, 1) := by decide +kernel
theorem dX9_isSo_51 : decode cX9_isSo 51 = .ok (.istore_n 3, 1) := by decide +kernel
theorem dX9_isSo_52 : decode cX9_isSo 52 = .ok (.iinc 4 1, 3) := by decide +kernel
theorem dX9_isSo_55 : decode cX9_isSo 55 = .ok (.goto (-50), 3) := by decide +kernel
theorem dX9_isSo_58 : decode cX9_isSo 58 = .ok (.iload_n 3, 1) := by decide +kernel
theorem dX9_isSo_59 : decode cX9_isSo 59 = .ok (.ireturn, 1) := by decide +kernel
theorem dX9_fit_0 : decode cX9_fit 0 = .ok (.iload_n 1, 1) := by decide +kernel
theorem dX9_fit_1 : decode cX9_fit 1 = .ok (.iconst 0, 1) := by decide +kernel
theorem dX9_fit_2 : decode cX9_fit 2 = .ok (.iconst 2, 1) := by decide +kernel
theorem dX9_fit_3 : decode cX9_fit 3 = .ok (.invokestatic 57, 3) := by decide +kernel
theorem dX9_fit_6 : decode cX9_fit 6 = .ok (.ifCond .ne 5, 3) := by decide +kernel
theorem dX9_fit_9 : decode cX9_fit 9 = .ok (.iconst (-1), 1) := by decide +kernel
theorem dX9_fit_10 : decode cX9_fit 10 = .ok (.ireturn, 1) := by decide +kernel
theorem dX9_fit_11 : decode cX9_fit 11 = .ok (.aload_n 0, 1) := by decide +kernel
theorem dX9_fit_12 : decode cX9_fit 12 = .ok (.getfield 13, 3) := by decide +kernel
theorem dX9_fit_15 : decode cX9_fit 15 = .ok (.iconst 0, 1) := by decide +kernel
theorem dX9_fit_16 : decode cX9_fit 16 = .ok (.iaload, 1) := by decide +kernel
theorem dX9_fit_17 : decode cX9_fit 17 = .ok (.istore_n 2, 1) := by decide +kernel
theorem dX9_fit_18 : decode cX9_fit 18 = .ok (.iconst 0, 1) := by decide +kernel
theorem dX9_fit_19 : decode cX9_fit 19 = .ok (.istore_n 3, 1) := by decide +kernel
theorem dX9_fit_20 : decode cX9_fit 20 = .ok (.bipush (-9), 2) := by decide +kernel
theorem dX9_fit_22 : decode cX9_fit 22 = .ok (.istore 4, 2) := by decide +kernel
theorem dX9_fit_24 : decode cX9_fit 24 = .ok (.bipush (-9), 2) := by decide +kernel
theorem dX9_fit_26 : decode cX9_fit 26 = .ok (.istore 5, 2) := by decide +kernel
theorem dX9_fit_28 : decode cX9_fit 28 = .ok (.iconst 0, 1) := by decide +kernel
theorem dX9_fit_29 : decode cX9_fit 29 = .ok (.istore 6, 2) := by decide +kernel
theorem dX9_fit_31 : decode cX9_fit 31 = .ok (.iload_n 2, 1) := by decide +kernel
theorem dX9_fit_32 : decode cX9_fit 32 = .ok (.iconst 1, 1) := by decide +kernel
theorem dX9_fit_33 : decode cX9_fit 33 = .ok (.isub, 1) := by decide +kernel
theorem dX9_fit_34 : decode cX9_fit 34 = .ok (.istore 7, 2) := by decide +kernel
theorem dX9_fit_36 : decode cX9_fit 36 = .ok (.iload 7, 2) := by decide +kernel
theorem dX9_fit_38 : decode cX9_fit 38 = .ok (.ifCond .lt 110, 3) := by decide +kernel
theorem dX9_fit_41 : decode cX9_fit 41 = .ok (.iconst 0, 1) := by decide +kernel
theorem dX9_fit_42 : decode cX9_fit 42 = .ok (.istore 8, 2) := by decide +kernel
theorem dX9_fit_44 : decode cX9_fit 44 = .ok (.iconst 0, 1) := by decide +kernel
theorem dX9_fit_45 : decode cX9_fit 45 = .ok (.istore_n 3, 1) := by decide +kernel
theorem dX9_fit_46 : decode cX9_fit 46 = .ok (.iload_n 2, 1) := by decide +kernel
theorem dX9_fit_47 : decode cX9_fit 47 = .ok (.iload_n 2, 1) := by decide +kernel
theorem dX9_fit_48 : decode cX9_fit 48 = .ok (.imul, 1) := by decide +kernel
theorem dX9_fit_49 : decode cX9_fit 49 = .ok (.iconst 1, 1) := by decide +kernel
theorem dX9_fit_50 : decode cX9_fit 50 = .ok (.isub, 1) := by decide +kernel
theorem dX9_fit_51 : decode cX9_fit 51 = .ok (.istore 9, 2) := by decide +kernel
theorem dX9_fit_53 : decode cX9_fit 53 = .ok (.iload 9, 2) := by decide +kernel
theorem dX9_fit_55 : decode cX9_fit 55 = .ok (.ifCond .lt 62, 3) := by decide +kernel
theorem dX9_fit_58 : decode cX9_fit 58 = .ok (.aload_n 0, 1) := by decide +kernel
theorem dX9_fit_59 : decode cX9_fit 59 = .ok (.iload 9, 2) := by decide +kernel
theorem dX9_fit_61 : decode cX9_fit 61 = .ok (.iload_n 2, 1) := by decide +kernel
theorem dX9_fit_62 : decode cX9_fit 62 = .ok (.idiv, 1) := by decide +kernel
theorem dX9_fit_63 : decode cX9_fit 63 = .ok (.iload 9, 2) := by decide +kernel
theorem dX9_fit_65 : decode cX9_fit 65 = .ok (.iload_n 2, 1) := by decide +kernel
theorem dX9_fit_66 : decode cX9_fit 66 = .ok (.irem, 1) := by decide +kernel
theorem dX9_fit_67 : decode cX9_fit 67 = .ok (.invokevirtual 164, 3) := by decide +kernel
theorem dX9_fit_70 : decode cX9_fit 70 = .ok (.ifCond .eq 41, 3) := by decide +kernel
theorem dX9_fit_73 : decode cX9_fit 73 = .ok (.iload 8, 2) := by decide +kernel
