theorem dX0_init_0 : decode cX0_init 0 = .ok (.aload_n 0, 1) := by decide +kernel
theorem dX0_init_1 : decode cX0_init 1 = .ok (.invokespecial 3, 3) := by decide +kernel
theorem dX0_init_4 : decode cX0_init 4 = .ok (.aload_n 0, 1) := by decide +kernel
theorem dX0_init_5 : decode cX0_init 5 = .ok (.iconst 5, 1) := by decide +kernel
theorem dX0_init_6 : decode cX0_init 6 = .ok (.putfield 9, 3) := by decide +kernel
theorem dX0_init_9 : decode cX0_init 9 = .ok (.aload_n 0, 1) := by decide +kernel
theorem dX0_init_10 : decode cX0_init 10 = .ok (.iconst 1, 1) := by decide +kernel
theorem dX0_init_11 : decode cX0_init 11 = .ok (.putfield 15, 3) := by decide +kernel
theorem dX0_init_14 : decode cX0_init 14 = .ok (.aload_n 0, 1) := by decide +kernel
theorem dX0_init_15 : decode cX0_init 15 = .ok (.iconst 1, 1) := by decide +kernel
theorem dX0_init_16 : decode cX0_init 16 = .ok (.putfield 18, 3) := by decide +kernel
theorem dX0_init_19 : decode cX0_init 19 = .ok (.aload_n 0, 1) := by decide +kernel
theorem dX0_init_20 : decode cX0_init 20 = .ok (.bipush 6, 2) := by decide +kernel
theorem dX0_init_22 : decode cX0_init 22 = .ok (.newarray .int, 2) := by decide +kernel
theorem dX0_init_24 : decode cX0_init 24 = .ok (.putfield 21, 3) := by decide +kernel
theorem dX0_init_27 : decode cX0_init 27 = .ok (.aload_n 0, 1) := by decide +kernel
theorem dX0_init_28 : decode cX0_init 28 = .ok (.bipush 6, 2) := by decide +kernel
theorem dX0_init_30 : decode cX0_init 30 = .ok (.newarray .int, 2) := by decide +kernel
theorem dX0_init_32 : decode cX0_init 32 = .ok (.putfield 25, 3) := by decide +kernel
theorem dX0_init_35 : decode cX0_init 35 = .ok (.return_, 1) := by decide +kernel
theorem dX0_begin_0 : decode cX0_begin 0 = .ok (.aload_n 0, 1) := by decide +kernel
theorem dX0_begin_1 : decode cX0_begin 1 = .ok (.iconst 5, 1) := by decide +kernel
theorem dX0_begin_2 : decode cX0_begin 2 = .ok (.putfield 9, 3) := by decide +kernel
theorem dX0_begin_5 : decode cX0_begin 5 = .ok (.aload_n 0, 1) := by decide +kernel
theorem dX0_begin_6 : decode cX0_begin 6 = .ok (.iconst 0, 1) := by decide +kernel
theorem dX0_begin_7 : decode cX0_begin 7 = .ok (.putfield 28, 3) := by decide +kernel
theorem dX0_begin_10 : decode cX0_begin 10 = .ok (.aload_n 0, 1) := by decide +kernel
theorem dX0_begin_11 : decode cX0_begin 11 = .ok (.iconst 1, 1) := by decide +kernel
theorem dX0_begin_12 : decode cX0_begin 12 = .ok (.putfield 15, 3) := by decide +kernel
theorem dX0_begin_15 : decode cX0_begin 15 = .ok (.aload_n 0, 1) := by decide +kernel
theorem dX0_begin_16 : decode cX0_begin 16 = .ok (.iconst 0, 1) := by decide +kernel
theorem dX0_begin_17 : decode cX0_begin 17 = .ok (.putfield 31, 3) := by decide +kernel
theorem dX0_begin_20 : decode cX0_begin 20 = .ok (.aload_n 0, 1) := by decide +kernel
theorem dX0_begin_21 : decode cX0_begin 21 = .ok (.iconst 0, 1) := by decide +kernel
theorem dX0_begin_22 : decode cX0_begin 22 = .ok (.putfield 34, 3) := by decide +kernel
theorem dX0_begin_25 : decode cX0_begin 25 = .ok (.aload_n 0, 1) := by decide +kernel
theorem dX0_begin_26 : decode cX0_begin 26 = .ok (.iconst 1, 1) := by decide +kernel
theorem dX0_begin_27 : decode cX0_begin 27 = .ok (.putfield 18, 3) := by decide +kernel
theorem dX0_begin_30 : decode cX0_begin 30 = .ok (.return_, 1) := by decide +kernel
theorem dX0_addLine_0 : decode cX0_addLine 0 = .ok (.aload_n 0, 1) := by decide +kernel
theorem dX0_addLine_1 : decode cX0_addLine 1 = .ok (.getfield 28, 3) := by decide +kernel
theorem dX0_addLine_4 : decode cX0_addLine 4 = .ok (.iconst 4, 1) := by decide +kernel
theorem dX0_addLine_5 : decode cX0_addLine 5 = .ok (.if_icmp .ge 41, 3) := by decide +kernel
theorem dX0_addLine_8 : decode cX0_addLine 8 = .ok (.aload_n 0, 1) := by decide +kernel
theorem dX0_addLine_9 : decode cX0_addLine 9 = .ok (.dup, 1) := by decide +kernel
theorem dX0_addLine_10 : decode cX0_addLine 10 = .ok (.getfield 28, 3) := by decide +kernel
theorem dX0_addLine_13 : decode cX0_addLine 13 = .ok (.iconst 1, 1) := by decide +kernel
theorem dX0_addLine_14 : decode cX0_addLine 14 = .ok (.iadd, 1) := by decide +kernel
theorem dX0_addLine_15 : decode cX0_addLine 15 = .ok (.putfield 28, 3) := by decide +kernel
theorem dX0_addLine_18 : decode cX0_addLine 18 = .ok (.aload_n 0, 1) := by decide +kernel
theorem dX0_addLine_19 : decode cX0_addLine 19 = .ok (.dup, 1) := by decide +kernel
theorem dX0_addLine_20 : decode cX0_addLine 20 = .ok (.getfield 15, 3) := by decide +kernel
theorem dX0_addLine_23 : decode cX0_addLine 23 = .ok (.aload_n 0, 1) := by decide +kernel
theorem dX0_addLine_24 : decode cX0_addLine 24 = .ok (.getfield 9, 3) := by decide +kernel
theorem dX0_addLine_27 : decode cX0_addLine 27 = .ok (.imul, 1) := by decide +kernel
theorem dX0_addLine_28 : decode cX0_addLine 28 = .ok (.putfield 15, 3) := by decide +kernel
theorem dX0_addLine_31 : decode cX0_addLine 31 = .ok (.aload_n 0, 1) := by decide +kernel
theorem dX0_addLine_32 : decode cX0_addLine 32 = .ok (.aload_n 0, 1) := by decide +kernel
theorem dX0_addLine_33 : decode cX0_addLine 33 = .ok (.getfield 31, 3) := by decide +kernel
theorem dX0_addLine_36 : decode cX0_addLine 36 = .ok (.aload_n 0, 1) := by decide +kernel
theorem dX0_addLine_37 : decode cX0_addLine 37 = .ok (.getfield 9, 3) := by decide +kernel
theorem dX0_addLine_40 : decode cX0_addLine 40 = .ok (.imul, 1) := by decide +kernel
theorem dX0_addLine_41 : decode cX0_addLine 41 = .ok (.iload_n 1, 1) := by decide +kernel
theorem dX0_addLine_42 : decode cX0_addLine 42 = .ok (.iadd, 1) := by decide +kernel
theorem dX0_addLine_43 : decode cX0_addLine 43 = .ok (.putfield 31, 3) := by decide +kernel
theorem dX0_addLine_46 : decode cX0_addLine 46 = .ok (.return_, 1) := by decide +kernel
theorem dX0_addScribe_0 : decode cX0_addScribe 0 = .ok (.aload_n 0, 1) := by decide +kernel
theorem dX0_addScribe_1 : decode cX0_addScribe 1 = .ok (.getfield 34, 3) := by decide +kernel
theorem dX0_addScribe_4 : decode cX0_addScribe 4 = .ok (.ifCond .lt 42, 3) := by decide +kernel
theorem dX0_addScribe_7 : decode cX0_addScribe 7 = .ok (.aload_n 0, 1) := by decide +kernel
theorem dX0_addScribe_8 : decode cX0_addScribe 8 = .ok (.getfield 34, 3) := by decide +kernel
theorem dX0_addScribe_11 : decode cX0_addScribe 11 = .ok (.bipush 6, 2) := by decide +kernel
theorem dX0_addScribe_13 : decode cX0_addScribe 13 = .ok (.if_icmp .ge 33, 3) := by decide +kernel
theorem dX0_addScribe_16 : decode cX0_addScribe 16 = .ok (.aload_n 0, 1) := by decide +kernel
theorem dX0_addScribe_17 : decode cX0_addScribe 17 = .ok (.getfield 21, 3) := by decide +kernel
theorem dX0_addScribe_20 : decode cX0_addScribe 20 = .ok (.aload_n 0, 1) := by decide +kernel
theorem dX0_addScribe_21 : decode cX0_addScribe 21 = .ok (.getfield 34, 3) := by decide +kernel
theorem dX0_addScribe_24 : decode cX0_addScribe 24 = .ok (.iload_n 1, 1) := by decide +kernel
theorem dX0_addScribe_25 : decode cX0_addScribe 25 = .ok (.iastore, 1) := by decide +kernel
theorem dX0_addScribe_26 : decode cX0_addScribe 26 = .ok (.aload_n 0, 1) := by decide +kernel
theorem dX0_addScribe_27 : decode cX0_addScribe 27 = .ok (.getfield 25, 3) := by decide +kernel
theorem dX0_addScribe_30 : decode cX0_addScribe 30 = .ok (.aload_n 0, 1) := by decide +kernel
theorem dX0_addScribe_31 : decode cX0_addScribe 31 = .ok (.getfield 34, 3) := by decide +kernel
theorem dX0_addScribe_34 : decode cX0_addScribe 34 = .ok (.iload_n 2, 1) := by decide +kernel
theorem dX0_addScribe_35 : decode cX0_addScribe 35 = .ok (.iastore, 1) := by decide +kernel
theorem dX0_addScribe_36 : decode cX0_addScribe 36 = .ok (.aload_n 0, 1) := by decide +kernel
theorem dX0_addScribe_37 : decode cX0_addScribe 37 = .ok (.dup, 1) := by decide +kernel
theorem dX0_addScribe_38 : decode cX0_addScribe 38 = .ok (.getfield 34, 3) := by decide +kernel
theorem dX0_addScribe_41 : decode cX0_addScribe 41 = .ok (.iconst 1, 1) := by decide +kernel
theorem dX0_addScribe_42 : decode cX0_addScribe 42 = .ok (.iadd, 1) := by decide +kernel
theorem dX0_addScribe_43 : decode cX0_addScribe 43 = .ok (.putfield 34, 3) := by decide +kernel
theorem dX0_addScribe_46 : decode cX0_addScribe 46 = .ok (.return_, 1) := by decide +kernel
theorem dX0_hasOpinion_0 : decode cX0_hasOpinion 0 = .ok (.iload_n 1, 1) := by decide +kernel
theorem dX0_hasOpinion_1 : decode cX0_hasOpinion 1 = .ok (.ifCond .lt 15, 3) := by decide +kernel
theorem dX0_hasOpinion_4 : decode cX0_hasOpinion 4 = .ok (.iload_n 1, 1) := by decide +kernel
theorem dX0_hasOpinion_5 : decode cX0_hasOpinion 5 = .ok (.aload_n 0, 1) := by decide +kernel
theorem dX0_hasOpinion_6 : decode cX0_hasOpinion 6 = .ok (.getfield 9, 3) := by decide +kernel
theorem dX0_hasOpinion_9 : decode cX0_hasOpinion 9 = .ok (.if_icmp .ge 7, 3) := by decide +kernel
theorem dX0_hasOpinion_12 : decode cX0_hasOpinion 12 = .ok (.iconst 1, 1) := by decide +kernel
theorem dX0_hasOpinion_13 : decode cX0_hasOpinion 13 = .ok (.goto 4, 3) := by decide +kernel
theorem dX0_hasOpinion_16 : decode cX0_hasOpinion 16 = .ok (.iconst 0, 1) := by decide +kernel
theorem dX0_hasOpinion_17 : decode cX0_hasOpinion 17 = .ok (.ireturn, 1) := by decide +kernel
theorem dX0_hasLine_0 : decode cX0_hasLine 0 = .ok (.iload_n 1, 1) := by decide +kernel
theorem dX0_hasLine_1 : decode cX0_hasLine 1 = .ok (.ifCond .lt 15, 3) := by decide +kernel
theorem dX0_hasLine_4 : decode cX0_hasLine 4 = .ok (.iload_n 1, 1) := by decide +kernel
theorem dX0_hasLine_5 : decode cX0_hasLine 5 = .ok (.aload_n 0, 1) := by decide +kernel
theorem dX0_hasLine_6 : decode cX0_hasLine 6 = .ok (.getfield 28, 3) := by decide +kernel
theorem dX0_hasLine_9 : decode cX0_hasLine 9 = .ok (.if_icmp .ge 7, 3) := by decide +kernel
theorem dX0_hasLine_12 : decode cX0_hasLine 12 = .ok (.iconst 1, 1) := by decide +kernel
theorem dX0_hasLine_13 : decode cX0_hasLine 13 = .ok (.goto 4, 3) := by decide +kernel
theorem dX0_hasLine_16 : decode cX0_hasLine 16 = .ok (.iconst 0, 1) := by decide +kernel
theorem dX0_hasLine_17 : decode cX0_hasLine 17 = .ok (.ireturn, 1) := by decide +kernel
theorem dX0_hasScribe_0 : decode cX0_hasScribe 0 = .ok (.iload_n 1, 1) := by decide +kernel
theorem dX0_hasScribe_1 : decode cX0_hasScribe 1 = .ok (.ifCond .lt 21, 3) := by decide +kernel
theorem dX0_hasScribe_4 : decode cX0_hasScribe 4 = .ok (.iload_n 1, 1) := by decide +kernel
theorem dX0_hasScribe_5 : decode cX0_hasScribe 5 = .ok (.aload_n 0, 1) := by decide +kernel
theorem dX0_hasScribe_6 : decode cX0_hasScribe 6 = .ok (.getfield 34, 3) := by decide +kernel
theorem dX0_hasScribe_9 : decode cX0_hasScribe 9 = .ok (.if_icmp .ge 13, 3) := by decide +kernel
theorem dX0_hasScribe_12 : decode cX0_hasScribe 12 = .ok (.iload_n 1, 1) := by decide +kernel
theorem dX0_hasScribe_13 : decode cX0_hasScribe 13 = .ok (.bipush 6, 2) := by decide +kernel
theorem dX0_hasScribe_15 : decode cX0_hasScribe 15 = .ok (.if_icmp .ge 7, 3) := by decide +kernel
theorem dX0_hasScribe_18 : decode cX0_hasScribe 18 = .ok (.iconst 1, 1) := by decide +kernel
theorem dX0_hasScribe_19 : decode cX0_hasScribe 19 = .ok (.goto 4, 3) := by decide +kernel
theorem dX0_hasScribe_22 : decode cX0_hasScribe 22 = .ok (.iconst 0, 1) := by decide +kernel
theorem dX0_hasScribe_23 : decode cX0_hasScribe 23 = .ok (.ireturn, 1) := by decide +kernel
theorem dX0_allScribes_0 : decode cX0_allScribes 0 = .ok (.iconst 1, 1) := by decide +kernel
theorem dX0_allScribes_1 : decode cX0_allScribes 1 = .ok (.aload_n 0, 1) := by decide +kernel
theorem dX0_allScribes_2 : decode cX0_allScribes 2 = .ok (.getfield 34, 3) := by decide +kernel
theorem dX0_allScribes_5 : decode cX0_allScribes 5 = .ok (.ishl, 1) := by decide +kernel
theorem dX0_allScribes_6 : decode cX0_allScribes 6 = .ok (.iconst 1, 1) := by decide +kernel
theorem dX0_allScribes_7 : decode cX0_allScribes 7 = .ok (.isub, 1) := by decide +kernel
theorem dX0_allScribes_8 : decode cX0_allScribes 8 = .ok (.ireturn, 1) := by decide +kernel
theorem dX0_turnOf_0 : decode cX0_turnOf 0 = .ok (.aload_n 0, 1) := by decide +kernel
theorem dX0_turnOf_1 : decode cX0_turnOf 1 = .ok (.iload_n 1, 1) := by decide +kernel
theorem dX0_turnOf_2 : decode cX0_turnOf 2 = .ok (.invokevirtual 37, 3) := by decide +kernel
theorem dX0_turnOf_5 : decode cX0_turnOf 5 = .ok (.ifCond .eq 12, 3) := by decide +kernel
theorem dX0_turnOf_8 : decode cX0_turnOf 8 = .ok (.aload_n 0, 1) := by decide +kernel
theorem dX0_turnOf_9 : decode cX0_turnOf 9 = .ok (.getfield 21, 3) := by decide +kernel
theorem dX0_turnOf_12 : decode cX0_turnOf 12 = .ok (.iload_n 1, 1) := by decide +kernel
theorem dX0_turnOf_13 : decode cX0_turnOf 13 = .ok (.iaload, 1) := by decide +kernel
theorem dX0_turnOf_14 : decode cX0_turnOf 14 = .ok (.goto 4, 3) := by decide +kernel
theorem dX0_turnOf_17 : decode cX0_turnOf 17 = .ok (.iconst 0, 1) := by decide +kernel
theorem dX0_turnOf_18 : decode cX0_turnOf 18 = .ok (.ireturn, 1) := by decide +kernel
theorem dX0_bentOf_0 : decode cX0_bentOf 0 = .ok (.aload_n 0, 1) := by decide +kernel
theorem dX0_bentOf_1 : decode cX0_bentOf 1 = .ok (.iload_n 1, 1) := by decide +kernel
theorem dX0_bentOf_2 : decode cX0_bentOf 2 = .ok (.invokevirtual 37, 3) := by decide +kernel
theorem dX0_bentOf_5 : decode cX0_bentOf 5 = .ok (.ifCond .eq 12, 3) := by decide +kernel
theorem dX0_bentOf_8 : decode cX0_bentOf 8 = .ok (.aload_n 0, 1) := by decide +kernel
theorem dX0_bentOf_9 : decode cX0_bentOf 9 = .ok (.getfield 25, 3) := by decide +kernel
theorem dX0_bentOf_12 : decode cX0_bentOf 12 = .ok (.iload_n 1, 1) := by decide +kernel
theorem dX0_bentOf_13 : decode cX0_bentOf 13 = .ok (.iaload, 1) := by decide +kernel
theorem dX0_bentOf_14 : decode cX0_bentOf 14 = .ok (.goto 4, 3) := by decide +kernel
theorem dX0_bentOf_17 : decode cX0_bentOf 17 = .ok (.iconst 0, 1) := by decide +kernel
theorem dX0_bentOf_18 : decode cX0_bentOf 18 = .ok (.ireturn, 1) := by decide +kernel
theorem dX0_saidBy_0 : decode cX0_saidBy 0 = .ok (.aload_n 0, 1) := by decide +kernel
theorem dX0_saidBy_1 : decode cX0_saidBy 1 = .ok (.iload_n 1, 1) := by decide +kernel
theorem dX0_saidBy_2 : decode cX0_saidBy 2 = .ok (.invokevirtual 41, 3) := by decide +kernel
theorem dX0_saidBy_5 : decode cX0_saidBy 5 = .ok (.aload_n 0, 1) := by decide +kernel
theorem dX0_saidBy_6 : decode cX0_saidBy 6 = .ok (.iload_n 1, 1) := by decide +kernel
theorem dX0_saidBy_7 : decode cX0_saidBy 7 = .ok (.invokevirtual 45, 3) := by decide +kernel
theorem dX0_saidBy_10 : decode cX0_saidBy 10 = .ok (.iload_n 2, 1) := by decide +kernel
theorem dX0_saidBy_11 : decode cX0_saidBy 11 = .ok (.aload_n 0, 1) := by decide +kernel
theorem dX0_saidBy_12 : decode cX0_saidBy 12 = .ok (.getfield 9, 3) := by decide +kernel
theorem dX0_saidBy_15 : decode cX0_saidBy 15 = .ok (.invokestatic 48, 3) := by decide +kernel
theorem dX0_saidBy_18 : decode cX0_saidBy 18 = .ok (.ireturn, 1) := by decide +kernel
theorem dX0_weightOf_0 : decode cX0_weightOf 0 = .ok (.iconst 1, 1) := by decide +kernel
theorem dX0_weightOf_1 : decode cX0_weightOf 1 = .ok (.istore_n 2, 1) := by decide +kernel
theorem dX0_weightOf_2 : decode cX0_weightOf 2 = .ok (.iload_n 1, 1) := by decide +kernel
theorem dX0_weightOf_3 : decode cX0_weightOf 3 = .ok (.iconst 1, 1) := by decide +kernel
theorem dX0_weightOf_4 : decode cX0_weightOf 4 = .ok (.iadd, 1) := by decide +kernel
theorem dX0_weightOf_5 : decode cX0_weightOf 5 = .ok (.istore_n 3, 1) := by decide +kernel
theorem dX0_weightOf_6 : decode cX0_weightOf 6 = .ok (.iload_n 3, 1) := by decide +kernel
theorem dX0_weightOf_7 : decode cX0_weightOf 7 = .ok (.aload_n 0, 1) := by decide +kernel
theorem dX0_weightOf_8 : decode cX0_weightOf 8 = .ok (.getfield 28, 3) := by decide +kernel
theorem dX0_weightOf_11 : decode cX0_weightOf 11 = .ok (.if_icmp .ge 16, 3) := by decide +kernel
theorem dX0_weightOf_14 : decode cX0_weightOf 14 = .ok (.iload_n 2, 1) := by decide +kernel
theorem dX0_weightOf_15 : decode cX0_weightOf 15 = .ok (.aload_n 0, 1) := by decide +kernel
theorem dX0_weightOf_16 : decode cX0_weightOf 16 = .ok (.getfield 9, 3) := by decide +kernel
theorem dX0_weightOf_19 : decode cX0_weightOf 19 = .ok (.imul, 1) := by decide +kernel
theorem dX0_weightOf_20 : decode cX0_weightOf 20 = .ok (.istore_n 2, 1) := by decide +kernel
theorem dX0_weightOf_21 : decode cX0_weightOf 21 = .ok (.iinc 3 1, 3) := by decide +kernel
theorem dX0_weightOf_24 : decode cX0_weightOf 24 = .ok (.goto (-18), 3) := by decide +kernel
theorem dX0_weightOf_27 : decode cX0_weightOf 27 = .ok (.iload_n 2, 1) := by decide +kernel
theorem dX0_weightOf_28 : decode cX0_weightOf 28 = .ok (.ireturn, 1) := by decide +kernel
theorem dX0_lineOf_0 : decode cX0_lineOf 0 = .ok (.aload_n 0, 1) := by decide +kernel
theorem dX0_lineOf_1 : decode cX0_lineOf 1 = .ok (.iload_n 2, 1) := by decide +kernel
theorem dX0_lineOf_2 : decode cX0_lineOf 2 = .ok (.invokevirtual 52, 3) := by decide +kernel
theorem dX0_lineOf_5 : decode cX0_lineOf 5 = .ok (.istore_n 3, 1) := by decide +kernel
theorem dX0_lineOf_6 : decode cX0_lineOf 6 = .ok (.iload_n 3, 1) := by decide +kernel
theorem dX0_lineOf_7 : decode cX0_lineOf 7 = .ok (.iconst 1, 1) := by decide +kernel
theorem dX0_lineOf_8 : decode cX0_lineOf 8 = .ok (.if_icmp .lt 11, 3) := by decide +kernel
theorem dX0_lineOf_11 : decode cX0_lineOf 11 = .ok (.aload_n 0, 1) := by decide +kernel
theorem dX0_lineOf_12 : decode cX0_lineOf 12 = .ok (.getfield 9, 3) := by decide +kernel
theorem dX0_lineOf_15 : decode cX0_lineOf 15 = .ok (.iconst 1, 1) := by decide +kernel
theorem dX0_lineOf_16 : decode cX0_lineOf 16 = .ok (.if_icmp .ge 7, 3) := by decide +kernel
theorem dX0_lineOf_19 : decode cX0_lineOf 19 = .ok (.iconst 0, 1) := by decide +kernel
theorem dX0_lineOf_20 : decode cX0_lineOf 20 = .ok (.goto 11, 3) := by decide +kernel
theorem dX0_lineOf_23 : decode cX0_lineOf 23 = .ok (.iload_n 1, 1) := by decide +kernel
theorem dX0_lineOf_24 : decode cX0_lineOf 24 = .ok (.iload_n 3, 1) := by decide +kernel
theorem dX0_lineOf_25 : decode cX0_lineOf 25 = .ok (.idiv, 1) := by decide +kernel
theorem dX0_lineOf_26 : decode cX0_lineOf 26 = .ok (.aload_n 0, 1) := by decide +kernel
theorem dX0_lineOf_27 : decode cX0_lineOf 27 = .ok (.getfield 9, 3) := by decide +kernel
theorem dX0_lineOf_30 : decode cX0_lineOf 30 = .ok (.irem, 1) := by decide +kernel
theorem dX0_lineOf_31 : decode cX0_lineOf 31 = .ok (.ireturn, 1) := by decide +kernel
theorem dX0_withLine_0 : decode cX0_withLine 0 = .ok (.iload_n 1, 1) := by decide +kernel
theorem dX0_withLine_1 : decode cX0_withLine 1 = .ok (.iload_n 3, 1) := by decide +kernel
theorem dX0_withLine_2 : decode cX0_withLine 2 = .ok (.aload_n 0, 1) := by decide +kernel
theorem dX0_withLine_3 : decode cX0_withLine 3 = .ok (.iload_n 1, 1) := by decide +kernel
theorem dX0_withLine_4 : decode cX0_withLine 4 = .ok (.iload_n 2, 1) := by decide +kernel
theorem dX0_withLine_5 : decode cX0_withLine 5 = .ok (.invokevirtual 55, 3) := by decide +kernel
theorem dX0_withLine_8 : decode cX0_withLine 8 = .ok (.isub, 1) := by decide +kernel
theorem dX0_withLine_9 : decode cX0_withLine 9 = .ok (.aload_n 0, 1) := by decide +kernel
theorem dX0_withLine_10 : decode cX0_withLine 10 = .ok (.iload_n 2, 1) := by decide +kernel
theorem dX0_withLine_11 : decode cX0_withLine 11 = .ok (.invokevirtual 52, 3) := by decide +kernel
theorem dX0_withLine_14 : decode cX0_withLine 14 = .ok (.imul, 1) := by decide +kernel
theorem dX0_withLine_15 : decode cX0_withLine 15 = .ok (.iadd, 1) := by decide +kernel
theorem dX0_withLine_16 : decode cX0_withLine 16 = .ok (.ireturn, 1) := by decide +kernel
theorem dX0_becomes_0 : decode cX0_becomes 0 = .ok (.iconst 0, 1) := by decide +kernel
theorem dX0_becomes_1 : decode cX0_becomes 1 = .ok (.istore_n 3, 1) := by decide +kernel
theorem dX0_becomes_2 : decode cX0_becomes 2 = .ok (.iload_n 2, 1) := by decide +kernel
theorem dX0_becomes_3 : decode cX0_becomes 3 = .ok (.istore 4, 2) := by decide +kernel
theorem dX0_becomes_5 : decode cX0_becomes 5 = .ok (.iconst 1, 1) := by decide +kernel
theorem dX0_becomes_6 : decode cX0_becomes 6 = .ok (.istore 5, 2) := by decide +kernel
theorem dX0_becomes_8 : decode cX0_becomes 8 = .ok (.aload_n 0, 1) := by decide +kernel
theorem dX0_becomes_9 : decode cX0_becomes 9 = .ok (.getfield 28, 3) := by decide +kernel
theorem dX0_becomes_12 : decode cX0_becomes 12 = .ok (.iconst 1, 1) := by decide +kernel
theorem dX0_becomes_13 : decode cX0_becomes 13 = .ok (.isub, 1) := by decide +kernel
theorem dX0_becomes_14 : decode cX0_becomes 14 = .ok (.istore 6, 2) := by decide +kernel
theorem dX0_becomes_16 : decode cX0_becomes 16 = .ok (.iload 6, 2) := by decide +kernel
theorem dX0_becomes_18 : decode cX0_becomes 18 = .ok (.ifCond .lt 52, 3) := by decide +kernel
theorem dX0_becomes_21 : decode cX0_becomes 21 = .ok (.aload_n 0, 1) := by decide +kernel
theorem dX0_becomes_22 : decode cX0_becomes 22 = .ok (.getfield 9, 3) := by decide +kernel
theorem dX0_becomes_25 : decode cX0_becomes 25 = .ok (.ifCond .le 45, 3) := by decide +kernel
theorem dX0_becomes_28 : decode cX0_becomes 28 = .ok (.iload_n 3, 1) := by decide +kernel
theorem dX0_becomes_29 : decode cX0_becomes 29 = .ok (.iload 5, 2) := by decide +kernel
theorem dX0_becomes_31 : decode cX0_becomes 31 = .ok (.aload_n 0, 1) := by decide +kernel
theorem dX0_becomes_32 : decode cX0_becomes 32 = .ok (.iload_n 1, 1) := by decide +kernel
theorem dX0_becomes_33 : decode cX0_becomes 33 = .ok (.iload 4, 2) := by decide +kernel
theorem dX0_becomes_35 : decode cX0_becomes 35 = .ok (.aload_n 0, 1) := by decide +kernel
theorem dX0_becomes_36 : decode cX0_becomes 36 = .ok (.getfield 9, 3) := by decide +kernel
theorem dX0_becomes_39 : decode cX0_becomes 39 = .ok (.irem, 1) := by decide +kernel
theorem dX0_becomes_40 : decode cX0_becomes 40 = .ok (.invokevirtual 59, 3) := by decide +kernel
theorem dX0_becomes_43 : decode cX0_becomes 43 = .ok (.imul, 1) := by decide +kernel
theorem dX0_becomes_44 : decode cX0_becomes 44 = .ok (.iadd, 1) := by decide +kernel
theorem dX0_becomes_45 : decode cX0_becomes 45 = .ok (.istore_n 3, 1) := by decide +kernel
theorem dX0_becomes_46 : decode cX0_becomes 46 = .ok (.iload 4, 2) := by decide +kernel
theorem dX0_becomes_48 : decode cX0_becomes 48 = .ok (.aload_n 0, 1) := by decide +kernel
theorem dX0_becomes_49 : decode cX0_becomes 49 = .ok (.getfield 9, 3) := by decide +kernel
theorem dX0_becomes_52 : decode cX0_becomes 52 = .ok (.idiv, 1) := by decide +kernel
theorem dX0_becomes_53 : decode cX0_becomes 53 = .ok (.istore 4, 2) := by decide +kernel
theorem dX0_becomes_55 : decode cX0_becomes 55 = .ok (.iload 5, 2) := by decide +kernel
theorem dX0_becomes_57 : decode cX0_becomes 57 = .ok (.aload_n 0, 1) := by decide +kernel
theorem dX0_becomes_58 : decode cX0_becomes 58 = .ok (.getfield 9, 3) := by decide +kernel
theorem dX0_becomes_61 : decode cX0_becomes 61 = .ok (.imul, 1) := by decide +kernel
theorem dX0_becomes_62 : decode cX0_becomes 62 = .ok (.istore 5, 2) := by decide +kernel
theorem dX0_becomes_64 : decode cX0_becomes 64 = .ok (.iinc 6 (-1), 3) := by decide +kernel
theorem dX0_becomes_67 : decode cX0_becomes 67 = .ok (.goto (-51), 3) := by decide +kernel
theorem dX0_becomes_70 : decode cX0_becomes 70 = .ok (.iload_n 3, 1) := by decide +kernel
theorem dX0_becomes_71 : decode cX0_becomes 71 = .ok (.ireturn, 1) := by decide +kernel
theorem dX0_unlikeLines_0 : decode cX0_unlikeLines 0 = .ok (.iconst 0, 1) := by decide +kernel
theorem dX0_unlikeLines_1 : decode cX0_unlikeLines 1 = .ok (.istore_n 3, 1) := by decide +kernel
theorem dX0_unlikeLines_2 : decode cX0_unlikeLines 2 = .ok (.iload_n 2, 1) := by decide +kernel
theorem dX0_unlikeLines_3 : decode cX0_unlikeLines 3 = .ok (.istore 4, 2) := by decide +kernel
theorem dX0_unlikeLines_5 : decode cX0_unlikeLines 5 = .ok (.aload_n 0, 1) := by decide +kernel
theorem dX0_unlikeLines_6 : decode cX0_unlikeLines 6 = .ok (.getfield 28, 3) := by decide +kernel
theorem dX0_unlikeLines_9 : decode cX0_unlikeLines 9 = .ok (.iconst 1, 1) := by decide +kernel
theorem dX0_unlikeLines_10 : decode cX0_unlikeLines 10 = .ok (.isub, 1) := by decide +kernel
theorem dX0_unlikeLines_11 : decode cX0_unlikeLines 11 = .ok (.istore 5, 2) := by decide +kernel
theorem dX0_unlikeLines_13 : decode cX0_unlikeLines 13 = .ok (.iload 5, 2) := by decide +kernel
theorem dX0_unlikeLines_15 : decode cX0_unlikeLines 15 = .ok (.ifCond .lt 53, 3) := by decide +kernel
theorem dX0_unlikeLines_18 : decode cX0_unlikeLines 18 = .ok (.aload_n 0, 1) := by decide +kernel
theorem dX0_unlikeLines_19 : decode cX0_unlikeLines 19 = .ok (.getfield 9, 3) := by decide +kernel
theorem dX0_unlikeLines_22 : decode cX0_unlikeLines 22 = .ok (.ifCond .le 46, 3) := by decide +kernel
theorem dX0_unlikeLines_25 : decode cX0_unlikeLines 25 = .ok (.iload 4, 2) := by decide +kernel
theorem dX0_unlikeLines_27 : decode cX0_unlikeLines 27 = .ok (.aload_n 0, 1) := by decide +kernel
theorem dX0_unlikeLines_28 : decode cX0_unlikeLines 28 = .ok (.getfield 9, 3) := by decide +kernel
theorem dX0_unlikeLines_31 : decode cX0_unlikeLines 31 = .ok (.irem, 1) := by decide +kernel
theorem dX0_unlikeLines_32 : decode cX0_unlikeLines 32 = .ok (.istore 6, 2) := by decide +kernel
theorem dX0_unlikeLines_34 : decode cX0_unlikeLines 34 = .ok (.aload_n 0, 1) := by decide +kernel
theorem dX0_unlikeLines_35 : decode cX0_unlikeLines 35 = .ok (.iload_n 1, 1) := by decide +kernel
theorem dX0_unlikeLines_36 : decode cX0_unlikeLines 36 = .ok (.iload 6, 2) := by decide +kernel
theorem dX0_unlikeLines_38 : decode cX0_unlikeLines 38 = .ok (.invokevirtual 59, 3) := by decide +kernel
theorem dX0_unlikeLines_41 : decode cX0_unlikeLines 41 = .ok (.iload 6, 2) := by decide +kernel
theorem dX0_unlikeLines_43 : decode cX0_unlikeLines 43 = .ok (.if_icmp .eq 10, 3) := by decide +kernel
theorem dX0_unlikeLines_46 : decode cX0_unlikeLines 46 = .ok (.iload_n 3, 1) := by decide +kernel
theorem dX0_unlikeLines_47 : decode cX0_unlikeLines 47 = .ok (.iconst 1, 1) := by decide +kernel
theorem dX0_unlikeLines_48 : decode cX0_unlikeLines 48 = .ok (.iload 5, 2) := by decide +kernel
theorem dX0_unlikeLines_50 : decode cX0_unlikeLines 50 = .ok (.ishl, 1) := by decide +kernel
theorem dX0_unlikeLines_51 : decode cX0_unlikeLines 51 = .ok (.ior, 1) := by decide +kernel
theorem dX0_unlikeLines_52 : decode cX0_unlikeLines 52 = .ok (.istore_n 3, 1) := by decide +kernel
theorem dX0_unlikeLines_53 : decode cX0_unlikeLines 53 = .ok (.iload 4, 2) := by decide +kernel
theorem dX0_unlikeLines_55 : decode cX0_unlikeLines 55 = .ok (.aload_n 0, 1) := by decide +kernel
theorem dX0_unlikeLines_56 : decode cX0_unlikeLines 56 = .ok (.getfield 9, 3) := by decide +kernel
theorem dX0_unlikeLines_59 : decode cX0_unlikeLines 59 = .ok (.idiv, 1) := by decide +kernel
theorem dX0_unlikeLines_60 : decode cX0_unlikeLines 60 = .ok (.istore 4, 2) := by decide +kernel
theorem dX0_unlikeLines_62 : decode cX0_unlikeLines 62 = .ok (.iinc 5 (-1), 3) := by decide +kernel
theorem dX0_unlikeLines_65 : decode cX0_unlikeLines 65 = .ok (.goto (-52), 3) := by decide +kernel
theorem dX0_unlikeLines_68 : decode cX0_unlikeLines 68 = .ok (.iload_n 3, 1) := by decide +kernel
theorem dX0_unlikeLines_69 : decode cX0_unlikeLines 69 = .ok (.ireturn, 1) := by decide +kernel
theorem dX0_isConvinced_0 : decode cX0_isConvinced 0 = .ok (.aload_n 0, 1) := by decide +kernel
theorem dX0_isConvinced_1 : decode cX0_isConvinced 1 = .ok (.iload_n 1, 1) := by decide +kernel
theorem dX0_isConvinced_2 : decode cX0_isConvinced 2 = .ok (.iload_n 2, 1) := by decide +kernel
theorem dX0_isConvinced_3 : decode cX0_isConvinced 3 = .ok (.invokevirtual 62, 3) := by decide +kernel
theorem dX0_isConvinced_6 : decode cX0_isConvinced 6 = .ok (.invokestatic 65, 3) := by decide +kernel
theorem dX0_isConvinced_9 : decode cX0_isConvinced 9 = .ok (.aload_n 0, 1) := by decide +kernel
theorem dX0_isConvinced_10 : decode cX0_isConvinced 10 = .ok (.getfield 18, 3) := by decide +kernel
theorem dX0_isConvinced_13 : decode cX0_isConvinced 13 = .ok (.if_icmp .ge 7, 3) := by decide +kernel
theorem dX0_isConvinced_16 : decode cX0_isConvinced 16 = .ok (.iconst 1, 1) := by decide +kernel
theorem dX0_isConvinced_17 : decode cX0_isConvinced 17 = .ok (.goto 4, 3) := by decide +kernel
theorem dX0_isConvinced_20 : decode cX0_isConvinced 20 = .ok (.iconst 0, 1) := by decide +kernel
theorem dX0_isConvinced_21 : decode cX0_isConvinced 21 = .ok (.ireturn, 1) := by decide +kernel
theorem dX0_comesRound_0 : decode cX0_comesRound 0 = .ok (.iload_n 2, 1) := by decide +kernel
theorem dX0_comesRound_1 : decode cX0_comesRound 1 = .ok (.istore_n 3, 1) := by decide +kernel
theorem dX0_comesRound_2 : decode cX0_comesRound 2 = .ok (.iconst 1, 1) := by decide +kernel
theorem dX0_comesRound_3 : decode cX0_comesRound 3 = .ok (.istore 4, 2) := by decide +kernel
theorem dX0_comesRound_5 : decode cX0_comesRound 5 = .ok (.iload 4, 2) := by decide +kernel
theorem dX0_comesRound_7 : decode cX0_comesRound 7 = .ok (.aload_n 0, 1) := by decide +kernel
theorem dX0_comesRound_8 : decode cX0_comesRound 8 = .ok (.getfield 15, 3) := by decide +kernel
theorem dX0_comesRound_11 : decode cX0_comesRound 11 = .ok (.if_icmp .gt 24, 3) := by decide +kernel
theorem dX0_comesRound_14 : decode cX0_comesRound 14 = .ok (.aload_n 0, 1) := by decide +kernel
theorem dX0_comesRound_15 : decode cX0_comesRound 15 = .ok (.iload_n 1, 1) := by decide +kernel
theorem dX0_comesRound_16 : decode cX0_comesRound 16 = .ok (.iload_n 3, 1) := by decide +kernel
theorem dX0_comesRound_17 : decode cX0_comesRound 17 = .ok (.invokevirtual 70, 3) := by decide +kernel
theorem dX0_comesRound_20 : decode cX0_comesRound 20 = .ok (.istore_n 3, 1) := by decide +kernel
theorem dX0_comesRound_21 : decode cX0_comesRound 21 = .ok (.iload_n 3, 1) := by decide +kernel
theorem dX0_comesRound_22 : decode cX0_comesRound 22 = .ok (.iload_n 2, 1) := by decide +kernel
theorem dX0_comesRound_23 : decode cX0_comesRound 23 = .ok (.if_icmp .ne 6, 3) := by decide +kernel
theorem dX0_comesRound_26 : decode cX0_comesRound 26 = .ok (.iload 4, 2) := by decide +kernel
theorem dX0_comesRound_28 : decode cX0_comesRound 28 = .ok (.ireturn, 1) := by decide +kernel
theorem dX0_comesRound_29 : decode cX0_comesRound 29 = .ok (.iinc 4 1, 3) := by decide +kernel
theorem dX0_comesRound_32 : decode cX0_comesRound 32 = .ok (.goto (-27), 3) := by decide +kernel
theorem dX0_comesRound_35 : decode cX0_comesRound 35 = .ok (.bipush (-9), 2) := by decide +kernel
theorem dX0_comesRound_37 : decode cX0_comesRound 37 = .ok (.ireturn, 1) := by decide +kernel
theorem dX0_said_0 : decode cX0_said 0 = .ok (.iload_n 3, 1) := by decide +kernel
theorem dX0_said_1 : decode cX0_said 1 = .ok (.iconst 1, 1) := by decide +kernel
theorem dX0_said_2 : decode cX0_said 2 = .ok (.if_icmp .ge 7, 3) := by decide +kernel
theorem dX0_said_5 : decode cX0_said 5 = .ok (.iconst 0, 1) := by decide +kernel
theorem dX0_said_6 : decode cX0_said 6 = .ok (.goto 10, 3) := by decide +kernel
theorem dX0_said_9 : decode cX0_said 9 = .ok (.iload_n 0, 1) := by decide +kernel
theorem dX0_said_10 : decode cX0_said 10 = .ok (.iload_n 2, 1) := by decide +kernel
theorem dX0_said_11 : decode cX0_said 11 = .ok (.imul, 1) := by decide +kernel
theorem dX0_said_12 : decode cX0_said 12 = .ok (.iload_n 1, 1) := by decide +kernel
theorem dX0_said_13 : decode cX0_said 13 = .ok (.iadd, 1) := by decide +kernel
theorem dX0_said_14 : decode cX0_said 14 = .ok (.iload_n 3, 1) := by decide +kernel
theorem dX0_said_15 : decode cX0_said 15 = .ok (.irem, 1) := by decide +kernel
theorem dX0_said_16 : decode cX0_said 16 = .ok (.ireturn, 1) := by decide +kernel
theorem dX1_init_0 : decode cX1_init 0 = .ok (.aload_n 0, 1) := by decide +kernel
theorem dX1_init_1 : decode cX1_init 1 = .ok (.invokespecial 3, 3) := by decide +kernel
theorem dX1_init_4 : decode cX1_init 4 = .ok (.aload_n 0, 1) := by decide +kernel
theorem dX1_init_5 : decode cX1_init 5 = .ok (.sipush 3750, 3) := by decide +kernel
theorem dX1_init_8 : decode cX1_init 8 = .ok (.newarray .int, 2) := by decide +kernel
theorem dX1_init_10 : decode cX1_init 10 = .ok (.putfield 9, 3) := by decide +kernel
theorem dX1_init_13 : decode cX1_init 13 = .ok (.aload_n 0, 1) := by decide +kernel
theorem dX1_init_14 : decode cX1_init 14 = .ok (.iconst 1, 1) := by decide +kernel
theorem dX1_init_15 : decode cX1_init 15 = .ok (.putfield 15, 3) := by decide +kernel
theorem dX1_init_18 : decode cX1_init 18 = .ok (.return_, 1) := by decide +kernel
theorem dX1_learn_0 : decode cX1_learn 0 = .ok (.aload_n 0, 1) := by decide +kernel
theorem dX1_learn_1 : decode cX1_learn 1 = .ok (.aload_n 1, 1) := by decide +kernel
theorem dX1_learn_2 : decode cX1_learn 2 = .ok (.getfield 19, 3) := by decide +kernel
theorem dX1_learn_5 : decode cX1_learn 5 = .ok (.bipush 6, 2) := by decide +kernel
theorem dX1_learn_7 : decode cX1_learn 7 = .ok (.invokestatic 24, 3) := by decide +kernel
theorem dX1_learn_10 : decode cX1_learn 10 = .ok (.putfield 30, 3) := by decide +kernel
theorem dX1_learn_13 : decode cX1_learn 13 = .ok (.aload_n 0, 1) := by decide +kernel
theorem dX1_learn_14 : decode cX1_learn 14 = .ok (.aload_n 1, 1) := by decide +kernel
theorem dX1_learn_15 : decode cX1_learn 15 = .ok (.getfield 31, 3) := by decide +kernel
theorem dX1_learn_18 : decode cX1_learn 18 = .ok (.sipush 625, 3) := by decide +kernel
theorem dX1_learn_21 : decode cX1_learn 21 = .ok (.invokestatic 24, 3) := by decide +kernel
theorem dX1_learn_24 : decode cX1_learn 24 = .ok (.putfield 15, 3) := by decide +kernel
theorem dX1_learn_27 : decode cX1_learn 27 = .ok (.iconst 0, 1) := by decide +kernel
theorem dX1_learn_28 : decode cX1_learn 28 = .ok (.istore_n 2, 1) := by decide +kernel
theorem dX1_learn_29 : decode cX1_learn 29 = .ok (.iload_n 2, 1) := by decide +kernel
theorem dX1_learn_30 : decode cX1_learn 30 = .ok (.aload_n 0, 1) := by decide +kernel
theorem dX1_learn_31 : decode cX1_learn 31 = .ok (.getfield 30, 3) := by decide +kernel
theorem dX1_learn_34 : decode cX1_learn 34 = .ok (.if_icmp .ge 56, 3) := by decide +kernel
theorem dX1_learn_37 : decode cX1_learn 37 = .ok (.iconst 0, 1) := by decide +kernel
theorem dX1_learn_38 : decode cX1_learn 38 = .ok (.istore_n 3, 1) := by decide +kernel
theorem dX1_learn_39 : decode cX1_learn 39 = .ok (.iload_n 3, 1) := by decide +kernel
theorem dX1_learn_40 : decode cX1_learn 40 = .ok (.aload_n 0, 1) := by decide +kernel
theorem dX1_learn_41 : decode cX1_learn 41 = .ok (.getfield 15, 3) := by decide +kernel
theorem dX1_learn_44 : decode cX1_learn 44 = .ok (.if_icmp .ge 40, 3) := by decide +kernel
theorem dX1_learn_47 : decode cX1_learn 47 = .ok (.aload_n 0, 1) := by decide +kernel
theorem dX1_learn_48 : decode cX1_learn 48 = .ok (.getfield 9, 3) := by decide +kernel
theorem dX1_learn_51 : decode cX1_learn 51 = .ok (.iload_n 2, 1) := by decide +kernel
theorem dX1_learn_52 : decode cX1_learn 52 = .ok (.sipush 625, 3) := by decide +kernel
theorem dX1_learn_55 : decode cX1_learn 55 = .ok (.imul, 1) := by decide +kernel
theorem dX1_learn_56 : decode cX1_learn 56 = .ok (.iload_n 3, 1) := by decide +kernel
theorem dX1_learn_57 : decode cX1_learn 57 = .ok (.iadd, 1) := by decide +kernel
theorem dX1_learn_58 : decode cX1_learn 58 = .ok (.aload_n 1, 1) := by decide +kernel
theorem dX1_learn_59 : decode cX1_learn 59 = .ok (.iload_n 2, 1) := by decide +kernel
theorem dX1_learn_60 : decode cX1_learn 60 = .ok (.iload_n 3, 1) := by decide +kernel
theorem dX1_learn_61 : decode cX1_learn 61 = .ok (.invokevirtual 32, 3) := by decide +kernel
theorem dX1_learn_64 : decode cX1_learn 64 = .ok (.ifCond .eq 7, 3) := by decide +kernel
theorem dX1_learn_67 : decode cX1_learn 67 = .ok (.iconst (-1), 1) := by decide +kernel
theorem dX1_learn_68 : decode cX1_learn 68 = .ok (.goto 9, 3) := by decide +kernel
theorem dX1_learn_71 : decode cX1_learn 71 = .ok (.aload_n 1, 1) := by decide +kernel
theorem dX1_learn_72 : decode cX1_learn 72 = .ok (.iload_n 2, 1) := by decide +kernel
theorem dX1_learn_73 : decode cX1_learn 73 = .ok (.iload_n 3, 1) := by decide +kernel
theorem dX1_learn_74 : decode cX1_learn 74 = .ok (.invokevirtual 36, 3) := by decide +kernel
theorem dX1_learn_77 : decode cX1_learn 77 = .ok (.iastore, 1) := by decide +kernel
theorem dX1_learn_78 : decode cX1_learn 78 = .ok (.iinc 3 1, 3) := by decide +kernel
theorem dX1_learn_81 : decode cX1_learn 81 = .ok (.goto (-42), 3) := by decide +kernel
theorem dX1_learn_84 : decode cX1_learn 84 = .ok (.iinc 2 1, 3) := by decide +kernel
theorem dX1_learn_87 : decode cX1_learn 87 = .ok (.goto (-58), 3) := by decide +kernel
theorem dX1_learn_90 : decode cX1_learn 90 = .ok (.return_, 1) := by decide +kernel
theorem dX1_copyBy_0 : decode cX1_copyBy 0 = .ok (.iload_n 1, 1) := by decide +kernel
theorem dX1_copyBy_1 : decode cX1_copyBy 1 = .ok (.ifCond .lt 38, 3) := by decide +kernel
theorem dX1_copyBy_4 : decode cX1_copyBy 4 = .ok (.iload_n 1, 1) := by decide +kernel
theorem dX1_copyBy_5 : decode cX1_copyBy 5 = .ok (.aload_n 0, 1) := by decide +kernel
theorem dX1_copyBy_6 : decode cX1_copyBy 6 = .ok (.getfield 30, 3) := by decide +kernel
theorem dX1_copyBy_9 : decode cX1_copyBy 9 = .ok (.if_icmp .ge 30, 3) := by decide +kernel
theorem dX1_copyBy_12 : decode cX1_copyBy 12 = .ok (.iload_n 2, 1) := by decide +kernel
theorem dX1_copyBy_13 : decode cX1_copyBy 13 = .ok (.ifCond .lt 26, 3) := by decide +kernel
theorem dX1_copyBy_16 : decode cX1_copyBy 16 = .ok (.iload_n 2, 1) := by decide +kernel
theorem dX1_copyBy_17 : decode cX1_copyBy 17 = .ok (.aload_n 0, 1) := by decide +kernel
theorem dX1_copyBy_18 : decode cX1_copyBy 18 = .ok (.getfield 15, 3) := by decide +kernel
theorem dX1_copyBy_21 : decode cX1_copyBy 21 = .ok (.if_icmp .ge 18, 3) := by decide +kernel
theorem dX1_copyBy_24 : decode cX1_copyBy 24 = .ok (.aload_n 0, 1) := by decide +kernel
theorem dX1_copyBy_25 : decode cX1_copyBy 25 = .ok (.getfield 9, 3) := by decide +kernel
theorem dX1_copyBy_28 : decode cX1_copyBy 28 = .ok (.iload_n 1, 1) := by decide +kernel
theorem dX1_copyBy_29 : decode cX1_copyBy 29 = .ok (.sipush 625, 3) := by decide +kernel
theorem dX1_copyBy_32 : decode cX1_copyBy 32 = .ok (.imul, 1) := by decide +kernel
theorem dX1_copyBy_33 : decode cX1_copyBy 33 = .ok (.iload_n 2, 1) := by decide +kernel
theorem dX1_copyBy_34 : decode cX1_copyBy 34 = .ok (.iadd, 1) := by decide +kernel
theorem dX1_copyBy_35 : decode cX1_copyBy 35 = .ok (.iaload, 1) := by decide +kernel
theorem dX1_copyBy_36 : decode cX1_copyBy 36 = .ok (.goto 4, 3) := by decide +kernel
theorem dX1_copyBy_39 : decode cX1_copyBy 39 = .ok (.iconst (-1), 1) := by decide +kernel
theorem dX1_copyBy_40 : decode cX1_copyBy 40 = .ok (.ireturn, 1) := by decide +kernel
theorem dX2_init_0 : decode cX2_init 0 = .ok (.aload_n 0, 1) := by decide +kernel
theorem dX2_init_1 : decode cX2_init 1 = .ok (.invokespecial 3, 3) := by decide +kernel
theorem dX2_init_4 : decode cX2_init 4 = .ok (.aload_n 0, 1) := by decide +kernel
theorem dX2_init_5 : decode cX2_init 5 = .ok (.bipush 6, 2) := by decide +kernel
theorem dX2_init_7 : decode cX2_init 7 = .ok (.newarray .int, 2) := by decide +kernel
theorem dX2_init_9 : decode cX2_init 9 = .ok (.putfield 11, 3) := by decide +kernel
theorem dX2_init_12 : decode cX2_init 12 = .ok (.aload_n 0, 1) := by decide +kernel
theorem dX2_init_13 : decode cX2_init 13 = .ok (.bipush 6, 2) := by decide +kernel
theorem dX2_init_15 : decode cX2_init 15 = .ok (.newarray .int, 2) := by decide +kernel
theorem dX2_init_17 : decode cX2_init 17 = .ok (.putfield 15, 3) := by decide +kernel
theorem dX2_init_20 : decode cX2_init 20 = .ok (.return_, 1) := by decide +kernel
theorem dX2_add_0 : decode cX2_add 0 = .ok (.aload_n 0, 1) := by decide +kernel
theorem dX2_add_1 : decode cX2_add 1 = .ok (.getfield 18, 3) := by decide +kernel
theorem dX2_add_4 : decode cX2_add 4 = .ok (.ifCond .lt 12, 3) := by decide +kernel
theorem dX2_add_7 : decode cX2_add 7 = .ok (.aload_n 0, 1) := by decide +kernel
theorem dX2_add_8 : decode cX2_add 8 = .ok (.getfield 18, 3) := by decide +kernel
theorem dX2_add_11 : decode cX2_add 11 = .ok (.bipush 6, 2) := by decide +kernel
theorem dX2_add_13 : decode cX2_add 13 = .ok (.if_icmp .lt 5, 3) := by decide +kernel
theorem dX2_add_16 : decode cX2_add 16 = .ok (.iconst 0, 1) := by decide +kernel
theorem dX2_add_17 : decode cX2_add 17 = .ok (.ireturn, 1) := by decide +kernel
theorem dX2_add_18 : decode cX2_add 18 = .ok (.aload_n 0, 1) := by decide +kernel
theorem dX2_add_19 : decode cX2_add 19 = .ok (.getfield 11, 3) := by decide +kernel
theorem dX2_add_22 : decode cX2_add 22 = .ok (.aload_n 0, 1) := by decide +kernel
theorem dX2_add_23 : decode cX2_add 23 = .ok (.getfield 18, 3) := by decide +kernel
theorem dX2_add_26 : decode cX2_add 26 = .ok (.iload_n 1, 1) := by decide +kernel
theorem dX2_add_27 : decode cX2_add 27 = .ok (.iastore, 1) := by decide +kernel
theorem dX2_add_28 : decode cX2_add 28 = .ok (.aload_n 0, 1) := by decide +kernel
theorem dX2_add_29 : decode cX2_add 29 = .ok (.getfield 15, 3) := by decide +kernel
theorem dX2_add_32 : decode cX2_add 32 = .ok (.aload_n 0, 1) := by decide +kernel
theorem dX2_add_33 : decode cX2_add 33 = .ok (.getfield 18, 3) := by decide +kernel
theorem dX2_add_36 : decode cX2_add 36 = .ok (.iload_n 2, 1) := by decide +kernel
theorem dX2_add_37 : decode cX2_add 37 = .ok (.iastore, 1) := by decide +kernel
theorem dX2_add_38 : decode cX2_add 38 = .ok (.aload_n 0, 1) := by decide +kernel
theorem dX2_add_39 : decode cX2_add 39 = .ok (.dup, 1) := by decide +kernel
theorem dX2_add_40 : decode cX2_add 40 = .ok (.getfield 18, 3) := by decide +kernel
theorem dX2_add_43 : decode cX2_add 43 = .ok (.iconst 1, 1) := by decide +kernel
theorem dX2_add_44 : decode cX2_add 44 = .ok (.iadd, 1) := by decide +kernel
theorem dX2_add_45 : decode cX2_add 45 = .ok (.putfield 18, 3) := by decide +kernel
theorem dX2_add_48 : decode cX2_add 48 = .ok (.iconst 1, 1) := by decide +kernel
theorem dX2_add_49 : decode cX2_add 49 = .ok (.ireturn, 1) := by decide +kernel
theorem dX2_empty_0 : decode cX2_empty 0 = .ok (.aload_n 0, 1) := by decide +kernel
theorem dX2_empty_1 : decode cX2_empty 1 = .ok (.getfield 18, 3) := by decide +kernel
theorem dX2_empty_4 : decode cX2_empty 4 = .ok (.istore_n 1, 1) := by decide +kernel
theorem dX2_empty_5 : decode cX2_empty 5 = .ok (.aload_n 0, 1) := by decide +kernel
theorem dX2_empty_6 : decode cX2_empty 6 = .ok (.iconst 0, 1) := by decide +kernel
theorem dX2_empty_7 : decode cX2_empty 7 = .ok (.putfield 18, 3) := by decide +kernel
theorem dX2_empty_10 : decode cX2_empty 10 = .ok (.iload_n 1, 1) := by decide +kernel
theorem dX2_empty_11 : decode cX2_empty 11 = .ok (.ireturn, 1) := by decide +kernel
theorem dX2_fits_0 : decode cX2_fits 0 = .ok (.iconst 0, 1) := by decide +kernel
theorem dX2_fits_1 : decode cX2_fits 1 = .ok (.istore 4, 2) := by decide +kernel
theorem dX2_fits_3 : decode cX2_fits 3 = .ok (.iload 4, 2) := by decide +kernel
theorem dX2_fits_5 : decode cX2_fits 5 = .ok (.aload_n 0, 1) := by decide +kernel
theorem dX2_fits_6 : decode cX2_fits 6 = .ok (.getfield 18, 3) := by decide +kernel
theorem dX2_fits_9 : decode cX2_fits 9 = .ok (.if_icmp .ge 41, 3) := by decide +kernel
theorem dX2_fits_12 : decode cX2_fits 12 = .ok (.iload 4, 2) := by decide +kernel
theorem dX2_fits_14 : decode cX2_fits 14 = .ok (.bipush 6, 2) := by decide +kernel
theorem dX2_fits_16 : decode cX2_fits 16 = .ok (.if_icmp .ge 34, 3) := by decide +kernel
theorem dX2_fits_19 : decode cX2_fits 19 = .ok (.iload_n 1, 1) := by decide +kernel
theorem dX2_fits_20 : decode cX2_fits 20 = .ok (.iload_n 2, 1) := by decide +kernel
theorem dX2_fits_21 : decode cX2_fits 21 = .ok (.aload_n 0, 1) := by decide +kernel
theorem dX2_fits_22 : decode cX2_fits 22 = .ok (.getfield 11, 3) := by decide +kernel
theorem dX2_fits_25 : decode cX2_fits 25 = .ok (.iload 4, 2) := by decide +kernel
theorem dX2_fits_27 : decode cX2_fits 27 = .ok (.iaload, 1) := by decide +kernel
theorem dX2_fits_28 : decode cX2_fits 28 = .ok (.iload_n 3, 1) := by decide +kernel
theorem dX2_fits_29 : decode cX2_fits 29 = .ok (.invokestatic 22, 3) := by decide +kernel
theorem dX2_fits_32 : decode cX2_fits 32 = .ok (.aload_n 0, 1) := by decide +kernel
theorem dX2_fits_33 : decode cX2_fits 33 = .ok (.getfield 15, 3) := by decide +kernel
theorem dX2_fits_36 : decode cX2_fits 36 = .ok (.iload 4, 2) := by decide +kernel
theorem dX2_fits_38 : decode cX2_fits 38 = .ok (.iaload, 1) := by decide +kernel
theorem dX2_fits_39 : decode cX2_fits 39 = .ok (.if_icmp .eq 5, 3) := by decide +kernel
theorem dX2_fits_42 : decode cX2_fits 42 = .ok (.iconst 0, 1) := by decide +kernel
theorem dX2_fits_43 : decode cX2_fits 43 = .ok (.ireturn, 1) := by decide +kernel
theorem dX2_fits_44 : decode cX2_fits 44 = .ok (.iinc 4 1, 3) := by decide +kernel
theorem dX2_fits_47 : decode cX2_fits 47 = .ok (.goto (-44), 3) := by decide +kernel
theorem dX2_fits_50 : decode cX2_fits 50 = .ok (.iconst 1, 1) := by decide +kernel
theorem dX2_fits_51 : decode cX2_fits 51 = .ok (.ireturn, 1) := by decide +kernel
theorem dX2_countFits_0 : decode cX2_countFits 0 = .ok (.iconst 0, 1) := by decide +kernel
theorem dX2_countFits_1 : decode cX2_countFits 1 = .ok (.istore_n 2, 1) := by decide +kernel
theorem dX2_countFits_2 : decode cX2_countFits 2 = .ok (.iconst 0, 1) := by decide +kernel
theorem dX2_countFits_3 : decode cX2_countFits 3 = .ok (.istore_n 3, 1) := by decide +kernel
theorem dX2_countFits_4 : decode cX2_countFits 4 = .ok (.iload_n 3, 1) := by decide +kernel
theorem dX2_countFits_5 : decode cX2_countFits 5 = .ok (.iload_n 1, 1) := by decide +kernel
theorem dX2_countFits_6 : decode cX2_countFits 6 = .ok (.if_icmp .ge 38, 3) := by decide +kernel
theorem dX2_countFits_9 : decode cX2_countFits 9 = .ok (.iconst 0, 1) := by decide +kernel
theorem dX2_countFits_10 : decode cX2_countFits 10 = .ok (.istore 4, 2) := by decide +kernel
theorem dX2_countFits_12 : decode cX2_countFits 12 = .ok (.iload 4, 2) := by decide +kernel
theorem dX2_countFits_14 : decode cX2_countFits 14 = .ok (.iload_n 1, 1) := by decide +kernel
theorem dX2_countFits_15 : decode cX2_countFits 15 = .ok (.if_icmp .ge 23, 3) := by decide +kernel
theorem dX2_countFits_18 : decode cX2_countFits 18 = .ok (.aload_n 0, 1) := by decide +kernel
theorem dX2_countFits_19 : decode cX2_countFits 19 = .ok (.iload_n 3, 1) := by decide +kernel
theorem dX2_countFits_20 : decode cX2_countFits 20 = .ok (.iload 4, 2) := by decide +kernel
theorem dX2_countFits_22 : decode cX2_countFits 22 = .ok (.iload_n 1, 1) := by decide +kernel
theorem dX2_countFits_23 : decode cX2_countFits 23 = .ok (.invokevirtual 27, 3) := by decide +kernel
theorem dX2_countFits_26 : decode cX2_countFits 26 = .ok (.ifCond .eq 6, 3) := by decide +kernel
theorem dX2_countFits_29 : decode cX2_countFits 29 = .ok (.iinc 2 1, 3) := by decide +kernel
theorem dX2_countFits_32 : decode cX2_countFits 32 = .ok (.iinc 4 1, 3) := by decide +kernel
theorem dX2_countFits_35 : decode cX2_countFits 35 = .ok (.goto (-23), 3) := by decide +kernel
theorem dX2_countFits_38 : decode cX2_countFits 38 = .ok (.iinc 3 1, 3) := by decide +kernel
theorem dX2_countFits_41 : decode cX2_countFits 41 = .ok (.goto (-37), 3) := by decide +kernel
theorem dX2_countFits_44 : decode cX2_countFits 44 = .ok (.iload_n 2, 1) := by decide +kernel
theorem dX2_countFits_45 : decode cX2_countFits 45 = .ok (.ireturn, 1) := by decide +kernel
theorem dX2_firstFit_0 : decode cX2_firstFit 0 = .ok (.iconst 0, 1) := by decide +kernel
theorem dX2_firstFit_1 : decode cX2_firstFit 1 = .ok (.istore_n 2, 1) := by decide +kernel
theorem dX2_firstFit_2 : decode cX2_firstFit 2 = .ok (.iload_n 2, 1) := by decide +kernel
theorem dX2_firstFit_3 : decode cX2_firstFit 3 = .ok (.iload_n 1, 1) := by decide +kernel
theorem dX2_firstFit_4 : decode cX2_firstFit 4 = .ok (.if_icmp .ge 39, 3) := by decide +kernel
theorem dX2_firstFit_7 : decode cX2_firstFit 7 = .ok (.iconst 0, 1) := by decide +kernel
theorem dX2_firstFit_8 : decode cX2_firstFit 8 = .ok (.istore_n 3, 1) := by decide +kernel
theorem dX2_firstFit_9 : decode cX2_firstFit 9 = .ok (.iload_n 3, 1) := by decide +kernel
theorem dX2_firstFit_10 : decode cX2_firstFit 10 = .ok (.iload_n 1, 1) := by decide +kernel
theorem dX2_firstFit_11 : decode cX2_firstFit 11 = .ok (.if_icmp .ge 26, 3) := by decide +kernel
theorem dX2_firstFit_14 : decode cX2_firstFit 14 = .ok (.aload_n 0, 1) := by decide +kernel
theorem dX2_firstFit_15 : decode cX2_firstFit 15 = .ok (.iload_n 2, 1) := by decide +kernel
theorem dX2_firstFit_16 : decode cX2_firstFit 16 = .ok (.iload_n 3, 1) := by decide +kernel
theorem dX2_firstFit_17 : decode cX2_firstFit 17 = .ok (.iload_n 1, 1) := by decide +kernel
theorem dX2_firstFit_18 : decode cX2_firstFit 18 = .ok (.invokevirtual 27, 3) := by decide +kernel
theorem dX2_firstFit_21 : decode cX2_firstFit 21 = .ok (.ifCond .eq 10, 3) := by decide +kernel
theorem dX2_firstFit_24 : decode cX2_firstFit 24 = .ok (.bipush 10, 2) := by decide +kernel
theorem dX2_firstFit_26 : decode cX2_firstFit 26 = .ok (.iload_n 2, 1) := by decide +kernel
theorem dX2_firstFit_27 : decode cX2_firstFit 27 = .ok (.imul, 1) := by decide +kernel
theorem dX2_firstFit_28 : decode cX2_firstFit 28 = .ok (.iload_n 3, 1) := by decide +kernel
theorem dX2_firstFit_29 : decode cX2_firstFit 29 = .ok (.iadd, 1) := by decide +kernel
theorem dX2_firstFit_30 : decode cX2_firstFit 30 = .ok (.ireturn, 1) := by decide +kernel
theorem dX2_firstFit_31 : decode cX2_firstFit 31 = .ok (.iinc 3 1, 3) := by decide +kernel
theorem dX2_firstFit_34 : decode cX2_firstFit 34 = .ok (.goto (-25), 3) := by decide +kernel
theorem dX2_firstFit_37 : decode cX2_firstFit 37 = .ok (.iinc 2 1, 3) := by decide +kernel
theorem dX2_firstFit_40 : decode cX2_firstFit 40 = .ok (.goto (-38), 3) := by decide +kernel
theorem dX2_firstFit_43 : decode cX2_firstFit 43 = .ok (.bipush (-9), 2) := by decide +kernel
theorem dX2_firstFit_45 : decode cX2_firstFit 45 = .ok (.ireturn, 1) := by decide +kernel
theorem dX2_mostTelling_0 : decode cX2_mostTelling 0 = .ok (.bipush (-9), 2) := by decide +kernel
theorem dX2_mostTelling_2 : decode cX2_mostTelling 2 = .ok (.istore_n 2, 1) := by decide +kernel
theorem dX2_mostTelling_3 : decode cX2_mostTelling 3 = .ok (.iconst 0, 1) := by decide +kernel
theorem dX2_mostTelling_4 : decode cX2_mostTelling 4 = .ok (.istore_n 3, 1) := by decide +kernel
theorem dX2_mostTelling_5 : decode cX2_mostTelling 5 = .ok (.iconst 0, 1) := by decide +kernel
theorem dX2_mostTelling_6 : decode cX2_mostTelling 6 = .ok (.istore 4, 2) := by decide +kernel
theorem dX2_mostTelling_8 : decode cX2_mostTelling 8 = .ok (.iload 4, 2) := by decide +kernel
theorem dX2_mostTelling_10 : decode cX2_mostTelling 10 = .ok (.iload_n 1, 1) := by decide +kernel
theorem dX2_mostTelling_11 : decode cX2_mostTelling 11 = .ok (.if_icmp .ge 33, 3) := by decide +kernel
theorem dX2_mostTelling_14 : decode cX2_mostTelling 14 = .ok (.aload_n 0, 1) := by decide +kernel
theorem dX2_mostTelling_15 : decode cX2_mostTelling 15 = .ok (.iload 4, 2) := by decide +kernel
theorem dX2_mostTelling_17 : decode cX2_mostTelling 17 = .ok (.iload_n 1, 1) := by decide +kernel
theorem dX2_mostTelling_18 : decode cX2_mostTelling 18 = .ok (.invokevirtual 31, 3) := by decide +kernel
theorem dX2_mostTelling_21 : decode cX2_mostTelling 21 = .ok (.invokestatic 35, 3) := by decide +kernel
theorem dX2_mostTelling_24 : decode cX2_mostTelling 24 = .ok (.istore 5, 2) := by decide +kernel
theorem dX2_mostTelling_26 : decode cX2_mostTelling 26 = .ok (.iload 5, 2) := by decide +kernel
theorem dX2_mostTelling_28 : decode cX2_mostTelling 28 = .ok (.iload_n 3, 1) := by decide +kernel
theorem dX2_mostTelling_29 : decode cX2_mostTelling 29 = .ok (.if_icmp .le 9, 3) := by decide +kernel
theorem dX2_mostTelling_32 : decode cX2_mostTelling 32 = .ok (.iload 5, 2) := by decide +kernel
theorem dX2_mostTelling_34 : decode cX2_mostTelling 34 = .ok (.istore_n 3, 1) := by decide +kernel
theorem dX2_mostTelling_35 : decode cX2_mostTelling 35 = .ok (.iload 4, 2) := by decide +kernel
theorem dX2_mostTelling_37 : decode cX2_mostTelling 37 = .ok (.istore_n 2, 1) := by decide +kernel
theorem dX2_mostTelling_38 : decode cX2_mostTelling 38 = .ok (.iinc 4 1, 3) := by decide +kernel
theorem dX2_mostTelling_41 : decode cX2_mostTelling 41 = .ok (.goto (-33), 3) := by decide +kernel
theorem dX2_mostTelling_44 : decode cX2_mostTelling 44 = .ok (.iload_n 2, 1) := by decide +kernel
theorem dX2_mostTelling_45 : decode cX2_mostTelling 45 = .ok (.ireturn, 1) := by decide +kernel
theorem dX2_answersTo_0 : decode cX2_answersTo 0 = .ok (.iconst 0, 1) := by decide +kernel
theorem dX2_answersTo_1 : decode cX2_answersTo 1 = .ok (.istore_n 3, 1) := by decide +kernel
theorem dX2_answersTo_2 : decode cX2_answersTo 2 = .ok (.iconst 0, 1) := by decide +kernel
theorem dX2_answersTo_3 : decode cX2_answersTo 3 = .ok (.istore 4, 2) := by decide +kernel
theorem dX2_answersTo_5 : decode cX2_answersTo 5 = .ok (.iload 4, 2) := by decide +kernel
theorem dX2_answersTo_7 : decode cX2_answersTo 7 = .ok (.iload_n 2, 1) := by decide +kernel
theorem dX2_answersTo_8 : decode cX2_answersTo 8 = .ok (.if_icmp .ge 50, 3) := by decide +kernel
theorem dX2_answersTo_11 : decode cX2_answersTo 11 = .ok (.iconst 0, 1) := by decide +kernel
theorem dX2_answersTo_12 : decode cX2_answersTo 12 = .ok (.istore 5, 2) := by decide +kernel
theorem dX2_answersTo_14 : decode cX2_answersTo 14 = .ok (.iload 5, 2) := by decide +kernel
theorem dX2_answersTo_16 : decode cX2_answersTo 16 = .ok (.iload_n 2, 1) := by decide +kernel
theorem dX2_answersTo_17 : decode cX2_answersTo 17 = .ok (.if_icmp .ge 35, 3) := by decide +kernel
theorem dX2_answersTo_20 : decode cX2_answersTo 20 = .ok (.aload_n 0, 1) := by decide +kernel
theorem dX2_answersTo_21 : decode cX2_answersTo 21 = .ok (.iload 4, 2) := by decide +kernel
theorem dX2_answersTo_23 : decode cX2_answersTo 23 = .ok (.iload 5, 2) := by decide +kernel
theorem dX2_answersTo_25 : decode cX2_answersTo 25 = .ok (.iload_n 2, 1) := by decide +kernel
theorem dX2_answersTo_26 : decode cX2_answersTo 26 = .ok (.invokevirtual 27, 3) := by decide +kernel
theorem dX2_answersTo_29 : decode cX2_answersTo 29 = .ok (.ifCond .eq 17, 3) := by decide +kernel
theorem dX2_answersTo_32 : decode cX2_answersTo 32 = .ok (.iload_n 3, 1) := by decide +kernel
theorem dX2_answersTo_33 : decode cX2_answersTo 33 = .ok (.iconst 1, 1) := by decide +kernel
theorem dX2_answersTo_34 : decode cX2_answersTo 34 = .ok (.iload 4, 2) := by decide +kernel
theorem dX2_answersTo_36 : decode cX2_answersTo 36 = .ok (.iload 5, 2) := by decide +kernel
theorem dX2_answersTo_38 : decode cX2_answersTo 38 = .ok (.iload_n 1, 1) := by decide +kernel
theorem dX2_answersTo_39 : decode cX2_answersTo 39 = .ok (.iload_n 2, 1) := by decide +kernel
theorem dX2_answersTo_40 : decode cX2_answersTo 40 = .ok (.invokestatic 22, 3) := by decide +kernel
theorem dX2_answersTo_43 : decode cX2_answersTo 43 = .ok (.ishl, 1) := by decide +kernel
theorem dX2_answersTo_44 : decode cX2_answersTo 44 = .ok (.ior, 1) := by decide +kernel
theorem dX2_answersTo_45 : decode cX2_answersTo 45 = .ok (.istore_n 3, 1) := by decide +kernel
theorem dX2_answersTo_46 : decode cX2_answersTo 46 = .ok (.iinc 5 1, 3) := by decide +kernel
theorem dX2_answersTo_49 : decode cX2_answersTo 49 = .ok (.goto (-35), 3) := by decide +kernel
theorem dX2_answersTo_52 : decode cX2_answersTo 52 = .ok (.iinc 4 1, 3) := by decide +kernel
theorem dX2_answersTo_55 : decode cX2_answersTo 55 = .ok (.goto (-50), 3) := by decide +kernel
theorem dX2_answersTo_58 : decode cX2_answersTo 58 = .ok (.iload_n 3, 1) := by decide +kernel
theorem dX2_answersTo_59 : decode cX2_answersTo 59 = .ok (.ireturn, 1) := by decide +kernel
theorem dX2_fittingScribes_0 : decode cX2_fittingScribes 0 = .ok (.iconst 0, 1) := by decide +kernel
theorem dX2_fittingScribes_1 : decode cX2_fittingScribes 1 = .ok (.istore_n 2, 1) := by decide +kernel
theorem dX2_fittingScribes_2 : decode cX2_fittingScribes 2 = .ok (.iconst 0, 1) := by decide +kernel
theorem dX2_fittingScribes_3 : decode cX2_fittingScribes 3 = .ok (.istore_n 3, 1) := by decide +kernel
theorem dX2_fittingScribes_4 : decode cX2_fittingScribes 4 = .ok (.iload_n 3, 1) := by decide +kernel
theorem dX2_fittingScribes_5 : decode cX2_fittingScribes 5 = .ok (.aload_n 1, 1) := by decide +kernel
theorem dX2_fittingScribes_6 : decode cX2_fittingScribes 6 = .ok (.getfield 41, 3) := by decide +kernel
theorem dX2_fittingScribes_9 : decode cX2_fittingScribes 9 = .ok (.if_icmp .ge 36, 3) := by decide +kernel
theorem dX2_fittingScribes_12 : decode cX2_fittingScribes 12 = .ok (.aload_n 0, 1) := by decide +kernel
theorem dX2_fittingScribes_13 : decode cX2_fittingScribes 13 = .ok (.aload_n 1, 1) := by decide +kernel
theorem dX2_fittingScribes_14 : decode cX2_fittingScribes 14 = .ok (.iload_n 3, 1) := by decide +kernel
theorem dX2_fittingScribes_15 : decode cX2_fittingScribes 15 = .ok (.invokevirtual 44, 3) := by decide +kernel
theorem dX2_fittingScribes_18 : decode cX2_fittingScribes 18 = .ok (.aload_n 1, 1) := by decide +kernel
theorem dX2_fittingScribes_19 : decode cX2_fittingScribes 19 = .ok (.iload_n 3, 1) := by decide +kernel
theorem dX2_fittingScribes_20 : decode cX2_fittingScribes 20 = .ok (.invokevirtual 47, 3) := by decide +kernel
theorem dX2_fittingScribes_23 : decode cX2_fittingScribes 23 = .ok (.aload_n 1, 1) := by decide +kernel
theorem dX2_fittingScribes_24 : decode cX2_fittingScribes 24 = .ok (.getfield 50, 3) := by decide +kernel
theorem dX2_fittingScribes_27 : decode cX2_fittingScribes 27 = .ok (.invokevirtual 27, 3) := by decide +kernel
theorem dX2_fittingScribes_30 : decode cX2_fittingScribes 30 = .ok (.ifCond .eq 9, 3) := by decide +kernel
theorem dX2_fittingScribes_33 : decode cX2_fittingScribes 33 = .ok (.iload_n 2, 1) := by decide +kernel
theorem dX2_fittingScribes_34 : decode cX2_fittingScribes 34 = .ok (.iconst 1, 1) := by decide +kernel
theorem dX2_fittingScribes_35 : decode cX2_fittingScribes 35 = .ok (.iload_n 3, 1) := by decide +kernel
theorem dX2_fittingScribes_36 : decode cX2_fittingScribes 36 = .ok (.ishl, 1) := by decide +kernel
theorem dX2_fittingScribes_37 : decode cX2_fittingScribes 37 = .ok (.ior, 1) := by decide +kernel
theorem dX2_fittingScribes_38 : decode cX2_fittingScribes 38 = .ok (.istore_n 2, 1) := by decide +kernel
theorem dX2_fittingScribes_39 : decode cX2_fittingScribes 39 = .ok (.iinc 3 1, 3) := by decide +kernel
theorem dX2_fittingScribes_42 : decode cX2_fittingScribes 42 = .ok (.goto (-38), 3) := by decide +kernel
theorem dX2_fittingScribes_45 : decode cX2_fittingScribes 45 = .ok (.iload_n 2, 1) := by decide +kernel
theorem dX2_fittingScribes_46 : decode cX2_fittingScribes 46 = .ok (.ireturn, 1) := by decide +kernel
theorem dX3_init_0 : decode cX3_init 0 = .ok (.aload_n 0, 1) := by decide +kernel
theorem dX3_init_1 : decode cX3_init 1 = .ok (.invokespecial 1, 3) := by decide +kernel
theorem dX3_init_4 : decode cX3_init 4 = .ok (.return_, 1) := by decide +kernel
theorem dX3_isKind_0 : decode cX3_isKind 0 = .ok (.iload_n 0, 1) := by decide +kernel
theorem dX3_isKind_1 : decode cX3_isKind 1 = .ok (.ifCond .lt 13, 3) := by decide +kernel
theorem dX3_isKind_4 : decode cX3_isKind 4 = .ok (.iload_n 0, 1) := by decide +kernel
theorem dX3_isKind_5 : decode cX3_isKind 5 = .ok (.bipush 6, 2) := by decide +kernel
theorem dX3_isKind_7 : decode cX3_isKind 7 = .ok (.if_icmp .ge 7, 3) := by decide +kernel
theorem dX3_isKind_10 : decode cX3_isKind 10 = .ok (.iconst 1, 1) := by decide +kernel
theorem dX3_isKind_11 : decode cX3_isKind 11 = .ok (.goto 4, 3) := by decide +kernel
theorem dX3_isKind_14 : decode cX3_isKind 14 = .ok (.iconst 0, 1) := by decide +kernel
theorem dX3_isKind_15 : decode cX3_isKind 15 = .ok (.ireturn, 1) := by decide +kernel
theorem dX3_ask_0 : decode cX3_ask 0 = .ok (.iload_n 1, 1) := by decide +kernel
theorem dX3_ask_1 : decode cX3_ask 1 = .ok (.invokestatic 9, 3) := by decide +kernel
theorem dX3_ask_4 : decode cX3_ask 4 = .ok (.ifCond .eq 9, 3) := by decide +kernel
theorem dX3_ask_7 : decode cX3_ask 7 = .ok (.iload_n 2, 1) := by decide +kernel
theorem dX3_ask_8 : decode cX3_ask 8 = .ok (.bipush 6, 2) := by decide +kernel
theorem dX3_ask_10 : decode cX3_ask 10 = .ok (.if_icmp .lt 5, 3) := by decide +kernel
theorem dX3_ask_13 : decode cX3_ask 13 = .ok (.iconst 0, 1) := by decide +kernel
theorem dX3_ask_14 : decode cX3_ask 14 = .ok (.ireturn, 1) := by decide +kernel
theorem dX3_ask_15 : decode cX3_ask 15 = .ok (.aload_n 0, 1) := by decide +kernel
theorem dX3_ask_16 : decode cX3_ask 16 = .ok (.dup, 1) := by decide +kernel
theorem dX3_ask_17 : decode cX3_ask 17 = .ok (.getfield 13, 3) := by decide +kernel
theorem dX3_ask_20 : decode cX3_ask 20 = .ok (.getstatic 17, 3) := by decide +kernel
theorem dX3_ask_23 : decode cX3_ask 23 = .ok (.iload_n 1, 1) := by decide +kernel
theorem dX3_ask_24 : decode cX3_ask 24 = .ok (.iaload, 1) := by decide +kernel
theorem dX3_ask_25 : decode cX3_ask 25 = .ok (.i2l, 1) := by decide +kernel
theorem dX3_ask_26 : decode cX3_ask 26 = .ok (.ladd, 1) := by decide +kernel
theorem dX3_ask_27 : decode cX3_ask 27 = .ok (.putfield 13, 3) := by decide +kernel
theorem dX3_ask_30 : decode cX3_ask 30 = .ok (.aload_n 0, 1) := by decide +kernel
theorem dX3_ask_31 : decode cX3_ask 31 = .ok (.getstatic 21, 3) := by decide +kernel
theorem dX3_ask_34 : decode cX3_ask 34 = .ok (.iload_n 1, 1) := by decide +kernel
theorem dX3_ask_35 : decode cX3_ask 35 = .ok (.iaload, 1) := by decide +kernel
theorem dX3_ask_36 : decode cX3_ask 36 = .ok (.iload_n 2, 1) := by decide +kernel
theorem dX3_ask_37 : decode cX3_ask 37 = .ok (.iconst 1, 1) := by decide +kernel
theorem dX3_ask_38 : decode cX3_ask 38 = .ok (.iadd, 1) := by decide +kernel
theorem dX3_ask_39 : decode cX3_ask 39 = .ok (.invokevirtual 24, 3) := by decide +kernel
theorem dX3_ask_42 : decode cX3_ask 42 = .ok (.istore_n 3, 1) := by decide +kernel
theorem dX3_ask_43 : decode cX3_ask 43 = .ok (.iload_n 1, 1) := by decide +kernel
theorem dX3_ask_44 : decode cX3_ask 44 = .ok (.tableswitch 66 0 4 #[36, 41, 48, 55, 59], 36) := by decide +kernel
theorem dX3_ask_80 : decode cX3_ask 80 = .ok (.aload_n 0, 1) := by decide +kernel
theorem dX3_ask_81 : decode cX3_ask 81 = .ok (.getfield 28, 3) := by decide +kernel
theorem dX3_ask_84 : decode cX3_ask 84 = .ok (.ireturn, 1) := by decide +kernel
theorem dX3_ask_85 : decode cX3_ask 85 = .ok (.iload_n 3, 1) := by decide +kernel
theorem dX3_ask_86 : decode cX3_ask 86 = .ok (.aload_n 0, 1) := by decide +kernel
theorem dX3_ask_87 : decode cX3_ask 87 = .ok (.getfield 32, 3) := by decide +kernel
theorem dX3_ask_90 : decode cX3_ask 90 = .ok (.iadd, 1) := by decide +kernel
theorem dX3_ask_91 : decode cX3_ask 91 = .ok (.ireturn, 1) := by decide +kernel
theorem dX3_ask_92 : decode cX3_ask 92 = .ok (.iload_n 3, 1) := by decide +kernel
theorem dX3_ask_93 : decode cX3_ask 93 = .ok (.aload_n 0, 1) := by decide +kernel
theorem dX3_ask_94 : decode cX3_ask 94 = .ok (.getfield 35, 3) := by decide +kernel
theorem dX3_ask_97 : decode cX3_ask 97 = .ok (.isub, 1) := by decide +kernel
theorem dX3_ask_98 : decode cX3_ask 98 = .ok (.ireturn, 1) := by decide +kernel
theorem dX3_ask_99 : decode cX3_ask 99 = .ok (.iload_n 3, 1) := by decide +kernel
theorem dX3_ask_100 : decode cX3_ask 100 = .ok (.iconst 2, 1) := by decide +kernel
theorem dX3_ask_101 : decode cX3_ask 101 = .ok (.imul, 1) := by decide +kernel
theorem dX3_ask_102 : decode cX3_ask 102 = .ok (.ireturn, 1) := by decide +kernel
theorem dX3_ask_103 : decode cX3_ask 103 = .ok (.iload_n 3, 1) := by decide +kernel
theorem dX3_ask_104 : decode cX3_ask 104 = .ok (.aload_n 0, 1) := by decide +kernel
theorem dX3_ask_105 : decode cX3_ask 105 = .ok (.getfield 38, 3) := by decide +kernel
theorem dX3_ask_108 : decode cX3_ask 108 = .ok (.iadd, 1) := by decide +kernel
theorem dX3_ask_109 : decode cX3_ask 109 = .ok (.ireturn, 1) := by decide +kernel
theorem dX3_ask_110 : decode cX3_ask 110 = .ok (.iload_n 3, 1) := by decide +kernel
theorem dX3_ask_111 : decode cX3_ask 111 = .ok (.aload_n 0, 1) := by decide +kernel
theorem dX3_ask_112 : decode cX3_ask 112 = .ok (.getfield 41, 3) := by decide +kernel
theorem dX3_ask_115 : decode cX3_ask 115 = .ok (.iadd, 1) := by decide +kernel
theorem dX3_ask_116 : decode cX3_ask 116 = .ok (.ireturn, 1) := by decide +kernel
theorem dX4_init_0 : decode cX4_init 0 = .ok (.aload_n 0, 1) := by decide +kernel
theorem dX4_init_1 : decode cX4_init 1 = .ok (.invokespecial 3, 3) := by decide +kernel
theorem dX4_init_4 : decode cX4_init 4 = .ok (.aload_n 0, 1) := by decide +kernel
theorem dX4_init_5 : decode cX4_init 5 = .ok (.bipush 120, 2) := by decide +kernel
theorem dX4_init_7 : decode cX4_init 7 = .ok (.newarray .int, 2) := by decide +kernel
theorem dX4_init_9 : decode cX4_init 9 = .ok (.putfield 11, 3) := by decide +kernel
theorem dX4_init_12 : decode cX4_init 12 = .ok (.return_, 1) := by decide +kernel
theorem dX4_add_0 : decode cX4_add 0 = .ok (.aload_n 0, 1) := by decide +kernel
theorem dX4_add_1 : decode cX4_add 1 = .ok (.getfield 15, 3) := by decide +kernel
theorem dX4_add_4 : decode cX4_add 4 = .ok (.ifCond .lt 12, 3) := by decide +kernel
theorem dX4_add_7 : decode cX4_add 7 = .ok (.aload_n 0, 1) := by decide +kernel
theorem dX4_add_8 : decode cX4_add 8 = .ok (.getfield 15, 3) := by decide +kernel
theorem dX4_add_11 : decode cX4_add 11 = .ok (.bipush 120, 2) := by decide +kernel
theorem dX4_add_13 : decode cX4_add 13 = .ok (.if_icmp .lt 5, 3) := by decide +kernel
theorem dX4_add_16 : decode cX4_add 16 = .ok (.iconst 0, 1) := by decide +kernel
theorem dX4_add_17 : decode cX4_add 17 = .ok (.ireturn, 1) := by decide +kernel
theorem dX4_add_18 : decode cX4_add 18 = .ok (.aload_n 0, 1) := by decide +kernel
theorem dX4_add_19 : decode cX4_add 19 = .ok (.getfield 11, 3) := by decide +kernel
theorem dX4_add_22 : decode cX4_add 22 = .ok (.aload_n 0, 1) := by decide +kernel
theorem dX4_add_23 : decode cX4_add 23 = .ok (.getfield 15, 3) := by decide +kernel
theorem dX4_add_26 : decode cX4_add 26 = .ok (.iload_n 1, 1) := by decide +kernel
theorem dX4_add_27 : decode cX4_add 27 = .ok (.iastore, 1) := by decide +kernel
theorem dX4_add_28 : decode cX4_add 28 = .ok (.aload_n 0, 1) := by decide +kernel
theorem dX4_add_29 : decode cX4_add 29 = .ok (.dup, 1) := by decide +kernel
theorem dX4_add_30 : decode cX4_add 30 = .ok (.getfield 15, 3) := by decide +kernel
theorem dX4_add_33 : decode cX4_add 33 = .ok (.iconst 1, 1) := by decide +kernel
theorem dX4_add_34 : decode cX4_add 34 = .ok (.iadd, 1) := by decide +kernel
theorem dX4_add_35 : decode cX4_add 35 = .ok (.putfield 15, 3) := by decide +kernel
theorem dX4_add_38 : decode cX4_add 38 = .ok (.iconst 1, 1) := by decide +kernel
theorem dX4_add_39 : decode cX4_add 39 = .ok (.ireturn, 1) := by decide +kernel
theorem dX4_empty_0 : decode cX4_empty 0 = .ok (.aload_n 0, 1) := by decide +kernel
theorem dX4_empty_1 : decode cX4_empty 1 = .ok (.getfield 15, 3) := by decide +kernel
theorem dX4_empty_4 : decode cX4_empty 4 = .ok (.istore_n 1, 1) := by decide +kernel
theorem dX4_empty_5 : decode cX4_empty 5 = .ok (.aload_n 0, 1) := by decide +kernel
theorem dX4_empty_6 : decode cX4_empty 6 = .ok (.iconst 0, 1) := by decide +kernel
theorem dX4_empty_7 : decode cX4_empty 7 = .ok (.putfield 15, 3) := by decide +kernel
theorem dX4_empty_10 : decode cX4_empty 10 = .ok (.iload_n 1, 1) := by decide +kernel
theorem dX4_empty_11 : decode cX4_empty 11 = .ok (.ireturn, 1) := by decide +kernel
theorem dX4_read_0 : decode cX4_read 0 = .ok (.aload_n 1, 1) := by decide +kernel
theorem dX4_read_1 : decode cX4_read 1 = .ok (.invokevirtual 19, 3) := by decide +kernel
theorem dX4_read_4 : decode cX4_read 4 = .ok (.aload_n 0, 1) := by decide +kernel
theorem dX4_read_5 : decode cX4_read 5 = .ok (.iconst 0, 1) := by decide +kernel
theorem dX4_read_6 : decode cX4_read 6 = .ok (.putfield 24, 3) := by decide +kernel
theorem dX4_read_9 : decode cX4_read 9 = .ok (.aload_n 0, 1) := by decide +kernel
theorem dX4_read_10 : decode cX4_read 10 = .ok (.iconst 0, 1) := by decide +kernel
theorem dX4_read_11 : decode cX4_read 11 = .ok (.putfield 27, 3) := by decide +kernel
theorem dX4_read_14 : decode cX4_read 14 = .ok (.aload_n 0, 1) := by decide +kernel
theorem dX4_read_15 : decode cX4_read 15 = .ok (.iconst 0, 1) := by decide +kernel
theorem dX4_read_16 : decode cX4_read 16 = .ok (.putfield 31, 3) := by decide +kernel
theorem dX4_read_19 : decode cX4_read 19 = .ok (.iconst 0, 1) := by decide +kernel
theorem dX4_read_20 : decode cX4_read 20 = .ok (.istore_n 2, 1) := by decide +kernel
theorem dX4_read_21 : decode cX4_read 21 = .ok (.iload_n 2, 1) := by decide +kernel
theorem dX4_read_22 : decode cX4_read 22 = .ok (.bipush 120, 2) := by decide +kernel
theorem dX4_read_24 : decode cX4_read 24 = .ok (.if_icmp .gt 186, 3) := by decide +kernel
theorem dX4_read_27 : decode cX4_read 27 = .ok (.aload_n 0, 1) := by decide +kernel
theorem dX4_read_28 : decode cX4_read 28 = .ok (.invokevirtual 34, 3) := by decide +kernel
theorem dX4_read_31 : decode cX4_read 31 = .ok (.aload_n 0, 1) := by decide +kernel
theorem dX4_read_32 : decode cX4_read 32 = .ok (.getfield 37, 3) := by decide +kernel
theorem dX4_read_35 : decode cX4_read 35 = .ok (.ifCond .ne 5, 3) := by decide +kernel
theorem dX4_read_38 : decode cX4_read 38 = .ok (.iload_n 2, 1) := by decide +kernel
theorem dX4_read_39 : decode cX4_read 39 = .ok (.ireturn, 1) := by decide +kernel
theorem dX4_read_40 : decode cX4_read 40 = .ok (.aload_n 0, 1) := by decide +kernel
theorem dX4_read_41 : decode cX4_read 41 = .ok (.getfield 37, 3) := by decide +kernel
theorem dX4_read_44 : decode cX4_read 44 = .ok (.iconst 1, 1) := by decide +kernel
theorem dX4_read_45 : decode cX4_read 45 = .ok (.if_icmp .ne 10, 3) := by decide +kernel
theorem dX4_read_48 : decode cX4_read 48 = .ok (.aload_n 0, 1) := by decide +kernel
theorem dX4_read_49 : decode cX4_read 49 = .ok (.getfield 40, 3) := by decide +kernel
theorem dX4_read_52 : decode cX4_read 52 = .ok (.goto 4, 3) := by decide +kernel
theorem dX4_read_55 : decode cX4_read 55 = .ok (.iconst 0, 1) := by decide +kernel
theorem dX4_read_56 : decode cX4_read 56 = .ok (.lookupswitch 139 #[(98, 65), (110, 115), (111, 44), (115, 89)], 44) := by decide +kernel
theorem dX4_read_100 : decode cX4_read 100 = .ok (.iload_n 2, 1) := by decide +kernel
theorem dX4_read_101 : decode cX4_read 101 = .ok (.ifCond .ne 15, 3) := by decide +kernel
theorem dX4_read_104 : decode cX4_read 104 = .ok (.aload_n 0, 1) := by decide +kernel
theorem dX4_read_105 : decode cX4_read 105 = .ok (.aload_n 1, 1) := by decide +kernel
theorem dX4_read_106 : decode cX4_read 106 = .ok (.invokevirtual 43, 3) := by decide +kernel
theorem dX4_read_109 : decode cX4_read 109 = .ok (.ifCond .eq 7, 3) := by decide +kernel
theorem dX4_read_112 : decode cX4_read 112 = .ok (.iconst 1, 1) := by decide +kernel
theorem dX4_read_113 : decode cX4_read 113 = .ok (.goto 4, 3) := by decide +kernel
theorem dX4_read_116 : decode cX4_read 116 = .ok (.iconst 0, 1) := by decide +kernel
theorem dX4_read_117 : decode cX4_read 117 = .ok (.istore_n 3, 1) := by decide +kernel
theorem dX4_read_118 : decode cX4_read 118 = .ok (.goto 79, 3) := by decide +kernel
theorem dX4_read_121 : decode cX4_read 121 = .ok (.aload_n 0, 1) := by decide +kernel
theorem dX4_read_122 : decode cX4_read 122 = .ok (.getfield 27, 3) := by decide +kernel
theorem dX4_read_125 : decode cX4_read 125 = .ok (.ifCond .ne 15, 3) := by decide +kernel
theorem dX4_read_128 : decode cX4_read 128 = .ok (.aload_n 0, 1) := by decide +kernel
theorem dX4_read_129 : decode cX4_read 129 = .ok (.aload_n 1, 1) := by decide +kernel
theorem dX4_read_130 : decode cX4_read 130 = .ok (.invokevirtual 47, 3) := by decide +kernel
theorem dX4_read_133 : decode cX4_read 133 = .ok (.ifCond .eq 7, 3) := by decide +kernel
theorem dX4_read_136 : decode cX4_read 136 = .ok (.iconst 1, 1) := by decide +kernel
theorem dX4_read_137 : decode cX4_read 137 = .ok (.goto 4, 3) := by decide +kernel
theorem dX4_read_140 : decode cX4_read 140 = .ok (.iconst 0, 1) := by decide +kernel
theorem dX4_read_141 : decode cX4_read 141 = .ok (.istore_n 3, 1) := by decide +kernel
theorem dX4_read_142 : decode cX4_read 142 = .ok (.goto 55, 3) := by decide +kernel
theorem dX4_read_145 : decode cX4_read 145 = .ok (.aload_n 1, 1) := by decide +kernel
theorem dX4_read_146 : decode cX4_read 146 = .ok (.getfield 50, 3) := by decide +kernel
theorem dX4_read_149 : decode cX4_read 149 = .ok (.bipush 6, 2) := by decide +kernel
theorem dX4_read_151 : decode cX4_read 151 = .ok (.if_icmp .ge 15, 3) := by decide +kernel
theorem dX4_read_154 : decode cX4_read 154 = .ok (.aload_n 0, 1) := by decide +kernel
theorem dX4_read_155 : decode cX4_read 155 = .ok (.aload_n 1, 1) := by decide +kernel
theorem dX4_read_156 : decode cX4_read 156 = .ok (.invokevirtual 53, 3) := by decide +kernel
theorem dX4_read_159 : decode cX4_read 159 = .ok (.ifCond .eq 7, 3) := by decide +kernel
theorem dX4_read_162 : decode cX4_read 162 = .ok (.iconst 1, 1) := by decide +kernel
theorem dX4_read_163 : decode cX4_read 163 = .ok (.goto 4, 3) := by decide +kernel
theorem dX4_read_166 : decode cX4_read 166 = .ok (.iconst 0, 1) := by decide +kernel
theorem dX4_read_167 : decode cX4_read 167 = .ok (.istore_n 3, 1) := by decide +kernel
theorem dX4_read_168 : decode cX4_read 168 = .ok (.goto 29, 3) := by decide +kernel
theorem dX4_read_171 : decode cX4_read 171 = .ok (.aload_n 0, 1) := by decide +kernel
theorem dX4_read_172 : decode cX4_read 172 = .ok (.getfield 31, 3) := by decide +kernel
theorem dX4_read_175 : decode cX4_read 175 = .ok (.ifCond .ne 15, 3) := by decide +kernel
theorem dX4_read_178 : decode cX4_read 178 = .ok (.aload_n 0, 1) := by decide +kernel
theorem dX4_read_179 : decode cX4_read 179 = .ok (.aload_n 1, 1) := by decide +kernel
theorem dX4_read_180 : decode cX4_read 180 = .ok (.invokevirtual 56, 3) := by decide +kernel
theorem dX4_read_183 : decode cX4_read 183 = .ok (.ifCond .eq 7, 3) := by decide +kernel
theorem dX4_read_186 : decode cX4_read 186 = .ok (.iconst 1, 1) := by decide +kernel
theorem dX4_read_187 : decode cX4_read 187 = .ok (.goto 4, 3) := by decide +kernel
theorem dX4_read_190 : decode cX4_read 190 = .ok (.iconst 0, 1) := by decide +kernel
theorem dX4_read_191 : decode cX4_read 191 = .ok (.istore_n 3, 1) := by decide +kernel
theorem dX4_read_192 : decode cX4_read 192 = .ok (.goto 5, 3) := by decide +kernel
theorem dX4_read_195 : decode cX4_read 195 = .ok (.iconst 0, 1) := by decide +kernel
theorem dX4_read_196 : decode cX4_read 196 = .ok (.istore_n 3, 1) := by decide +kernel
theorem dX4_read_197 : decode cX4_read 197 = .ok (.iload_n 3, 1) := by decide +kernel
theorem dX4_read_198 : decode cX4_read 198 = .ok (.ifCond .ne 6, 3) := by decide +kernel
theorem dX4_read_201 : decode cX4_read 201 = .ok (.goto 9, 3) := by decide +kernel
theorem dX4_read_204 : decode cX4_read 204 = .ok (.iinc 2 1, 3) := by decide +kernel
theorem dX4_read_207 : decode cX4_read 207 = .ok (.goto (-186), 3) := by decide +kernel
theorem dX4_read_210 : decode cX4_read 210 = .ok (.bipush (-10), 2) := by decide +kernel
theorem dX4_read_212 : decode cX4_read 212 = .ok (.aload_n 0, 1) := by decide +kernel
theorem dX4_read_213 : decode cX4_read 213 = .ok (.getfield 59, 3) := by decide +kernel
theorem dX4_read_216 : decode cX4_read 216 = .ok (.isub, 1) := by decide +kernel
theorem dX4_read_217 : decode cX4_read 217 = .ok (.ireturn, 1) := by decide +kernel
theorem dX4_readOpinions_0 : decode cX4_readOpinions 0 = .ok (.aload_n 0, 1) := by decide +kernel
theorem dX4_readOpinions_1 : decode cX4_readOpinions 1 = .ok (.iconst 2, 1) := by decide +kernel
theorem dX4_readOpinions_2 : decode cX4_readOpinions 2 = .ok (.iconst 5, 1) := by decide +kernel
theorem dX4_readOpinions_3 : decode cX4_readOpinions 3 = .ok (.invokevirtual 62, 3) := by decide +kernel
theorem dX4_readOpinions_6 : decode cX4_readOpinions 6 = .ok (.ifCond .ne 5, 3) := by decide +kernel
theorem dX4_readOpinions_9 : decode cX4_readOpinions 9 = .ok (.iconst 0, 1) := by decide +kernel
theorem dX4_readOpinions_10 : decode cX4_readOpinions 10 = .ok (.ireturn, 1) := by decide +kernel
theorem dX4_readOpinions_11 : decode cX4_readOpinions 11 = .ok (.aload_n 1, 1) := by decide +kernel
theorem dX4_readOpinions_12 : decode cX4_readOpinions 12 = .ok (.aload_n 0, 1) := by decide +kernel
theorem dX4_readOpinions_13 : decode cX4_readOpinions 13 = .ok (.getfield 40, 3) := by decide +kernel
theorem dX4_readOpinions_16 : decode cX4_readOpinions 16 = .ok (.putfield 66, 3) := by decide +kernel
theorem dX4_readOpinions_19 : decode cX4_readOpinions 19 = .ok (.aload_n 0, 1) := by decide +kernel
theorem dX4_readOpinions_20 : decode cX4_readOpinions 20 = .ok (.invokevirtual 69, 3) := by decide +kernel
theorem dX4_readOpinions_23 : decode cX4_readOpinions 23 = .ok (.ireturn, 1) := by decide +kernel
theorem dX4_readBook_0 : decode cX4_readBook 0 = .ok (.aload_n 0, 1) := by decide +kernel
theorem dX4_readBook_1 : decode cX4_readBook 1 = .ok (.iconst 1, 1) := by decide +kernel
theorem dX4_readBook_2 : decode cX4_readBook 2 = .ok (.putfield 27, 3) := by decide +kernel
theorem dX4_readBook_5 : decode cX4_readBook 5 = .ok (.iconst 0, 1) := by decide +kernel
theorem dX4_readBook_6 : decode cX4_readBook 6 = .ok (.istore_n 2, 1) := by decide +kernel
theorem dX4_readBook_7 : decode cX4_readBook 7 = .ok (.iload_n 2, 1) := by decide +kernel
theorem dX4_readBook_8 : decode cX4_readBook 8 = .ok (.iconst 4, 1) := by decide +kernel
theorem dX4_readBook_9 : decode cX4_readBook 9 = .ok (.if_icmp .ge 56, 3) := by decide +kernel
theorem dX4_readBook_12 : decode cX4_readBook 12 = .ok (.aload_n 0, 1) := by decide +kernel
theorem dX4_readBook_13 : decode cX4_readBook 13 = .ok (.invokevirtual 34, 3) := by decide +kernel
theorem dX4_readBook_16 : decode cX4_readBook 16 = .ok (.iload_n 2, 1) := by decide +kernel
theorem dX4_readBook_17 : decode cX4_readBook 17 = .ok (.ifCond .le 13, 3) := by decide +kernel
theorem dX4_readBook_20 : decode cX4_readBook 20 = .ok (.aload_n 0, 1) := by decide +kernel
theorem dX4_readBook_21 : decode cX4_readBook 21 = .ok (.getfield 37, 3) := by decide +kernel
theorem dX4_readBook_24 : decode cX4_readBook 24 = .ok (.iconst 3, 1) := by decide +kernel
theorem dX4_readBook_25 : decode cX4_readBook 25 = .ok (.if_icmp .ne 5, 3) := by decide +kernel
theorem dX4_readBook_28 : decode cX4_readBook 28 = .ok (.iconst 1, 1) := by decide +kernel
theorem dX4_readBook_29 : decode cX4_readBook 29 = .ok (.ireturn, 1) := by decide +kernel
theorem dX4_readBook_30 : decode cX4_readBook 30 = .ok (.aload_n 0, 1) := by decide +kernel
theorem dX4_readBook_31 : decode cX4_readBook 31 = .ok (.getfield 37, 3) := by decide +kernel
theorem dX4_readBook_34 : decode cX4_readBook 34 = .ok (.iconst 2, 1) := by decide +kernel
theorem dX4_readBook_35 : decode cX4_readBook 35 = .ok (.if_icmp .ne 14, 3) := by decide +kernel
theorem dX4_readBook_38 : decode cX4_readBook 38 = .ok (.aload_n 1, 1) := by decide +kernel
theorem dX4_readBook_39 : decode cX4_readBook 39 = .ok (.aload_n 0, 1) := by decide +kernel
theorem dX4_readBook_40 : decode cX4_readBook 40 = .ok (.getfield 40, 3) := by decide +kernel
theorem dX4_readBook_43 : decode cX4_readBook 43 = .ok (.invokevirtual 73, 3) := by decide +kernel
theorem dX4_readBook_46 : decode cX4_readBook 46 = .ok (.ifCond .ne 5, 3) := by decide +kernel
theorem dX4_readBook_49 : decode cX4_readBook 49 = .ok (.iconst 0, 1) := by decide +kernel
theorem dX4_readBook_50 : decode cX4_readBook 50 = .ok (.ireturn, 1) := by decide +kernel
theorem dX4_readBook_51 : decode cX4_readBook 51 = .ok (.aload_n 1, 1) := by decide +kernel
theorem dX4_readBook_52 : decode cX4_readBook 52 = .ok (.aload_n 0, 1) := by decide +kernel
theorem dX4_readBook_53 : decode cX4_readBook 53 = .ok (.getfield 40, 3) := by decide +kernel
theorem dX4_readBook_56 : decode cX4_readBook 56 = .ok (.invokevirtual 77, 3) := by decide +kernel
theorem dX4_readBook_59 : decode cX4_readBook 59 = .ok (.iinc 2 1, 3) := by decide +kernel
theorem dX4_readBook_62 : decode cX4_readBook 62 = .ok (.goto (-55), 3) := by decide +kernel
theorem dX4_readBook_65 : decode cX4_readBook 65 = .ok (.aload_n 0, 1) := by decide +kernel
theorem dX4_readBook_66 : decode cX4_readBook 66 = .ok (.invokevirtual 69, 3) := by decide +kernel
theorem dX4_readBook_69 : decode cX4_readBook 69 = .ok (.ireturn, 1) := by decide +kernel
theorem dX4_readScribe_0 : decode cX4_readScribe 0 = .ok (.aload_n 0, 1) := by decide +kernel
theorem dX4_readScribe_1 : decode cX4_readScribe 1 = .ok (.iconst 0, 1) := by decide +kernel
theorem dX4_readScribe_2 : decode cX4_readScribe 2 = .ok (.bipush 6, 2) := by decide +kernel
theorem dX4_readScribe_4 : decode cX4_readScribe 4 = .ok (.invokevirtual 62, 3) := by decide +kernel
theorem dX4_readScribe_7 : decode cX4_readScribe 7 = .ok (.ifCond .ne 5, 3) := by decide +kernel
theorem dX4_readScribe_10 : decode cX4_readScribe 10 = .ok (.iconst 0, 1) := by decide +kernel
theorem dX4_readScribe_11 : decode cX4_readScribe 11 = .ok (.ireturn, 1) := by decide +kernel
theorem dX4_readScribe_12 : decode cX4_readScribe 12 = .ok (.aload_n 0, 1) := by decide +kernel
theorem dX4_readScribe_13 : decode cX4_readScribe 13 = .ok (.getfield 40, 3) := by decide +kernel
theorem dX4_readScribe_16 : decode cX4_readScribe 16 = .ok (.istore_n 2, 1) := by decide +kernel
theorem dX4_readScribe_17 : decode cX4_readScribe 17 = .ok (.aload_n 0, 1) := by decide +kernel
theorem dX4_readScribe_18 : decode cX4_readScribe 18 = .ok (.iconst 0, 1) := by decide +kernel
theorem dX4_readScribe_19 : decode cX4_readScribe 19 = .ok (.bipush 6, 2) := by decide +kernel
theorem dX4_readScribe_21 : decode cX4_readScribe 21 = .ok (.invokevirtual 62, 3) := by decide +kernel
theorem dX4_readScribe_24 : decode cX4_readScribe 24 = .ok (.ifCond .ne 5, 3) := by decide +kernel
theorem dX4_readScribe_27 : decode cX4_readScribe 27 = .ok (.iconst 0, 1) := by decide +kernel
theorem dX4_readScribe_28 : decode cX4_readScribe 28 = .ok (.ireturn, 1) := by decide +kernel
theorem dX4_readScribe_29 : decode cX4_readScribe 29 = .ok (.aload_n 1, 1) := by decide +kernel
theorem dX4_readScribe_30 : decode cX4_readScribe 30 = .ok (.iload_n 2, 1) := by decide +kernel
theorem dX4_readScribe_31 : decode cX4_readScribe 31 = .ok (.aload_n 0, 1) := by decide +kernel
theorem dX4_readScribe_32 : decode cX4_readScribe 32 = .ok (.getfield 40, 3) := by decide +kernel
theorem dX4_readScribe_35 : decode cX4_readScribe 35 = .ok (.invokevirtual 81, 3) := by decide +kernel
theorem dX4_readScribe_38 : decode cX4_readScribe 38 = .ok (.aload_n 0, 1) := by decide +kernel
theorem dX4_readScribe_39 : decode cX4_readScribe 39 = .ok (.invokevirtual 69, 3) := by decide +kernel
theorem dX4_readScribe_42 : decode cX4_readScribe 42 = .ok (.ireturn, 1) := by decide +kernel
theorem dX4_readNeed_0 : decode cX4_readNeed 0 = .ok (.aload_n 0, 1) := by decide +kernel
theorem dX4_readNeed_1 : decode cX4_readNeed 1 = .ok (.iconst 1, 1) := by decide +kernel
theorem dX4_readNeed_2 : decode cX4_readNeed 2 = .ok (.putfield 31, 3) := by decide +kernel
theorem dX4_readNeed_5 : decode cX4_readNeed 5 = .ok (.aload_n 0, 1) := by decide +kernel
theorem dX4_readNeed_6 : decode cX4_readNeed 6 = .ok (.iconst 1, 1) := by decide +kernel
theorem dX4_readNeed_7 : decode cX4_readNeed 7 = .ok (.iconst 4, 1) := by decide +kernel
theorem dX4_readNeed_8 : decode cX4_readNeed 8 = .ok (.invokevirtual 62, 3) := by decide +kernel
theorem dX4_readNeed_11 : decode cX4_readNeed 11 = .ok (.ifCond .ne 5, 3) := by decide +kernel
theorem dX4_readNeed_14 : decode cX4_readNeed 14 = .ok (.iconst 0, 1) := by decide +kernel
theorem dX4_readNeed_15 : decode cX4_readNeed 15 = .ok (.ireturn, 1) := by decide +kernel
theorem dX4_readNeed_16 : decode cX4_readNeed 16 = .ok (.aload_n 1, 1) := by decide +kernel
theorem dX4_readNeed_17 : decode cX4_readNeed 17 = .ok (.aload_n 0, 1) := by decide +kernel
theorem dX4_readNeed_18 : decode cX4_readNeed 18 = .ok (.getfield 40, 3) := by decide +kernel
theorem dX4_readNeed_21 : decode cX4_readNeed 21 = .ok (.putfield 85, 3) := by decide +kernel
theorem dX4_readNeed_24 : decode cX4_readNeed 24 = .ok (.aload_n 0, 1) := by decide +kernel
theorem dX4_readNeed_25 : decode cX4_readNeed 25 = .ok (.invokevirtual 69, 3) := by decide +kernel
theorem dX4_readNeed_28 : decode cX4_readNeed 28 = .ok (.ireturn, 1) := by decide +kernel
theorem dX4_readNumber_0 : decode cX4_readNumber 0 = .ok (.aload_n 0, 1) := by decide +kernel
theorem dX4_readNumber_1 : decode cX4_readNumber 1 = .ok (.invokevirtual 34, 3) := by decide +kernel
theorem dX4_readNumber_4 : decode cX4_readNumber 4 = .ok (.aload_n 0, 1) := by decide +kernel
theorem dX4_readNumber_5 : decode cX4_readNumber 5 = .ok (.getfield 37, 3) := by decide +kernel
theorem dX4_readNumber_8 : decode cX4_readNumber 8 = .ok (.iconst 2, 1) := by decide +kernel
theorem dX4_readNumber_9 : decode cX4_readNumber 9 = .ok (.if_icmp .ne 23, 3) := by decide +kernel
theorem dX4_readNumber_12 : decode cX4_readNumber 12 = .ok (.aload_n 0, 1) := by decide +kernel
theorem dX4_readNumber_13 : decode cX4_readNumber 13 = .ok (.getfield 40, 3) := by decide +kernel
theorem dX4_readNumber_16 : decode cX4_readNumber 16 = .ok (.iload_n 1, 1) := by decide +kernel
theorem dX4_readNumber_17 : decode cX4_readNumber 17 = .ok (.if_icmp .lt 15, 3) := by decide +kernel
theorem dX4_readNumber_20 : decode cX4_readNumber 20 = .ok (.aload_n 0, 1) := by decide +kernel
theorem dX4_readNumber_21 : decode cX4_readNumber 21 = .ok (.getfield 40, 3) := by decide +kernel
theorem dX4_readNumber_24 : decode cX4_readNumber 24 = .ok (.iload_n 2, 1) := by decide +kernel
theorem dX4_readNumber_25 : decode cX4_readNumber 25 = .ok (.if_icmp .gt 7, 3) := by decide +kernel
theorem dX4_readNumber_28 : decode cX4_readNumber 28 = .ok (.iconst 1, 1) := by decide +kernel
theorem dX4_readNumber_29 : decode cX4_readNumber 29 = .ok (.goto 4, 3) := by decide +kernel
theorem dX4_readNumber_32 : decode cX4_readNumber 32 = .ok (.iconst 0, 1) := by decide +kernel
theorem dX4_readNumber_33 : decode cX4_readNumber 33 = .ok (.ireturn, 1) := by decide +kernel
theorem dX4_readStop_0 : decode cX4_readStop 0 = .ok (.aload_n 0, 1) := by decide +kernel
theorem dX4_readStop_1 : decode cX4_readStop 1 = .ok (.invokevirtual 34, 3) := by decide +kernel
theorem dX4_readStop_4 : decode cX4_readStop 4 = .ok (.aload_n 0, 1) := by decide +kernel
theorem dX4_readStop_5 : decode cX4_readStop 5 = .ok (.getfield 37, 3) := by decide +kernel
theorem dX4_readStop_8 : decode cX4_readStop 8 = .ok (.iconst 3, 1) := by decide +kernel
theorem dX4_readStop_9 : decode cX4_readStop 9 = .ok (.if_icmp .ne 7, 3) := by decide +kernel
theorem dX4_readStop_12 : decode cX4_readStop 12 = .ok (.iconst 1, 1) := by decide +kernel
theorem dX4_readStop_13 : decode cX4_readStop 13 = .ok (.goto 4, 3) := by decide +kernel
theorem dX4_readStop_16 : decode cX4_readStop 16 = .ok (.iconst 0, 1) := by decide +kernel
theorem dX4_readStop_17 : decode cX4_readStop 17 = .ok (.ireturn, 1) := by decide +kernel
theorem dX4_readToken_0 : decode cX4_readToken 0 = .ok (.aload_n 0, 1) := by decide +kernel
theorem dX4_readToken_1 : decode cX4_readToken 1 = .ok (.getfield 24, 3) := by decide +kernel
theorem dX4_readToken_4 : decode cX4_readToken 4 = .ok (.aload_n 0, 1) := by decide +kernel
theorem dX4_readToken_5 : decode cX4_readToken 5 = .ok (.getfield 15, 3) := by decide +kernel
theorem dX4_readToken_8 : decode cX4_readToken 8 = .ok (.if_icmp .ge 29, 3) := by decide +kernel
theorem dX4_readToken_11 : decode cX4_readToken 11 = .ok (.aload_n 0, 1) := by decide +kernel
theorem dX4_readToken_12 : decode cX4_readToken 12 = .ok (.aload_n 0, 1) := by decide +kernel
theorem dX4_readToken_13 : decode cX4_readToken 13 = .ok (.getfield 24, 3) := by decide +kernel
theorem dX4_readToken_16 : decode cX4_readToken 16 = .ok (.invokevirtual 88, 3) := by decide +kernel
theorem dX4_readToken_19 : decode cX4_readToken 19 = .ok (.bipush 32, 2) := by decide +kernel
theorem dX4_readToken_21 : decode cX4_readToken 21 = .ok (.if_icmp .ne 16, 3) := by decide +kernel
theorem dX4_readToken_24 : decode cX4_readToken 24 = .ok (.aload_n 0, 1) := by decide +kernel
theorem dX4_readToken_25 : decode cX4_readToken 25 = .ok (.dup, 1) := by decide +kernel
theorem dX4_readToken_26 : decode cX4_readToken 26 = .ok (.getfield 24, 3) := by decide +kernel
theorem dX4_readToken_29 : decode cX4_readToken 29 = .ok (.iconst 1, 1) := by decide +kernel
theorem dX4_readToken_30 : decode cX4_readToken 30 = .ok (.iadd, 1) := by decide +kernel
theorem dX4_readToken_31 : decode cX4_readToken 31 = .ok (.putfield 24, 3) := by decide +kernel
theorem dX4_readToken_34 : decode cX4_readToken 34 = .ok (.goto (-34), 3) := by decide +kernel
theorem dX4_readToken_37 : decode cX4_readToken 37 = .ok (.aload_n 0, 1) := by decide +kernel
theorem dX4_readToken_38 : decode cX4_readToken 38 = .ok (.aload_n 0, 1) := by decide +kernel
theorem dX4_readToken_39 : decode cX4_readToken 39 = .ok (.getfield 24, 3) := by decide +kernel
theorem dX4_readToken_42 : decode cX4_readToken 42 = .ok (.putfield 59, 3) := by decide +kernel
theorem dX4_readToken_45 : decode cX4_readToken 45 = .ok (.aload_n 0, 1) := by decide +kernel
theorem dX4_readToken_46 : decode cX4_readToken 46 = .ok (.aload_n 0, 1) := by decide +kernel
theorem dX4_readToken_47 : decode cX4_readToken 47 = .ok (.getfield 24, 3) := by decide +kernel
theorem dX4_readToken_50 : decode cX4_readToken 50 = .ok (.invokevirtual 88, 3) := by decide +kernel
theorem dX4_readToken_53 : decode cX4_readToken 53 = .ok (.istore_n 1, 1) := by decide +kernel
theorem dX4_readToken_54 : decode cX4_readToken 54 = .ok (.iload_n 1, 1) := by decide +kernel
theorem dX4_readToken_55 : decode cX4_readToken 55 = .ok (.invokestatic 92, 3) := by decide +kernel
theorem dX4_readToken_58 : decode cX4_readToken 58 = .ok (.ifCond .eq 10, 3) := by decide +kernel
theorem dX4_readToken_61 : decode cX4_readToken 61 = .ok (.aload_n 0, 1) := by decide +kernel
theorem dX4_readToken_62 : decode cX4_readToken 62 = .ok (.invokevirtual 95, 3) := by decide +kernel
theorem dX4_readToken_65 : decode cX4_readToken 65 = .ok (.goto 54, 3) := by decide +kernel
theorem dX4_readToken_68 : decode cX4_readToken 68 = .ok (.iload_n 1, 1) := by decide +kernel
theorem dX4_readToken_69 : decode cX4_readToken 69 = .ok (.invokestatic 98, 3) := by decide +kernel
theorem dX4_readToken_72 : decode cX4_readToken 72 = .ok (.ifCond .eq 10, 3) := by decide +kernel
