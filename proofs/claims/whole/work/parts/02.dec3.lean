theorem dX9_step_40 : decode cX9_step 40 = .ok (.iload_n 1, 1) := by decide +kernel
theorem dX9_step_41 : decode cX9_step 41 = .ok (.ifCond .ge 11, 3) := by decide +kernel
theorem dX9_step_44 : decode cX9_step 44 = .ok (.aload_n 0, 1) := by decide +kernel
theorem dX9_step_45 : decode cX9_step 45 = .ok (.iconst 3, 1) := by decide +kernel
theorem dX9_step_46 : decode cX9_step 46 = .ok (.putfield 78, 3) := by decide +kernel
theorem dX9_step_49 : decode cX9_step 49 = .ok (.goto 204, 3) := by decide +kernel
theorem dX9_step_52 : decode cX9_step 52 = .ok (.iload_n 1, 1) := by decide +kernel
theorem dX9_step_53 : decode cX9_step 53 = .ok (.bipush 97, 2) := by decide +kernel
theorem dX9_step_55 : decode cX9_step 55 = .ok (.bipush 122, 2) := by decide +kernel
theorem dX9_step_57 : decode cX9_step 57 = .ok (.invokestatic 57, 3) := by decide +kernel
theorem dX9_step_60 : decode cX9_step 60 = .ok (.ifCond .eq 55, 3) := by decide +kernel
theorem dX9_step_63 : decode cX9_step 63 = .ok (.aload_n 0, 1) := by decide +kernel
theorem dX9_step_64 : decode cX9_step 64 = .ok (.invokevirtual 68, 3) := by decide +kernel
theorem dX9_step_67 : decode cX9_step 67 = .ok (.bipush 97, 2) := by decide +kernel
theorem dX9_step_69 : decode cX9_step 69 = .ok (.bipush 122, 2) := by decide +kernel
theorem dX9_step_71 : decode cX9_step 71 = .ok (.invokestatic 57, 3) := by decide +kernel
theorem dX9_step_74 : decode cX9_step 74 = .ok (.ifCond .eq 16, 3) := by decide +kernel
theorem dX9_step_77 : decode cX9_step 77 = .ok (.aload_n 0, 1) := by decide +kernel
theorem dX9_step_78 : decode cX9_step 78 = .ok (.dup, 1) := by decide +kernel
theorem dX9_step_79 : decode cX9_step 79 = .ok (.getfield 65, 3) := by decide +kernel
theorem dX9_step_82 : decode cX9_step 82 = .ok (.iconst 1, 1) := by decide +kernel
theorem dX9_step_83 : decode cX9_step 83 = .ok (.iadd, 1) := by decide +kernel
theorem dX9_step_84 : decode cX9_step 84 = .ok (.putfield 65, 3) := by decide +kernel
theorem dX9_step_87 : decode cX9_step 87 = .ok (.goto (-24), 3) := by decide +kernel
theorem dX9_step_90 : decode cX9_step 90 = .ok (.aload_n 0, 1) := by decide +kernel
theorem dX9_step_91 : decode cX9_step 91 = .ok (.aload_n 0, 1) := by decide +kernel
theorem dX9_step_92 : decode cX9_step 92 = .ok (.getfield 65, 3) := by decide +kernel
theorem dX9_step_95 : decode cX9_step 95 = .ok (.aload_n 0, 1) := by decide +kernel
theorem dX9_step_96 : decode cX9_step 96 = .ok (.getfield 72, 3) := by decide +kernel
theorem dX9_step_99 : decode cX9_step 99 = .ok (.isub, 1) := by decide +kernel
theorem dX9_step_100 : decode cX9_step 100 = .ok (.iconst 1, 1) := by decide +kernel
theorem dX9_step_101 : decode cX9_step 101 = .ok (.if_icmp .ne 7, 3) := by decide +kernel
theorem dX9_step_104 : decode cX9_step 104 = .ok (.iload_n 1, 1) := by decide +kernel
theorem dX9_step_105 : decode cX9_step 105 = .ok (.goto 4, 3) := by decide +kernel
theorem dX9_step_108 : decode cX9_step 108 = .ok (.iconst 4, 1) := by decide +kernel
theorem dX9_step_109 : decode cX9_step 109 = .ok (.putfield 78, 3) := by decide +kernel
theorem dX9_step_112 : decode cX9_step 112 = .ok (.goto 141, 3) := by decide +kernel
theorem dX9_step_115 : decode cX9_step 115 = .ok (.iload_n 1, 1) := by decide +kernel
theorem dX9_step_116 : decode cX9_step 116 = .ok (.bipush 48, 2) := by decide +kernel
theorem dX9_step_118 : decode cX9_step 118 = .ok (.bipush 57, 2) := by decide +kernel
theorem dX9_step_120 : decode cX9_step 120 = .ok (.invokestatic 57, 3) := by decide +kernel
theorem dX9_step_123 : decode cX9_step 123 = .ok (.ifCond .eq 105, 3) := by decide +kernel
theorem dX9_step_126 : decode cX9_step 126 = .ok (.aload_n 0, 1) := by decide +kernel
theorem dX9_step_127 : decode cX9_step 127 = .ok (.invokevirtual 68, 3) := by decide +kernel
theorem dX9_step_130 : decode cX9_step 130 = .ok (.bipush 48, 2) := by decide +kernel
theorem dX9_step_132 : decode cX9_step 132 = .ok (.bipush 57, 2) := by decide +kernel
theorem dX9_step_134 : decode cX9_step 134 = .ok (.invokestatic 57, 3) := by decide +kernel
theorem dX9_step_137 : decode cX9_step 137 = .ok (.ifCond .eq 51, 3) := by decide +kernel
theorem dX9_step_140 : decode cX9_step 140 = .ok (.aload_n 0, 1) := by decide +kernel
theorem dX9_step_141 : decode cX9_step 141 = .ok (.aload_n 0, 1) := by decide +kernel
theorem dX9_step_142 : decode cX9_step 142 = .ok (.getfield 75, 3) := by decide +kernel
theorem dX9_step_145 : decode cX9_step 145 = .ok (.bipush 99, 2) := by decide +kernel
theorem dX9_step_147 : decode cX9_step 147 = .ok (.if_icmp .le 10, 3) := by decide +kernel
theorem dX9_step_150 : decode cX9_step 150 = .ok (.aload_n 0, 1) := by decide +kernel
theorem dX9_step_151 : decode cX9_step 151 = .ok (.getfield 75, 3) := by decide +kernel
theorem dX9_step_154 : decode cX9_step 154 = .ok (.goto 18, 3) := by decide +kernel
theorem dX9_step_157 : decode cX9_step 157 = .ok (.bipush 10, 2) := by decide +kernel
theorem dX9_step_159 : decode cX9_step 159 = .ok (.aload_n 0, 1) := by decide +kernel
theorem dX9_step_160 : decode cX9_step 160 = .ok (.getfield 75, 3) := by decide +kernel
theorem dX9_step_163 : decode cX9_step 163 = .ok (.imul, 1) := by decide +kernel
theorem dX9_step_164 : decode cX9_step 164 = .ok (.aload_n 0, 1) := by decide +kernel
theorem dX9_step_165 : decode cX9_step 165 = .ok (.invokevirtual 68, 3) := by decide +kernel
theorem dX9_step_168 : decode cX9_step 168 = .ok (.iadd, 1) := by decide +kernel
theorem dX9_step_169 : decode cX9_step 169 = .ok (.bipush 48, 2) := by decide +kernel
theorem dX9_step_171 : decode cX9_step 171 = .ok (.isub, 1) := by decide +kernel
theorem dX9_step_172 : decode cX9_step 172 = .ok (.putfield 75, 3) := by decide +kernel
theorem dX9_step_175 : decode cX9_step 175 = .ok (.aload_n 0, 1) := by decide +kernel
theorem dX9_step_176 : decode cX9_step 176 = .ok (.dup, 1) := by decide +kernel
theorem dX9_step_177 : decode cX9_step 177 = .ok (.getfield 65, 3) := by decide +kernel
theorem dX9_step_180 : decode cX9_step 180 = .ok (.iconst 1, 1) := by decide +kernel
theorem dX9_step_181 : decode cX9_step 181 = .ok (.iadd, 1) := by decide +kernel
theorem dX9_step_182 : decode cX9_step 182 = .ok (.putfield 65, 3) := by decide +kernel
theorem dX9_step_185 : decode cX9_step 185 = .ok (.goto (-59), 3) := by decide +kernel
theorem dX9_step_188 : decode cX9_step 188 = .ok (.aload_n 0, 1) := by decide +kernel
theorem dX9_step_189 : decode cX9_step 189 = .ok (.aload_n 0, 1) := by decide +kernel
theorem dX9_step_190 : decode cX9_step 190 = .ok (.getfield 75, 3) := by decide +kernel
theorem dX9_step_193 : decode cX9_step 193 = .ok (.bipush 99, 2) := by decide +kernel
theorem dX9_step_195 : decode cX9_step 195 = .ok (.if_icmp .gt 22, 3) := by decide +kernel
theorem dX9_step_198 : decode cX9_step 198 = .ok (.iload_n 1, 1) := by decide +kernel
theorem dX9_step_199 : decode cX9_step 199 = .ok (.bipush 48, 2) := by decide +kernel
theorem dX9_step_201 : decode cX9_step 201 = .ok (.if_icmp .ne 20, 3) := by decide +kernel
theorem dX9_step_204 : decode cX9_step 204 = .ok (.aload_n 0, 1) := by decide +kernel
theorem dX9_step_205 : decode cX9_step 205 = .ok (.getfield 65, 3) := by decide +kernel
theorem dX9_step_208 : decode cX9_step 208 = .ok (.aload_n 0, 1) := by decide +kernel
theorem dX9_step_209 : decode cX9_step 209 = .ok (.getfield 72, 3) := by decide +kernel
theorem dX9_step_212 : decode cX9_step 212 = .ok (.isub, 1) := by decide +kernel
theorem dX9_step_213 : decode cX9_step 213 = .ok (.iconst 1, 1) := by decide +kernel
theorem dX9_step_214 : decode cX9_step 214 = .ok (.if_icmp .le 7, 3) := by decide +kernel
theorem dX9_step_217 : decode cX9_step 217 = .ok (.iconst 4, 1) := by decide +kernel
theorem dX9_step_218 : decode cX9_step 218 = .ok (.goto 4, 3) := by decide +kernel
theorem dX9_step_221 : decode cX9_step 221 = .ok (.iconst 1, 1) := by decide +kernel
theorem dX9_step_222 : decode cX9_step 222 = .ok (.putfield 78, 3) := by decide +kernel
theorem dX9_step_225 : decode cX9_step 225 = .ok (.goto 28, 3) := by decide +kernel
theorem dX9_step_228 : decode cX9_step 228 = .ok (.aload_n 0, 1) := by decide +kernel
theorem dX9_step_229 : decode cX9_step 229 = .ok (.dup, 1) := by decide +kernel
theorem dX9_step_230 : decode cX9_step 230 = .ok (.getfield 65, 3) := by decide +kernel
theorem dX9_step_233 : decode cX9_step 233 = .ok (.iconst 1, 1) := by decide +kernel
theorem dX9_step_234 : decode cX9_step 234 = .ok (.iadd, 1) := by decide +kernel
theorem dX9_step_235 : decode cX9_step 235 = .ok (.putfield 65, 3) := by decide +kernel
theorem dX9_step_238 : decode cX9_step 238 = .ok (.aload_n 0, 1) := by decide +kernel
theorem dX9_step_239 : decode cX9_step 239 = .ok (.iload_n 1, 1) := by decide +kernel
theorem dX9_step_240 : decode cX9_step 240 = .ok (.bipush 59, 2) := by decide +kernel
theorem dX9_step_242 : decode cX9_step 242 = .ok (.if_icmp .ne 7, 3) := by decide +kernel
theorem dX9_step_245 : decode cX9_step 245 = .ok (.iconst 2, 1) := by decide +kernel
theorem dX9_step_246 : decode cX9_step 246 = .ok (.goto 4, 3) := by decide +kernel
theorem dX9_step_249 : decode cX9_step 249 = .ok (.iconst 4, 1) := by decide +kernel
theorem dX9_step_250 : decode cX9_step 250 = .ok (.putfield 78, 3) := by decide +kernel
theorem dX9_step_253 : decode cX9_step 253 = .ok (.return_, 1) := by decide +kernel
theorem dX9_due_0 : decode cX9_due 0 = .ok (.aload_n 0, 1) := by decide +kernel
theorem dX9_due_1 : decode cX9_due 1 = .ok (.getfield 75, 3) := by decide +kernel
theorem dX9_due_4 : decode cX9_due 4 = .ok (.istore_n 2, 1) := by decide +kernel
theorem dX9_due_5 : decode cX9_due 5 = .ok (.aload_n 0, 1) := by decide +kernel
theorem dX9_due_6 : decode cX9_due 6 = .ok (.getfield 81, 3) := by decide +kernel
theorem dX9_due_9 : decode cX9_due 9 = .ok (.bipush (-9), 2) := by decide +kernel
theorem dX9_due_11 : decode cX9_due 11 = .ok (.if_icmp .ne 22, 3) := by decide +kernel
theorem dX9_due_14 : decode cX9_due 14 = .ok (.iload_n 1, 1) := by decide +kernel
theorem dX9_due_15 : decode cX9_due 15 = .ok (.ifCond .eq 10, 3) := by decide +kernel
theorem dX9_due_18 : decode cX9_due 18 = .ok (.aload_n 0, 1) := by decide +kernel
theorem dX9_due_19 : decode cX9_due 19 = .ok (.invokevirtual 84, 3) := by decide +kernel
theorem dX9_due_22 : decode cX9_due 22 = .ok (.goto 11, 3) := by decide +kernel
theorem dX9_due_25 : decode cX9_due 25 = .ok (.aload_n 0, 1) := by decide +kernel
theorem dX9_due_26 : decode cX9_due 26 = .ok (.aload_n 0, 1) := by decide +kernel
theorem dX9_due_27 : decode cX9_due 27 = .ok (.getfield 72, 3) := by decide +kernel
theorem dX9_due_30 : decode cX9_due 30 = .ok (.putfield 81, 3) := by decide +kernel
theorem dX9_due_33 : decode cX9_due 33 = .ok (.iload_n 2, 1) := by decide +kernel
theorem dX9_due_34 : decode cX9_due 34 = .ok (.ireturn, 1) := by decide +kernel
theorem dX9_number_0 : decode cX9_number 0 = .ok (.aload_n 0, 1) := by decide +kernel
theorem dX9_number_1 : decode cX9_number 1 = .ok (.aload_n 0, 1) := by decide +kernel
theorem dX9_number_2 : decode cX9_number 2 = .ok (.getfield 78, 3) := by decide +kernel
theorem dX9_number_5 : decode cX9_number 5 = .ok (.iconst 1, 1) := by decide +kernel
theorem dX9_number_6 : decode cX9_number 6 = .ok (.if_icmp .ne 19, 3) := by decide +kernel
theorem dX9_number_9 : decode cX9_number 9 = .ok (.aload_n 0, 1) := by decide +kernel
theorem dX9_number_10 : decode cX9_number 10 = .ok (.getfield 75, 3) := by decide +kernel
theorem dX9_number_13 : decode cX9_number 13 = .ok (.iload_n 1, 1) := by decide +kernel
theorem dX9_number_14 : decode cX9_number 14 = .ok (.iload_n 2, 1) := by decide +kernel
theorem dX9_number_15 : decode cX9_number 15 = .ok (.invokestatic 57, 3) := by decide +kernel
theorem dX9_number_18 : decode cX9_number 18 = .ok (.ifCond .eq 7, 3) := by decide +kernel
theorem dX9_number_21 : decode cX9_number 21 = .ok (.iconst 1, 1) := by decide +kernel
theorem dX9_number_22 : decode cX9_number 22 = .ok (.goto 4, 3) := by decide +kernel
theorem dX9_number_25 : decode cX9_number 25 = .ok (.iconst 0, 1) := by decide +kernel
theorem dX9_number_26 : decode cX9_number 26 = .ok (.invokevirtual 87, 3) := by decide +kernel
theorem dX9_number_29 : decode cX9_number 29 = .ok (.ireturn, 1) := by decide +kernel
theorem dX9_mayBe_0 : decode cX9_mayBe 0 = .ok (.iload_n 1, 1) := by decide +kernel
theorem dX9_mayBe_1 : decode cX9_mayBe 1 = .ok (.lookupswitch 98 #[(98, 53), (110, 85), (111, 43), (115, 68)], 43) := by decide +kernel
theorem dX9_mayBe_44 : decode cX9_mayBe 44 = .ok (.iload_n 2, 1) := by decide +kernel
theorem dX9_mayBe_45 : decode cX9_mayBe 45 = .ok (.ifCond .ne 7, 3) := by decide +kernel
theorem dX9_mayBe_48 : decode cX9_mayBe 48 = .ok (.iconst 1, 1) := by decide +kernel
theorem dX9_mayBe_49 : decode cX9_mayBe 49 = .ok (.goto 4, 3) := by decide +kernel
theorem dX9_mayBe_52 : decode cX9_mayBe 52 = .ok (.iconst 0, 1) := by decide +kernel
theorem dX9_mayBe_53 : decode cX9_mayBe 53 = .ok (.ireturn, 1) := by decide +kernel
theorem dX9_mayBe_54 : decode cX9_mayBe 54 = .ok (.aload_n 0, 1) := by decide +kernel
theorem dX9_mayBe_55 : decode cX9_mayBe 55 = .ok (.getfield 17, 3) := by decide +kernel
theorem dX9_mayBe_58 : decode cX9_mayBe 58 = .ok (.iconst 1, 1) := by decide +kernel
theorem dX9_mayBe_59 : decode cX9_mayBe 59 = .ok (.iaload, 1) := by decide +kernel
theorem dX9_mayBe_60 : decode cX9_mayBe 60 = .ok (.ifCond .ne 7, 3) := by decide +kernel
theorem dX9_mayBe_63 : decode cX9_mayBe 63 = .ok (.iconst 1, 1) := by decide +kernel
theorem dX9_mayBe_64 : decode cX9_mayBe 64 = .ok (.goto 4, 3) := by decide +kernel
theorem dX9_mayBe_67 : decode cX9_mayBe 67 = .ok (.iconst 0, 1) := by decide +kernel
theorem dX9_mayBe_68 : decode cX9_mayBe 68 = .ok (.ireturn, 1) := by decide +kernel
theorem dX9_mayBe_69 : decode cX9_mayBe 69 = .ok (.aload_n 0, 1) := by decide +kernel
theorem dX9_mayBe_70 : decode cX9_mayBe 70 = .ok (.getfield 23, 3) := by decide +kernel
theorem dX9_mayBe_73 : decode cX9_mayBe 73 = .ok (.iconst 1, 1) := by decide +kernel
theorem dX9_mayBe_74 : decode cX9_mayBe 74 = .ok (.iaload, 1) := by decide +kernel
theorem dX9_mayBe_75 : decode cX9_mayBe 75 = .ok (.bipush 6, 2) := by decide +kernel
theorem dX9_mayBe_77 : decode cX9_mayBe 77 = .ok (.if_icmp .ge 7, 3) := by decide +kernel
theorem dX9_mayBe_80 : decode cX9_mayBe 80 = .ok (.iconst 1, 1) := by decide +kernel
theorem dX9_mayBe_81 : decode cX9_mayBe 81 = .ok (.goto 4, 3) := by decide +kernel
theorem dX9_mayBe_84 : decode cX9_mayBe 84 = .ok (.iconst 0, 1) := by decide +kernel
theorem dX9_mayBe_85 : decode cX9_mayBe 85 = .ok (.ireturn, 1) := by decide +kernel
theorem dX9_mayBe_86 : decode cX9_mayBe 86 = .ok (.aload_n 0, 1) := by decide +kernel
theorem dX9_mayBe_87 : decode cX9_mayBe 87 = .ok (.getfield 91, 3) := by decide +kernel
theorem dX9_mayBe_90 : decode cX9_mayBe 90 = .ok (.ifCond .ne 7, 3) := by decide +kernel
theorem dX9_mayBe_93 : decode cX9_mayBe 93 = .ok (.iconst 1, 1) := by decide +kernel
theorem dX9_mayBe_94 : decode cX9_mayBe 94 = .ok (.goto 4, 3) := by decide +kernel
theorem dX9_mayBe_97 : decode cX9_mayBe 97 = .ok (.iconst 0, 1) := by decide +kernel
theorem dX9_mayBe_98 : decode cX9_mayBe 98 = .ok (.ireturn, 1) := by decide +kernel
theorem dX9_mayBe_99 : decode cX9_mayBe 99 = .ok (.iconst 0, 1) := by decide +kernel
theorem dX9_mayBe_100 : decode cX9_mayBe 100 = .ok (.ireturn, 1) := by decide +kernel
theorem dX9_readRow_0 : decode cX9_readRow 0 = .ok (.iload_n 1, 1) := by decide +kernel
theorem dX9_readRow_1 : decode cX9_readRow 1 = .ok (.lookupswitch 195 #[(98, 50), (111, 35), (115, 140)], 35) := by decide +kernel
theorem dX9_readRow_36 : decode cX9_readRow 36 = .ok (.aload_n 0, 1) := by decide +kernel
theorem dX9_readRow_37 : decode cX9_readRow 37 = .ok (.getfield 13, 3) := by decide +kernel
theorem dX9_readRow_40 : decode cX9_readRow 40 = .ok (.iconst 1, 1) := by decide +kernel
theorem dX9_readRow_41 : decode cX9_readRow 41 = .ok (.aload_n 0, 1) := by decide +kernel
theorem dX9_readRow_42 : decode cX9_readRow 42 = .ok (.iconst 2, 1) := by decide +kernel
theorem dX9_readRow_43 : decode cX9_readRow 43 = .ok (.iconst 5, 1) := by decide +kernel
theorem dX9_readRow_44 : decode cX9_readRow 44 = .ok (.invokevirtual 95, 3) := by decide +kernel
theorem dX9_readRow_47 : decode cX9_readRow 47 = .ok (.iastore, 1) := by decide +kernel
theorem dX9_readRow_48 : decode cX9_readRow 48 = .ok (.goto 165, 3) := by decide +kernel
theorem dX9_readRow_51 : decode cX9_readRow 51 = .ok (.aload_n 0, 1) := by decide +kernel
theorem dX9_readRow_52 : decode cX9_readRow 52 = .ok (.getfield 20, 3) := by decide +kernel
theorem dX9_readRow_55 : decode cX9_readRow 55 = .ok (.iconst 0, 1) := by decide +kernel
theorem dX9_readRow_56 : decode cX9_readRow 56 = .ok (.aload_n 0, 1) := by decide +kernel
theorem dX9_readRow_57 : decode cX9_readRow 57 = .ok (.iconst 0, 1) := by decide +kernel
theorem dX9_readRow_58 : decode cX9_readRow 58 = .ok (.aload_n 0, 1) := by decide +kernel
theorem dX9_readRow_59 : decode cX9_readRow 59 = .ok (.getfield 13, 3) := by decide +kernel
theorem dX9_readRow_62 : decode cX9_readRow 62 = .ok (.iconst 1, 1) := by decide +kernel
theorem dX9_readRow_63 : decode cX9_readRow 63 = .ok (.iaload, 1) := by decide +kernel
theorem dX9_readRow_64 : decode cX9_readRow 64 = .ok (.iconst 1, 1) := by decide +kernel
theorem dX9_readRow_65 : decode cX9_readRow 65 = .ok (.isub, 1) := by decide +kernel
theorem dX9_readRow_66 : decode cX9_readRow 66 = .ok (.invokevirtual 95, 3) := by decide +kernel
theorem dX9_readRow_69 : decode cX9_readRow 69 = .ok (.iastore, 1) := by decide +kernel
theorem dX9_readRow_70 : decode cX9_readRow 70 = .ok (.aload_n 0, 1) := by decide +kernel
theorem dX9_readRow_71 : decode cX9_readRow 71 = .ok (.getfield 17, 3) := by decide +kernel
theorem dX9_readRow_74 : decode cX9_readRow 74 = .ok (.iconst 1, 1) := by decide +kernel
theorem dX9_readRow_75 : decode cX9_readRow 75 = .ok (.iconst 1, 1) := by decide +kernel
theorem dX9_readRow_76 : decode cX9_readRow 76 = .ok (.iastore, 1) := by decide +kernel
theorem dX9_readRow_77 : decode cX9_readRow 77 = .ok (.aload_n 0, 1) := by decide +kernel
theorem dX9_readRow_78 : decode cX9_readRow 78 = .ok (.getfield 81, 3) := by decide +kernel
theorem dX9_readRow_81 : decode cX9_readRow 81 = .ok (.bipush (-9), 2) := by decide +kernel
theorem dX9_readRow_83 : decode cX9_readRow 83 = .ok (.if_icmp .ne 130, 3) := by decide +kernel
theorem dX9_readRow_86 : decode cX9_readRow 86 = .ok (.aload_n 0, 1) := by decide +kernel
theorem dX9_readRow_87 : decode cX9_readRow 87 = .ok (.getfield 78, 3) := by decide +kernel
theorem dX9_readRow_90 : decode cX9_readRow 90 = .ok (.iconst 1, 1) := by decide +kernel
theorem dX9_readRow_91 : decode cX9_readRow 91 = .ok (.if_icmp .ne 122, 3) := by decide +kernel
theorem dX9_readRow_94 : decode cX9_readRow 94 = .ok (.aload_n 0, 1) := by decide +kernel
theorem dX9_readRow_95 : decode cX9_readRow 95 = .ok (.getfield 17, 3) := by decide +kernel
theorem dX9_readRow_98 : decode cX9_readRow 98 = .ok (.iconst 1, 1) := by decide +kernel
theorem dX9_readRow_99 : decode cX9_readRow 99 = .ok (.iaload, 1) := by decide +kernel
theorem dX9_readRow_100 : decode cX9_readRow 100 = .ok (.iconst 4, 1) := by decide +kernel
theorem dX9_readRow_101 : decode cX9_readRow 101 = .ok (.if_icmp .ge 112, 3) := by decide +kernel
theorem dX9_readRow_104 : decode cX9_readRow 104 = .ok (.aload_n 0, 1) := by decide +kernel
theorem dX9_readRow_105 : decode cX9_readRow 105 = .ok (.getfield 20, 3) := by decide +kernel
theorem dX9_readRow_108 : decode cX9_readRow 108 = .ok (.aload_n 0, 1) := by decide +kernel
theorem dX9_readRow_109 : decode cX9_readRow 109 = .ok (.getfield 17, 3) := by decide +kernel
theorem dX9_readRow_112 : decode cX9_readRow 112 = .ok (.iconst 1, 1) := by decide +kernel
theorem dX9_readRow_113 : decode cX9_readRow 113 = .ok (.iaload, 1) := by decide +kernel
theorem dX9_readRow_114 : decode cX9_readRow 114 = .ok (.aload_n 0, 1) := by decide +kernel
theorem dX9_readRow_115 : decode cX9_readRow 115 = .ok (.iconst 0, 1) := by decide +kernel
theorem dX9_readRow_116 : decode cX9_readRow 116 = .ok (.aload_n 0, 1) := by decide +kernel
theorem dX9_readRow_117 : decode cX9_readRow 117 = .ok (.getfield 13, 3) := by decide +kernel
theorem dX9_readRow_120 : decode cX9_readRow 120 = .ok (.iconst 1, 1) := by decide +kernel
theorem dX9_readRow_121 : decode cX9_readRow 121 = .ok (.iaload, 1) := by decide +kernel
theorem dX9_readRow_122 : decode cX9_readRow 122 = .ok (.iconst 1, 1) := by decide +kernel
theorem dX9_readRow_123 : decode cX9_readRow 123 = .ok (.isub, 1) := by decide +kernel
theorem dX9_readRow_124 : decode cX9_readRow 124 = .ok (.invokevirtual 95, 3) := by decide +kernel
theorem dX9_readRow_127 : decode cX9_readRow 127 = .ok (.iastore, 1) := by decide +kernel
theorem dX9_readRow_128 : decode cX9_readRow 128 = .ok (.aload_n 0, 1) := by decide +kernel
theorem dX9_readRow_129 : decode cX9_readRow 129 = .ok (.getfield 17, 3) := by decide +kernel
theorem dX9_readRow_132 : decode cX9_readRow 132 = .ok (.iconst 1, 1) := by decide +kernel
theorem dX9_readRow_133 : decode cX9_readRow 133 = .ok (.dup2, 1) := by decide +kernel
theorem dX9_readRow_134 : decode cX9_readRow 134 = .ok (.iaload, 1) := by decide +kernel
theorem dX9_readRow_135 : decode cX9_readRow 135 = .ok (.iconst 1, 1) := by decide +kernel
theorem dX9_readRow_136 : decode cX9_readRow 136 = .ok (.iadd, 1) := by decide +kernel
theorem dX9_readRow_137 : decode cX9_readRow 137 = .ok (.iastore, 1) := by decide +kernel
theorem dX9_readRow_138 : decode cX9_readRow 138 = .ok (.goto (-61), 3) := by decide +kernel
theorem dX9_readRow_141 : decode cX9_readRow 141 = .ok (.aload_n 0, 1) := by decide +kernel
theorem dX9_readRow_142 : decode cX9_readRow 142 = .ok (.getfield 26, 3) := by decide +kernel
theorem dX9_readRow_145 : decode cX9_readRow 145 = .ok (.bipush 6, 2) := by decide +kernel
theorem dX9_readRow_147 : decode cX9_readRow 147 = .ok (.aload_n 0, 1) := by decide +kernel
theorem dX9_readRow_148 : decode cX9_readRow 148 = .ok (.getfield 23, 3) := by decide +kernel
theorem dX9_readRow_151 : decode cX9_readRow 151 = .ok (.iconst 1, 1) := by decide +kernel
theorem dX9_readRow_152 : decode cX9_readRow 152 = .ok (.iaload, 1) := by decide +kernel
theorem dX9_readRow_153 : decode cX9_readRow 153 = .ok (.iadd, 1) := by decide +kernel
theorem dX9_readRow_154 : decode cX9_readRow 154 = .ok (.aload_n 0, 1) := by decide +kernel
theorem dX9_readRow_155 : decode cX9_readRow 155 = .ok (.iconst 0, 1) := by decide +kernel
theorem dX9_readRow_156 : decode cX9_readRow 156 = .ok (.bipush 6, 2) := by decide +kernel
theorem dX9_readRow_158 : decode cX9_readRow 158 = .ok (.invokevirtual 95, 3) := by decide +kernel
theorem dX9_readRow_161 : decode cX9_readRow 161 = .ok (.iastore, 1) := by decide +kernel
theorem dX9_readRow_162 : decode cX9_readRow 162 = .ok (.aload_n 0, 1) := by decide +kernel
theorem dX9_readRow_163 : decode cX9_readRow 163 = .ok (.getfield 29, 3) := by decide +kernel
theorem dX9_readRow_166 : decode cX9_readRow 166 = .ok (.bipush 6, 2) := by decide +kernel
theorem dX9_readRow_168 : decode cX9_readRow 168 = .ok (.aload_n 0, 1) := by decide +kernel
theorem dX9_readRow_169 : decode cX9_readRow 169 = .ok (.getfield 23, 3) := by decide +kernel
theorem dX9_readRow_172 : decode cX9_readRow 172 = .ok (.iconst 1, 1) := by decide +kernel
theorem dX9_readRow_173 : decode cX9_readRow 173 = .ok (.iaload, 1) := by decide +kernel
theorem dX9_readRow_174 : decode cX9_readRow 174 = .ok (.iadd, 1) := by decide +kernel
theorem dX9_readRow_175 : decode cX9_readRow 175 = .ok (.aload_n 0, 1) := by decide +kernel
theorem dX9_readRow_176 : decode cX9_readRow 176 = .ok (.iconst 0, 1) := by decide +kernel
theorem dX9_readRow_177 : decode cX9_readRow 177 = .ok (.bipush 6, 2) := by decide +kernel
theorem dX9_readRow_179 : decode cX9_readRow 179 = .ok (.invokevirtual 95, 3) := by decide +kernel
theorem dX9_readRow_182 : decode cX9_readRow 182 = .ok (.iastore, 1) := by decide +kernel
theorem dX9_readRow_183 : decode cX9_readRow 183 = .ok (.aload_n 0, 1) := by decide +kernel
theorem dX9_readRow_184 : decode cX9_readRow 184 = .ok (.getfield 23, 3) := by decide +kernel
theorem dX9_readRow_187 : decode cX9_readRow 187 = .ok (.iconst 1, 1) := by decide +kernel
theorem dX9_readRow_188 : decode cX9_readRow 188 = .ok (.dup2, 1) := by decide +kernel
theorem dX9_readRow_189 : decode cX9_readRow 189 = .ok (.iaload, 1) := by decide +kernel
theorem dX9_readRow_190 : decode cX9_readRow 190 = .ok (.iconst 1, 1) := by decide +kernel
theorem dX9_readRow_191 : decode cX9_readRow 191 = .ok (.iadd, 1) := by decide +kernel
theorem dX9_readRow_192 : decode cX9_readRow 192 = .ok (.iastore, 1) := by decide +kernel
theorem dX9_readRow_193 : decode cX9_readRow 193 = .ok (.goto 20, 3) := by decide +kernel
theorem dX9_readRow_196 : decode cX9_readRow 196 = .ok (.aload_n 0, 1) := by decide +kernel
theorem dX9_readRow_197 : decode cX9_readRow 197 = .ok (.getfield 32, 3) := by decide +kernel
theorem dX9_readRow_200 : decode cX9_readRow 200 = .ok (.iconst 1, 1) := by decide +kernel
theorem dX9_readRow_201 : decode cX9_readRow 201 = .ok (.aload_n 0, 1) := by decide +kernel
theorem dX9_readRow_202 : decode cX9_readRow 202 = .ok (.iconst 1, 1) := by decide +kernel
theorem dX9_readRow_203 : decode cX9_readRow 203 = .ok (.iconst 4, 1) := by decide +kernel
theorem dX9_readRow_204 : decode cX9_readRow 204 = .ok (.invokevirtual 95, 3) := by decide +kernel
theorem dX9_readRow_207 : decode cX9_readRow 207 = .ok (.iastore, 1) := by decide +kernel
theorem dX9_readRow_208 : decode cX9_readRow 208 = .ok (.aload_n 0, 1) := by decide +kernel
theorem dX9_readRow_209 : decode cX9_readRow 209 = .ok (.iconst 1, 1) := by decide +kernel
theorem dX9_readRow_210 : decode cX9_readRow 210 = .ok (.putfield 91, 3) := by decide +kernel
theorem dX9_readRow_213 : decode cX9_readRow 213 = .ok (.return_, 1) := by decide +kernel
theorem dX9_plain_0 : decode cX9_plain 0 = .ok (.aload_n 0, 1) := by decide +kernel
theorem dX9_plain_1 : decode cX9_plain 1 = .ok (.getfield 13, 3) := by decide +kernel
theorem dX9_plain_4 : decode cX9_plain 4 = .ok (.iconst 1, 1) := by decide +kernel
theorem dX9_plain_5 : decode cX9_plain 5 = .ok (.iconst 5, 1) := by decide +kernel
theorem dX9_plain_6 : decode cX9_plain 6 = .ok (.iastore, 1) := by decide +kernel
theorem dX9_plain_7 : decode cX9_plain 7 = .ok (.aload_n 0, 1) := by decide +kernel
theorem dX9_plain_8 : decode cX9_plain 8 = .ok (.getfield 17, 3) := by decide +kernel
theorem dX9_plain_11 : decode cX9_plain 11 = .ok (.iconst 1, 1) := by decide +kernel
theorem dX9_plain_12 : decode cX9_plain 12 = .ok (.iconst 0, 1) := by decide +kernel
theorem dX9_plain_13 : decode cX9_plain 13 = .ok (.iastore, 1) := by decide +kernel
theorem dX9_plain_14 : decode cX9_plain 14 = .ok (.aload_n 0, 1) := by decide +kernel
theorem dX9_plain_15 : decode cX9_plain 15 = .ok (.getfield 23, 3) := by decide +kernel
theorem dX9_plain_18 : decode cX9_plain 18 = .ok (.iconst 1, 1) := by decide +kernel
theorem dX9_plain_19 : decode cX9_plain 19 = .ok (.iconst 0, 1) := by decide +kernel
theorem dX9_plain_20 : decode cX9_plain 20 = .ok (.iastore, 1) := by decide +kernel
theorem dX9_plain_21 : decode cX9_plain 21 = .ok (.aload_n 0, 1) := by decide +kernel
theorem dX9_plain_22 : decode cX9_plain 22 = .ok (.getfield 32, 3) := by decide +kernel
theorem dX9_plain_25 : decode cX9_plain 25 = .ok (.iconst 1, 1) := by decide +kernel
theorem dX9_plain_26 : decode cX9_plain 26 = .ok (.iconst 1, 1) := by decide +kernel
theorem dX9_plain_27 : decode cX9_plain 27 = .ok (.iastore, 1) := by decide +kernel
theorem dX9_plain_28 : decode cX9_plain 28 = .ok (.aload_n 0, 1) := by decide +kernel
theorem dX9_plain_29 : decode cX9_plain 29 = .ok (.iconst 0, 1) := by decide +kernel
theorem dX9_plain_30 : decode cX9_plain 30 = .ok (.putfield 91, 3) := by decide +kernel
theorem dX9_plain_33 : decode cX9_plain 33 = .ok (.return_, 1) := by decide +kernel
theorem dX9_takeDraft_0 : decode cX9_takeDraft 0 = .ok (.aload_n 0, 1) := by decide +kernel
theorem dX9_takeDraft_1 : decode cX9_takeDraft 1 = .ok (.getfield 13, 3) := by decide +kernel
theorem dX9_takeDraft_4 : decode cX9_takeDraft 4 = .ok (.iconst 0, 1) := by decide +kernel
theorem dX9_takeDraft_5 : decode cX9_takeDraft 5 = .ok (.aload_n 0, 1) := by decide +kernel
theorem dX9_takeDraft_6 : decode cX9_takeDraft 6 = .ok (.getfield 13, 3) := by decide +kernel
theorem dX9_takeDraft_9 : decode cX9_takeDraft 9 = .ok (.iconst 1, 1) := by decide +kernel
theorem dX9_takeDraft_10 : decode cX9_takeDraft 10 = .ok (.iaload, 1) := by decide +kernel
theorem dX9_takeDraft_11 : decode cX9_takeDraft 11 = .ok (.iastore, 1) := by decide +kernel
theorem dX9_takeDraft_12 : decode cX9_takeDraft 12 = .ok (.aload_n 0, 1) := by decide +kernel
theorem dX9_takeDraft_13 : decode cX9_takeDraft 13 = .ok (.getfield 17, 3) := by decide +kernel
theorem dX9_takeDraft_16 : decode cX9_takeDraft 16 = .ok (.iconst 0, 1) := by decide +kernel
theorem dX9_takeDraft_17 : decode cX9_takeDraft 17 = .ok (.aload_n 0, 1) := by decide +kernel
theorem dX9_takeDraft_18 : decode cX9_takeDraft 18 = .ok (.getfield 17, 3) := by decide +kernel
theorem dX9_takeDraft_21 : decode cX9_takeDraft 21 = .ok (.iconst 1, 1) := by decide +kernel
theorem dX9_takeDraft_22 : decode cX9_takeDraft 22 = .ok (.iaload, 1) := by decide +kernel
theorem dX9_takeDraft_23 : decode cX9_takeDraft 23 = .ok (.iastore, 1) := by decide +kernel
theorem dX9_takeDraft_24 : decode cX9_takeDraft 24 = .ok (.aload_n 0, 1) := by decide +kernel
theorem dX9_takeDraft_25 : decode cX9_takeDraft 25 = .ok (.getfield 23, 3) := by decide +kernel
theorem dX9_takeDraft_28 : decode cX9_takeDraft 28 = .ok (.iconst 0, 1) := by decide +kernel
theorem dX9_takeDraft_29 : decode cX9_takeDraft 29 = .ok (.aload_n 0, 1) := by decide +kernel
theorem dX9_takeDraft_30 : decode cX9_takeDraft 30 = .ok (.getfield 23, 3) := by decide +kernel
theorem dX9_takeDraft_33 : decode cX9_takeDraft 33 = .ok (.iconst 1, 1) := by decide +kernel
theorem dX9_takeDraft_34 : decode cX9_takeDraft 34 = .ok (.iaload, 1) := by decide +kernel
theorem dX9_takeDraft_35 : decode cX9_takeDraft 35 = .ok (.iastore, 1) := by decide +kernel
theorem dX9_takeDraft_36 : decode cX9_takeDraft 36 = .ok (.aload_n 0, 1) := by decide +kernel
theorem dX9_takeDraft_37 : decode cX9_takeDraft 37 = .ok (.getfield 32, 3) := by decide +kernel
theorem dX9_takeDraft_40 : decode cX9_takeDraft 40 = .ok (.iconst 0, 1) := by decide +kernel
theorem dX9_takeDraft_41 : decode cX9_takeDraft 41 = .ok (.aload_n 0, 1) := by decide +kernel
theorem dX9_takeDraft_42 : decode cX9_takeDraft 42 = .ok (.getfield 32, 3) := by decide +kernel
theorem dX9_takeDraft_45 : decode cX9_takeDraft 45 = .ok (.iconst 1, 1) := by decide +kernel
theorem dX9_takeDraft_46 : decode cX9_takeDraft 46 = .ok (.iaload, 1) := by decide +kernel
theorem dX9_takeDraft_47 : decode cX9_takeDraft 47 = .ok (.iastore, 1) := by decide +kernel
theorem dX9_takeDraft_48 : decode cX9_takeDraft 48 = .ok (.iconst 0, 1) := by decide +kernel
theorem dX9_takeDraft_49 : decode cX9_takeDraft 49 = .ok (.istore_n 1, 1) := by decide +kernel
theorem dX9_takeDraft_50 : decode cX9_takeDraft 50 = .ok (.iload_n 1, 1) := by decide +kernel
theorem dX9_takeDraft_51 : decode cX9_takeDraft 51 = .ok (.bipush 6, 2) := by decide +kernel
theorem dX9_takeDraft_53 : decode cX9_takeDraft 53 = .ok (.if_icmp .ge 39, 3) := by decide +kernel
theorem dX9_takeDraft_56 : decode cX9_takeDraft 56 = .ok (.aload_n 0, 1) := by decide +kernel
theorem dX9_takeDraft_57 : decode cX9_takeDraft 57 = .ok (.getfield 26, 3) := by decide +kernel
theorem dX9_takeDraft_60 : decode cX9_takeDraft 60 = .ok (.iload_n 1, 1) := by decide +kernel
theorem dX9_takeDraft_61 : decode cX9_takeDraft 61 = .ok (.aload_n 0, 1) := by decide +kernel
theorem dX9_takeDraft_62 : decode cX9_takeDraft 62 = .ok (.getfield 26, 3) := by decide +kernel
theorem dX9_takeDraft_65 : decode cX9_takeDraft 65 = .ok (.bipush 6, 2) := by decide +kernel
theorem dX9_takeDraft_67 : decode cX9_takeDraft 67 = .ok (.iload_n 1, 1) := by decide +kernel
theorem dX9_takeDraft_68 : decode cX9_takeDraft 68 = .ok (.iadd, 1) := by decide +kernel
theorem dX9_takeDraft_69 : decode cX9_takeDraft 69 = .ok (.iaload, 1) := by decide +kernel
theorem dX9_takeDraft_70 : decode cX9_takeDraft 70 = .ok (.iastore, 1) := by decide +kernel
theorem dX9_takeDraft_71 : decode cX9_takeDraft 71 = .ok (.aload_n 0, 1) := by decide +kernel
theorem dX9_takeDraft_72 : decode cX9_takeDraft 72 = .ok (.getfield 29, 3) := by decide +kernel
theorem dX9_takeDraft_75 : decode cX9_takeDraft 75 = .ok (.iload_n 1, 1) := by decide +kernel
theorem dX9_takeDraft_76 : decode cX9_takeDraft 76 = .ok (.aload_n 0, 1) := by decide +kernel
theorem dX9_takeDraft_77 : decode cX9_takeDraft 77 = .ok (.getfield 29, 3) := by decide +kernel
theorem dX9_takeDraft_80 : decode cX9_takeDraft 80 = .ok (.bipush 6, 2) := by decide +kernel
theorem dX9_takeDraft_82 : decode cX9_takeDraft 82 = .ok (.iload_n 1, 1) := by decide +kernel
theorem dX9_takeDraft_83 : decode cX9_takeDraft 83 = .ok (.iadd, 1) := by decide +kernel
theorem dX9_takeDraft_84 : decode cX9_takeDraft 84 = .ok (.iaload, 1) := by decide +kernel
theorem dX9_takeDraft_85 : decode cX9_takeDraft 85 = .ok (.iastore, 1) := by decide +kernel
theorem dX9_takeDraft_86 : decode cX9_takeDraft 86 = .ok (.iinc 1 1, 3) := by decide +kernel
theorem dX9_takeDraft_89 : decode cX9_takeDraft 89 = .ok (.goto (-39), 3) := by decide +kernel
theorem dX9_takeDraft_92 : decode cX9_takeDraft 92 = .ok (.iconst 0, 1) := by decide +kernel
theorem dX9_takeDraft_93 : decode cX9_takeDraft 93 = .ok (.istore_n 1, 1) := by decide +kernel
theorem dX9_takeDraft_94 : decode cX9_takeDraft 94 = .ok (.iload_n 1, 1) := by decide +kernel
theorem dX9_takeDraft_95 : decode cX9_takeDraft 95 = .ok (.bipush 9, 2) := by decide +kernel
theorem dX9_takeDraft_97 : decode cX9_takeDraft 97 = .ok (.if_icmp .ge 16, 3) := by decide +kernel
theorem dX9_takeDraft_100 : decode cX9_takeDraft 100 = .ok (.aload_n 0, 1) := by decide +kernel
theorem dX9_takeDraft_101 : decode cX9_takeDraft 101 = .ok (.getfield 35, 3) := by decide +kernel
theorem dX9_takeDraft_104 : decode cX9_takeDraft 104 = .ok (.iload_n 1, 1) := by decide +kernel
theorem dX9_takeDraft_105 : decode cX9_takeDraft 105 = .ok (.iconst 0, 1) := by decide +kernel
theorem dX9_takeDraft_106 : decode cX9_takeDraft 106 = .ok (.iastore, 1) := by decide +kernel
theorem dX9_takeDraft_107 : decode cX9_takeDraft 107 = .ok (.iinc 1 1, 3) := by decide +kernel
theorem dX9_takeDraft_110 : decode cX9_takeDraft 110 = .ok (.goto (-16), 3) := by decide +kernel
theorem dX9_takeDraft_113 : decode cX9_takeDraft 113 = .ok (.iconst 0, 1) := by decide +kernel
theorem dX9_takeDraft_114 : decode cX9_takeDraft 114 = .ok (.istore_n 1, 1) := by decide +kernel
theorem dX9_takeDraft_115 : decode cX9_takeDraft 115 = .ok (.iload_n 1, 1) := by decide +kernel
theorem dX9_takeDraft_116 : decode cX9_takeDraft 116 = .ok (.aload_n 0, 1) := by decide +kernel
theorem dX9_takeDraft_117 : decode cX9_takeDraft 117 = .ok (.getfield 17, 3) := by decide +kernel
theorem dX9_takeDraft_120 : decode cX9_takeDraft 120 = .ok (.iconst 0, 1) := by decide +kernel
theorem dX9_takeDraft_121 : decode cX9_takeDraft 121 = .ok (.iaload, 1) := by decide +kernel
theorem dX9_takeDraft_122 : decode cX9_takeDraft 122 = .ok (.if_icmp .ge 35, 3) := by decide +kernel
theorem dX9_takeDraft_125 : decode cX9_takeDraft 125 = .ok (.aload_n 0, 1) := by decide +kernel
theorem dX9_takeDraft_126 : decode cX9_takeDraft 126 = .ok (.getfield 35, 3) := by decide +kernel
theorem dX9_takeDraft_129 : decode cX9_takeDraft 129 = .ok (.iconst 0, 1) := by decide +kernel
theorem dX9_takeDraft_130 : decode cX9_takeDraft 130 = .ok (.aload_n 0, 1) := by decide +kernel
theorem dX9_takeDraft_131 : decode cX9_takeDraft 131 = .ok (.getfield 35, 3) := by decide +kernel
theorem dX9_takeDraft_134 : decode cX9_takeDraft 134 = .ok (.iconst 0, 1) := by decide +kernel
theorem dX9_takeDraft_135 : decode cX9_takeDraft 135 = .ok (.iaload, 1) := by decide +kernel
theorem dX9_takeDraft_136 : decode cX9_takeDraft 136 = .ok (.aload_n 0, 1) := by decide +kernel
theorem dX9_takeDraft_137 : decode cX9_takeDraft 137 = .ok (.getfield 13, 3) := by decide +kernel
theorem dX9_takeDraft_140 : decode cX9_takeDraft 140 = .ok (.iconst 0, 1) := by decide +kernel
theorem dX9_takeDraft_141 : decode cX9_takeDraft 141 = .ok (.iaload, 1) := by decide +kernel
theorem dX9_takeDraft_142 : decode cX9_takeDraft 142 = .ok (.imul, 1) := by decide +kernel
theorem dX9_takeDraft_143 : decode cX9_takeDraft 143 = .ok (.aload_n 0, 1) := by decide +kernel
theorem dX9_takeDraft_144 : decode cX9_takeDraft 144 = .ok (.getfield 20, 3) := by decide +kernel
theorem dX9_takeDraft_147 : decode cX9_takeDraft 147 = .ok (.iload_n 1, 1) := by decide +kernel
theorem dX9_takeDraft_148 : decode cX9_takeDraft 148 = .ok (.iaload, 1) := by decide +kernel
theorem dX9_takeDraft_149 : decode cX9_takeDraft 149 = .ok (.iadd, 1) := by decide +kernel
theorem dX9_takeDraft_150 : decode cX9_takeDraft 150 = .ok (.iastore, 1) := by decide +kernel
theorem dX9_takeDraft_151 : decode cX9_takeDraft 151 = .ok (.iinc 1 1, 3) := by decide +kernel
theorem dX9_takeDraft_154 : decode cX9_takeDraft 154 = .ok (.goto (-39), 3) := by decide +kernel
theorem dX9_takeDraft_157 : decode cX9_takeDraft 157 = .ok (.aload_n 0, 1) := by decide +kernel
theorem dX9_takeDraft_158 : decode cX9_takeDraft 158 = .ok (.aload_n 0, 1) := by decide +kernel
theorem dX9_takeDraft_159 : decode cX9_takeDraft 159 = .ok (.getfield 35, 3) := by decide +kernel
theorem dX9_takeDraft_162 : decode cX9_takeDraft 162 = .ok (.iconst 0, 1) := by decide +kernel
theorem dX9_takeDraft_163 : decode cX9_takeDraft 163 = .ok (.iaload, 1) := by decide +kernel
theorem dX9_takeDraft_164 : decode cX9_takeDraft 164 = .ok (.putfield 99, 3) := by decide +kernel
theorem dX9_takeDraft_167 : decode cX9_takeDraft 167 = .ok (.aload_n 0, 1) := by decide +kernel
theorem dX9_takeDraft_168 : decode cX9_takeDraft 168 = .ok (.getfield 35, 3) := by decide +kernel
theorem dX9_takeDraft_171 : decode cX9_takeDraft 171 = .ok (.bipush 9, 2) := by decide +kernel
theorem dX9_takeDraft_173 : decode cX9_takeDraft 173 = .ok (.iconst 0, 1) := by decide +kernel
theorem dX9_takeDraft_174 : decode cX9_takeDraft 174 = .ok (.iastore, 1) := by decide +kernel
theorem dX9_takeDraft_175 : decode cX9_takeDraft 175 = .ok (.aload_n 0, 1) := by decide +kernel
theorem dX9_takeDraft_176 : decode cX9_takeDraft 176 = .ok (.iconst 0, 1) := by decide +kernel
theorem dX9_takeDraft_177 : decode cX9_takeDraft 177 = .ok (.putfield 102, 3) := by decide +kernel
theorem dX9_takeDraft_180 : decode cX9_takeDraft 180 = .ok (.aload_n 0, 1) := by decide +kernel
theorem dX9_takeDraft_181 : decode cX9_takeDraft 181 = .ok (.getfield 38, 3) := by decide +kernel
theorem dX9_takeDraft_184 : decode cX9_takeDraft 184 = .ok (.iconst 0, 1) := by decide +kernel
theorem dX9_takeDraft_185 : decode cX9_takeDraft 185 = .ok (.iconst 0, 1) := by decide +kernel
theorem dX9_takeDraft_186 : decode cX9_takeDraft 186 = .ok (.bastore, 1) := by decide +kernel
theorem dX9_takeDraft_187 : decode cX9_takeDraft 187 = .ok (.aload_n 0, 1) := by decide +kernel
theorem dX9_takeDraft_188 : decode cX9_takeDraft 188 = .ok (.getfield 38, 3) := by decide +kernel
theorem dX9_takeDraft_191 : decode cX9_takeDraft 191 = .ok (.iconst 1, 1) := by decide +kernel
theorem dX9_takeDraft_192 : decode cX9_takeDraft 192 = .ok (.iconst 0, 1) := by decide +kernel
theorem dX9_takeDraft_193 : decode cX9_takeDraft 193 = .ok (.bastore, 1) := by decide +kernel
theorem dX9_takeDraft_194 : decode cX9_takeDraft 194 = .ok (.return_, 1) := by decide +kernel
theorem dX9_house_0 : decode cX9_house 0 = .ok (.aload_n 0, 1) := by decide +kernel
theorem dX9_house_1 : decode cX9_house 1 = .ok (.iconst 0, 1) := by decide +kernel
theorem dX9_house_2 : decode cX9_house 2 = .ok (.putfield 65, 3) := by decide +kernel
theorem dX9_house_5 : decode cX9_house 5 = .ok (.aload_n 0, 1) := by decide +kernel
theorem dX9_house_6 : decode cX9_house 6 = .ok (.bipush (-9), 2) := by decide +kernel
theorem dX9_house_8 : decode cX9_house 8 = .ok (.putfield 81, 3) := by decide +kernel
theorem dX9_house_11 : decode cX9_house 11 = .ok (.aload_n 0, 1) := by decide +kernel
theorem dX9_house_12 : decode cX9_house 12 = .ok (.invokevirtual 51, 3) := by decide +kernel
theorem dX9_house_15 : decode cX9_house 15 = .ok (.iconst 0, 1) := by decide +kernel
theorem dX9_house_16 : decode cX9_house 16 = .ok (.istore_n 1, 1) := by decide +kernel
theorem dX9_house_17 : decode cX9_house 17 = .ok (.aload_n 0, 1) := by decide +kernel
theorem dX9_house_18 : decode cX9_house 18 = .ok (.invokevirtual 84, 3) := by decide +kernel
theorem dX9_house_21 : decode cX9_house 21 = .ok (.aload_n 0, 1) := by decide +kernel
theorem dX9_house_22 : decode cX9_house 22 = .ok (.getfield 81, 3) := by decide +kernel
theorem dX9_house_25 : decode cX9_house 25 = .ok (.bipush (-9), 2) := by decide +kernel
theorem dX9_house_27 : decode cX9_house 27 = .ok (.if_icmp .ne 65, 3) := by decide +kernel
theorem dX9_house_30 : decode cX9_house 30 = .ok (.aload_n 0, 1) := by decide +kernel
theorem dX9_house_31 : decode cX9_house 31 = .ok (.getfield 78, 3) := by decide +kernel
theorem dX9_house_34 : decode cX9_house 34 = .ok (.iconst 3, 1) := by decide +kernel
theorem dX9_house_35 : decode cX9_house 35 = .ok (.if_icmp .eq 57, 3) := by decide +kernel
theorem dX9_house_38 : decode cX9_house 38 = .ok (.aload_n 0, 1) := by decide +kernel
theorem dX9_house_39 : decode cX9_house 39 = .ok (.getfield 78, 3) := by decide +kernel
theorem dX9_house_42 : decode cX9_house 42 = .ok (.istore_n 2, 1) := by decide +kernel
theorem dX9_house_43 : decode cX9_house 43 = .ok (.aload_n 0, 1) := by decide +kernel
theorem dX9_house_44 : decode cX9_house 44 = .ok (.aload_n 0, 1) := by decide +kernel
theorem dX9_house_45 : decode cX9_house 45 = .ok (.iload_n 2, 1) := by decide +kernel
theorem dX9_house_46 : decode cX9_house 46 = .ok (.iload_n 1, 1) := by decide +kernel
theorem dX9_house_47 : decode cX9_house 47 = .ok (.invokevirtual 105, 3) := by decide +kernel
theorem dX9_house_50 : decode cX9_house 50 = .ok (.invokevirtual 87, 3) := by decide +kernel
theorem dX9_house_53 : decode cX9_house 53 = .ok (.pop, 1) := by decide +kernel
theorem dX9_house_54 : decode cX9_house 54 = .ok (.aload_n 0, 1) := by decide +kernel
theorem dX9_house_55 : decode cX9_house 55 = .ok (.getfield 81, 3) := by decide +kernel
theorem dX9_house_58 : decode cX9_house 58 = .ok (.bipush (-9), 2) := by decide +kernel
theorem dX9_house_60 : decode cX9_house 60 = .ok (.if_icmp .ne 29, 3) := by decide +kernel
theorem dX9_house_63 : decode cX9_house 63 = .ok (.aload_n 0, 1) := by decide +kernel
theorem dX9_house_64 : decode cX9_house 64 = .ok (.iload_n 2, 1) := by decide +kernel
theorem dX9_house_65 : decode cX9_house 65 = .ok (.invokevirtual 109, 3) := by decide +kernel
theorem dX9_house_68 : decode cX9_house 68 = .ok (.aload_n 0, 1) := by decide +kernel
theorem dX9_house_69 : decode cX9_house 69 = .ok (.aload_n 0, 1) := by decide +kernel
theorem dX9_house_70 : decode cX9_house 70 = .ok (.getfield 78, 3) := by decide +kernel
theorem dX9_house_73 : decode cX9_house 73 = .ok (.iconst 2, 1) := by decide +kernel
theorem dX9_house_74 : decode cX9_house 74 = .ok (.if_icmp .ne 7, 3) := by decide +kernel
theorem dX9_house_77 : decode cX9_house 77 = .ok (.iconst 1, 1) := by decide +kernel
theorem dX9_house_78 : decode cX9_house 78 = .ok (.goto 4, 3) := by decide +kernel
theorem dX9_house_81 : decode cX9_house 81 = .ok (.iconst 0, 1) := by decide +kernel
theorem dX9_house_82 : decode cX9_house 82 = .ok (.invokevirtual 87, 3) := by decide +kernel
theorem dX9_house_85 : decode cX9_house 85 = .ok (.pop, 1) := by decide +kernel
theorem dX9_house_86 : decode cX9_house 86 = .ok (.iinc 1 1, 3) := by decide +kernel
theorem dX9_house_89 : decode cX9_house 89 = .ok (.goto (-68), 3) := by decide +kernel
theorem dX9_house_92 : decode cX9_house 92 = .ok (.aload_n 0, 1) := by decide +kernel
theorem dX9_house_93 : decode cX9_house 93 = .ok (.getfield 81, 3) := by decide +kernel
theorem dX9_house_96 : decode cX9_house 96 = .ok (.bipush (-9), 2) := by decide +kernel
theorem dX9_house_98 : decode cX9_house 98 = .ok (.if_icmp .eq 11, 3) := by decide +kernel
theorem dX9_house_101 : decode cX9_house 101 = .ok (.bipush (-10), 2) := by decide +kernel
theorem dX9_house_103 : decode cX9_house 103 = .ok (.aload_n 0, 1) := by decide +kernel
theorem dX9_house_104 : decode cX9_house 104 = .ok (.getfield 81, 3) := by decide +kernel
theorem dX9_house_107 : decode cX9_house 107 = .ok (.isub, 1) := by decide +kernel
theorem dX9_house_108 : decode cX9_house 108 = .ok (.ireturn, 1) := by decide +kernel
theorem dX9_house_109 : decode cX9_house 109 = .ok (.aload_n 0, 1) := by decide +kernel
theorem dX9_house_110 : decode cX9_house 110 = .ok (.invokevirtual 54, 3) := by decide +kernel
theorem dX9_house_113 : decode cX9_house 113 = .ok (.aload_n 0, 1) := by decide +kernel
theorem dX9_house_114 : decode cX9_house 114 = .ok (.iconst 0, 1) := by decide +kernel
theorem dX9_house_115 : decode cX9_house 115 = .ok (.putfield 61, 3) := by decide +kernel
theorem dX9_house_118 : decode cX9_house 118 = .ok (.iload_n 1, 1) := by decide +kernel
theorem dX9_house_119 : decode cX9_house 119 = .ok (.ireturn, 1) := by decide +kernel
theorem dX9_isScribe_0 : decode cX9_isScribe 0 = .ok (.iload_n 1, 1) := by decide +kernel
theorem dX9_isScribe_1 : decode cX9_isScribe 1 = .ok (.iconst 0, 1) := by decide +kernel
theorem dX9_isScribe_2 : decode cX9_isScribe 2 = .ok (.aload_n 0, 1) := by decide +kernel
theorem dX9_isScribe_3 : decode cX9_isScribe 3 = .ok (.getfield 23, 3) := by decide +kernel
theorem dX9_isScribe_6 : decode cX9_isScribe 6 = .ok (.iconst 0, 1) := by decide +kernel
theorem dX9_isScribe_7 : decode cX9_isScribe 7 = .ok (.iaload, 1) := by decide +kernel
theorem dX9_isScribe_8 : decode cX9_isScribe 8 = .ok (.iconst 1, 1) := by decide +kernel
theorem dX9_isScribe_9 : decode cX9_isScribe 9 = .ok (.isub, 1) := by decide +kernel
theorem dX9_isScribe_10 : decode cX9_isScribe 10 = .ok (.invokestatic 57, 3) := by decide +kernel
theorem dX9_isScribe_13 : decode cX9_isScribe 13 = .ok (.ireturn, 1) := by decide +kernel
theorem dX9_isLine_0 : decode cX9_isLine 0 = .ok (.iload_n 1, 1) := by decide +kernel
theorem dX9_isLine_1 : decode cX9_isLine 1 = .ok (.iconst 0, 1) := by decide +kernel
theorem dX9_isLine_2 : decode cX9_isLine 2 = .ok (.aload_n 0, 1) := by decide +kernel
theorem dX9_isLine_3 : decode cX9_isLine 3 = .ok (.getfield 17, 3) := by decide +kernel
theorem dX9_isLine_6 : decode cX9_isLine 6 = .ok (.iconst 0, 1) := by decide +kernel
theorem dX9_isLine_7 : decode cX9_isLine 7 = .ok (.iaload, 1) := by decide +kernel
theorem dX9_isLine_8 : decode cX9_isLine 8 = .ok (.iconst 1, 1) := by decide +kernel
theorem dX9_isLine_9 : decode cX9_isLine 9 = .ok (.isub, 1) := by decide +kernel
theorem dX9_isLine_10 : decode cX9_isLine 10 = .ok (.invokestatic 57, 3) := by decide +kernel
theorem dX9_isLine_13 : decode cX9_isLine 13 = .ok (.ireturn, 1) := by decide +kernel
theorem dX9_isOpinion_0 : decode cX9_isOpinion 0 = .ok (.iload_n 1, 1) := by decide +kernel
theorem dX9_isOpinion_1 : decode cX9_isOpinion 1 = .ok (.iconst 0, 1) := by decide +kernel
theorem dX9_isOpinion_2 : decode cX9_isOpinion 2 = .ok (.aload_n 0, 1) := by decide +kernel
theorem dX9_isOpinion_3 : decode cX9_isOpinion 3 = .ok (.getfield 13, 3) := by decide +kernel
theorem dX9_isOpinion_6 : decode cX9_isOpinion 6 = .ok (.iconst 0, 1) := by decide +kernel
theorem dX9_isOpinion_7 : decode cX9_isOpinion 7 = .ok (.iaload, 1) := by decide +kernel
theorem dX9_isOpinion_8 : decode cX9_isOpinion 8 = .ok (.iconst 1, 1) := by decide +kernel
theorem dX9_isOpinion_9 : decode cX9_isOpinion 9 = .ok (.isub, 1) := by decide +kernel
theorem dX9_isOpinion_10 : decode cX9_isOpinion 10 = .ok (.invokestatic 57, 3) := by decide +kernel
theorem dX9_isOpinion_13 : decode cX9_isOpinion 13 = .ok (.ireturn, 1) := by decide +kernel
theorem dX9_books_0 : decode cX9_books 0 = .ok (.iconst 1, 1) := by decide +kernel
theorem dX9_books_1 : decode cX9_books 1 = .ok (.istore_n 1, 1) := by decide +kernel
theorem dX9_books_2 : decode cX9_books 2 = .ok (.iconst 0, 1) := by decide +kernel
theorem dX9_books_3 : decode cX9_books 3 = .ok (.istore_n 2, 1) := by decide +kernel
theorem dX9_books_4 : decode cX9_books 4 = .ok (.iload_n 2, 1) := by decide +kernel
theorem dX9_books_5 : decode cX9_books 5 = .ok (.aload_n 0, 1) := by decide +kernel
theorem dX9_books_6 : decode cX9_books 6 = .ok (.getfield 17, 3) := by decide +kernel
theorem dX9_books_9 : decode cX9_books 9 = .ok (.iconst 0, 1) := by decide +kernel
theorem dX9_books_10 : decode cX9_books 10 = .ok (.iaload, 1) := by decide +kernel
theorem dX9_books_11 : decode cX9_books 11 = .ok (.if_icmp .ge 18, 3) := by decide +kernel
theorem dX9_books_14 : decode cX9_books 14 = .ok (.iload_n 1, 1) := by decide +kernel
theorem dX9_books_15 : decode cX9_books 15 = .ok (.aload_n 0, 1) := by decide +kernel
theorem dX9_books_16 : decode cX9_books 16 = .ok (.getfield 13, 3) := by decide +kernel
theorem dX9_books_19 : decode cX9_books 19 = .ok (.iconst 0, 1) := by decide +kernel
theorem dX9_books_20 : decode cX9_books 20 = .ok (.iaload, 1) := by decide +kernel
theorem dX9_books_21 : decode cX9_books 21 = .ok (.imul, 1) := by decide +kernel
theorem dX9_books_22 : decode cX9_books 22 = .ok (.istore_n 1, 1) := by decide +kernel
theorem dX9_books_23 : decode cX9_books 23 = .ok (.iinc 2 1, 3) := by decide +kernel
theorem dX9_books_26 : decode cX9_books 26 = .ok (.goto (-22), 3) := by decide +kernel
theorem dX9_books_29 : decode cX9_books 29 = .ok (.iload_n 1, 1) := by decide +kernel
theorem dX9_books_30 : decode cX9_books 30 = .ok (.ireturn, 1) := by decide +kernel
theorem dX9_lineOf_0 : decode cX9_lineOf 0 = .ok (.iload_n 1, 1) := by decide +kernel
theorem dX9_lineOf_1 : decode cX9_lineOf 1 = .ok (.istore_n 3, 1) := by decide +kernel
theorem dX9_lineOf_2 : decode cX9_lineOf 2 = .ok (.aload_n 0, 1) := by decide +kernel
theorem dX9_lineOf_3 : decode cX9_lineOf 3 = .ok (.getfield 17, 3) := by decide +kernel
theorem dX9_lineOf_6 : decode cX9_lineOf 6 = .ok (.iconst 0, 1) := by decide +kernel
theorem dX9_lineOf_7 : decode cX9_lineOf 7 = .ok (.iaload, 1) := by decide +kernel
theorem dX9_lineOf_8 : decode cX9_lineOf 8 = .ok (.iconst 1, 1) := by decide +kernel
theorem dX9_lineOf_9 : decode cX9_lineOf 9 = .ok (.isub, 1) := by decide +kernel
theorem dX9_lineOf_10 : decode cX9_lineOf 10 = .ok (.istore 4, 2) := by decide +kernel
theorem dX9_lineOf_12 : decode cX9_lineOf 12 = .ok (.iload 4, 2) := by decide +kernel
theorem dX9_lineOf_14 : decode cX9_lineOf 14 = .ok (.iload_n 2, 1) := by decide +kernel
theorem dX9_lineOf_15 : decode cX9_lineOf 15 = .ok (.if_icmp .le 18, 3) := by decide +kernel
theorem dX9_lineOf_18 : decode cX9_lineOf 18 = .ok (.iload_n 3, 1) := by decide +kernel
theorem dX9_lineOf_19 : decode cX9_lineOf 19 = .ok (.aload_n 0, 1) := by decide +kernel
theorem dX9_lineOf_20 : decode cX9_lineOf 20 = .ok (.getfield 13, 3) := by decide +kernel
theorem dX9_lineOf_23 : decode cX9_lineOf 23 = .ok (.iconst 0, 1) := by decide +kernel
theorem dX9_lineOf_24 : decode cX9_lineOf 24 = .ok (.iaload, 1) := by decide +kernel
theorem dX9_lineOf_25 : decode cX9_lineOf 25 = .ok (.idiv, 1) := by decide +kernel
theorem dX9_lineOf_26 : decode cX9_lineOf 26 = .ok (.istore_n 3, 1) := by decide +kernel
theorem dX9_lineOf_27 : decode cX9_lineOf 27 = .ok (.iinc 4 (-1), 3) := by decide +kernel
theorem dX9_lineOf_30 : decode cX9_lineOf 30 = .ok (.goto (-18), 3) := by decide +kernel
theorem dX9_lineOf_33 : decode cX9_lineOf 33 = .ok (.iload_n 3, 1) := by decide +kernel
theorem dX9_lineOf_34 : decode cX9_lineOf 34 = .ok (.aload_n 0, 1) := by decide +kernel
theorem dX9_lineOf_35 : decode cX9_lineOf 35 = .ok (.getfield 13, 3) := by decide +kernel
theorem dX9_lineOf_38 : decode cX9_lineOf 38 = .ok (.iconst 0, 1) := by decide +kernel
theorem dX9_lineOf_39 : decode cX9_lineOf 39 = .ok (.iaload, 1) := by decide +kernel
theorem dX9_lineOf_40 : decode cX9_lineOf 40 = .ok (.irem, 1) := by decide +kernel
theorem dX9_lineOf_41 : decode cX9_lineOf 41 = .ok (.ireturn, 1) := by decide +kernel
theorem dX9_saysOf_0 : decode cX9_saysOf 0 = .ok (.aload_n 0, 1) := by decide +kernel
theorem dX9_saysOf_1 : decode cX9_saysOf 1 = .ok (.getfield 26, 3) := by decide +kernel
theorem dX9_saysOf_4 : decode cX9_saysOf 4 = .ok (.iload_n 1, 1) := by decide +kernel
theorem dX9_saysOf_5 : decode cX9_saysOf 5 = .ok (.iaload, 1) := by decide +kernel
theorem dX9_saysOf_6 : decode cX9_saysOf 6 = .ok (.iload_n 2, 1) := by decide +kernel
theorem dX9_saysOf_7 : decode cX9_saysOf 7 = .ok (.imul, 1) := by decide +kernel
theorem dX9_saysOf_8 : decode cX9_saysOf 8 = .ok (.aload_n 0, 1) := by decide +kernel
theorem dX9_saysOf_9 : decode cX9_saysOf 9 = .ok (.getfield 29, 3) := by decide +kernel
theorem dX9_saysOf_12 : decode cX9_saysOf 12 = .ok (.iload_n 1, 1) := by decide +kernel
theorem dX9_saysOf_13 : decode cX9_saysOf 13 = .ok (.iaload, 1) := by decide +kernel
theorem dX9_saysOf_14 : decode cX9_saysOf 14 = .ok (.iadd, 1) := by decide +kernel
theorem dX9_saysOf_15 : decode cX9_saysOf 15 = .ok (.aload_n 0, 1) := by decide +kernel
theorem dX9_saysOf_16 : decode cX9_saysOf 16 = .ok (.getfield 13, 3) := by decide +kernel
theorem dX9_saysOf_19 : decode cX9_saysOf 19 = .ok (.iconst 0, 1) := by decide +kernel
theorem dX9_saysOf_20 : decode cX9_saysOf 20 = .ok (.iaload, 1) := by decide +kernel
theorem dX9_saysOf_21 : decode cX9_saysOf 21 = .ok (.irem, 1) := by decide +kernel
theorem dX9_saysOf_22 : decode cX9_saysOf 22 = .ok (.ireturn, 1) := by decide +kernel
theorem dX9_copyOf_0 : decode cX9_copyOf 0 = .ok (.iconst 0, 1) := by decide +kernel
theorem dX9_copyOf_1 : decode cX9_copyOf 1 = .ok (.istore_n 3, 1) := by decide +kernel
theorem dX9_copyOf_2 : decode cX9_copyOf 2 = .ok (.iconst 0, 1) := by decide +kernel
theorem dX9_copyOf_3 : decode cX9_copyOf 3 = .ok (.istore 4, 2) := by decide +kernel
theorem dX9_copyOf_5 : decode cX9_copyOf 5 = .ok (.iload 4, 2) := by decide +kernel
theorem dX9_copyOf_7 : decode cX9_copyOf 7 = .ok (.aload_n 0, 1) := by decide +kernel
theorem dX9_copyOf_8 : decode cX9_copyOf 8 = .ok (.getfield 17, 3) := by decide +kernel
theorem dX9_copyOf_11 : decode cX9_copyOf 11 = .ok (.iconst 0, 1) := by decide +kernel
theorem dX9_copyOf_12 : decode cX9_copyOf 12 = .ok (.iaload, 1) := by decide +kernel
theorem dX9_copyOf_13 : decode cX9_copyOf 13 = .ok (.if_icmp .ge 31, 3) := by decide +kernel
theorem dX9_copyOf_16 : decode cX9_copyOf 16 = .ok (.iload_n 3, 1) := by decide +kernel
theorem dX9_copyOf_17 : decode cX9_copyOf 17 = .ok (.aload_n 0, 1) := by decide +kernel
theorem dX9_copyOf_18 : decode cX9_copyOf 18 = .ok (.getfield 13, 3) := by decide +kernel
theorem dX9_copyOf_21 : decode cX9_copyOf 21 = .ok (.iconst 0, 1) := by decide +kernel
theorem dX9_copyOf_22 : decode cX9_copyOf 22 = .ok (.iaload, 1) := by decide +kernel
theorem dX9_copyOf_23 : decode cX9_copyOf 23 = .ok (.imul, 1) := by decide +kernel
theorem dX9_copyOf_24 : decode cX9_copyOf 24 = .ok (.aload_n 0, 1) := by decide +kernel
theorem dX9_copyOf_25 : decode cX9_copyOf 25 = .ok (.iload_n 1, 1) := by decide +kernel
theorem dX9_copyOf_26 : decode cX9_copyOf 26 = .ok (.aload_n 0, 1) := by decide +kernel
theorem dX9_copyOf_27 : decode cX9_copyOf 27 = .ok (.iload_n 2, 1) := by decide +kernel
theorem dX9_copyOf_28 : decode cX9_copyOf 28 = .ok (.iload 4, 2) := by decide +kernel
theorem dX9_copyOf_30 : decode cX9_copyOf 30 = .ok (.invokevirtual 113, 3) := by decide +kernel
theorem dX9_copyOf_33 : decode cX9_copyOf 33 = .ok (.invokevirtual 116, 3) := by decide +kernel
theorem dX9_copyOf_36 : decode cX9_copyOf 36 = .ok (.iadd, 1) := by decide +kernel
theorem dX9_copyOf_37 : decode cX9_copyOf 37 = .ok (.istore_n 3, 1) := by decide +kernel
theorem dX9_copyOf_38 : decode cX9_copyOf 38 = .ok (.iinc 4 1, 3) := by decide +kernel
theorem dX9_copyOf_41 : decode cX9_copyOf 41 = .ok (.goto (-36), 3) := by decide +kernel
theorem dX9_copyOf_44 : decode cX9_copyOf 44 = .ok (.iload_n 3, 1) := by decide +kernel
theorem dX9_copyOf_45 : decode cX9_copyOf 45 = .ok (.ireturn, 1) := by decide +kernel
theorem dX9_disagrees_0 : decode cX9_disagrees 0 = .ok (.iconst 0, 1) := by decide +kernel
theorem dX9_disagrees_1 : decode cX9_disagrees 1 = .ok (.istore_n 3, 1) := by decide +kernel
theorem dX9_disagrees_2 : decode cX9_disagrees 2 = .ok (.iconst 0, 1) := by decide +kernel
theorem dX9_disagrees_3 : decode cX9_disagrees 3 = .ok (.istore 4, 2) := by decide +kernel
theorem dX9_disagrees_5 : decode cX9_disagrees 5 = .ok (.iload 4, 2) := by decide +kernel
theorem dX9_disagrees_7 : decode cX9_disagrees 7 = .ok (.aload_n 0, 1) := by decide +kernel
theorem dX9_disagrees_8 : decode cX9_disagrees 8 = .ok (.getfield 17, 3) := by decide +kernel
theorem dX9_disagrees_11 : decode cX9_disagrees 11 = .ok (.iconst 0, 1) := by decide +kernel
theorem dX9_disagrees_12 : decode cX9_disagrees 12 = .ok (.iaload, 1) := by decide +kernel
theorem dX9_disagrees_13 : decode cX9_disagrees 13 = .ok (.if_icmp .ge 42, 3) := by decide +kernel
theorem dX9_disagrees_16 : decode cX9_disagrees 16 = .ok (.iload_n 3, 1) := by decide +kernel
theorem dX9_disagrees_17 : decode cX9_disagrees 17 = .ok (.aload_n 0, 1) := by decide +kernel
theorem dX9_disagrees_18 : decode cX9_disagrees 18 = .ok (.iload_n 1, 1) := by decide +kernel
theorem dX9_disagrees_19 : decode cX9_disagrees 19 = .ok (.aload_n 0, 1) := by decide +kernel
theorem dX9_disagrees_20 : decode cX9_disagrees 20 = .ok (.iload_n 2, 1) := by decide +kernel
theorem dX9_disagrees_21 : decode cX9_disagrees 21 = .ok (.iload 4, 2) := by decide +kernel
theorem dX9_disagrees_23 : decode cX9_disagrees 23 = .ok (.invokevirtual 113, 3) := by decide +kernel
theorem dX9_disagrees_26 : decode cX9_disagrees 26 = .ok (.invokevirtual 116, 3) := by decide +kernel
theorem dX9_disagrees_29 : decode cX9_disagrees 29 = .ok (.aload_n 0, 1) := by decide +kernel
theorem dX9_disagrees_30 : decode cX9_disagrees 30 = .ok (.iload_n 2, 1) := by decide +kernel
theorem dX9_disagrees_31 : decode cX9_disagrees 31 = .ok (.iload 4, 2) := by decide +kernel
theorem dX9_disagrees_33 : decode cX9_disagrees 33 = .ok (.invokevirtual 113, 3) := by decide +kernel
theorem dX9_disagrees_36 : decode cX9_disagrees 36 = .ok (.if_icmp .ne 7, 3) := by decide +kernel
theorem dX9_disagrees_39 : decode cX9_disagrees 39 = .ok (.iconst 0, 1) := by decide +kernel
theorem dX9_disagrees_40 : decode cX9_disagrees 40 = .ok (.goto 7, 3) := by decide +kernel
theorem dX9_disagrees_43 : decode cX9_disagrees 43 = .ok (.iconst 1, 1) := by decide +kernel
theorem dX9_disagrees_44 : decode cX9_disagrees 44 = .ok (.iload 4, 2) := by decide +kernel
theorem dX9_disagrees_46 : decode cX9_disagrees 46 = .ok (.ishl, 1) := by decide +kernel
theorem dX9_disagrees_47 : decode cX9_disagrees 47 = .ok (.ior, 1) := by decide +kernel
theorem dX9_disagrees_48 : decode cX9_disagrees 48 = .ok (.istore_n 3, 1) := by decide +kernel
theorem dX9_disagrees_49 : decode cX9_disagrees 49 = .ok (.iinc 4 1, 3) := by decide +kernel
theorem dX9_disagrees_52 : decode cX9_disagrees 52 = .ok (.goto (-47), 3) := by decide +kernel
theorem dX9_disagrees_55 : decode cX9_disagrees 55 = .ok (.iload_n 3, 1) := by decide +kernel
theorem dX9_disagrees_56 : decode cX9_disagrees 56 = .ok (.ireturn, 1) := by decide +kernel
theorem dX9_manyOf_0 : decode cX9_manyOf 0 = .ok (.iconst 0, 1) := by decide +kernel
theorem dX9_manyOf_1 : decode cX9_manyOf 1 = .ok (.istore_n 1, 1) := by decide +kernel
theorem dX9_manyOf_2 : decode cX9_manyOf 2 = .ok (.iconst 0, 1) := by decide +kernel
theorem dX9_manyOf_3 : decode cX9_manyOf 3 = .ok (.istore_n 2, 1) := by decide +kernel
theorem dX9_manyOf_4 : decode cX9_manyOf 4 = .ok (.iload_n 2, 1) := by decide +kernel
theorem dX9_manyOf_5 : decode cX9_manyOf 5 = .ok (.bipush 6, 2) := by decide +kernel
theorem dX9_manyOf_7 : decode cX9_manyOf 7 = .ok (.if_icmp .ge 17, 3) := by decide +kernel
theorem dX9_manyOf_10 : decode cX9_manyOf 10 = .ok (.iload_n 1, 1) := by decide +kernel
theorem dX9_manyOf_11 : decode cX9_manyOf 11 = .ok (.iload_n 0, 1) := by decide +kernel
theorem dX9_manyOf_12 : decode cX9_manyOf 12 = .ok (.iload_n 2, 1) := by decide +kernel
theorem dX9_manyOf_13 : decode cX9_manyOf 13 = .ok (.ishr, 1) := by decide +kernel
theorem dX9_manyOf_14 : decode cX9_manyOf 14 = .ok (.iconst 1, 1) := by decide +kernel
theorem dX9_manyOf_15 : decode cX9_manyOf 15 = .ok (.iand, 1) := by decide +kernel
theorem dX9_manyOf_16 : decode cX9_manyOf 16 = .ok (.iadd, 1) := by decide +kernel
theorem dX9_manyOf_17 : decode cX9_manyOf 17 = .ok (.istore_n 1, 1) := by decide +kernel
theorem dX9_manyOf_18 : decode cX9_manyOf 18 = .ok (.iinc 2 1, 3) := by decide +kernel
theorem dX9_manyOf_21 : decode cX9_manyOf 21 = .ok (.goto (-17), 3) := by decide +kernel
theorem dX9_manyOf_24 : decode cX9_manyOf 24 = .ok (.iload_n 1, 1) := by decide +kernel
theorem dX9_manyOf_25 : decode cX9_manyOf 25 = .ok (.ireturn, 1) := by decide +kernel
theorem dX9_isConvinced_0 : decode cX9_isConvinced 0 = .ok (.aload_n 0, 1) := by decide +kernel
theorem dX9_isConvinced_1 : decode cX9_isConvinced 1 = .ok (.iload_n 1, 1) := by decide +kernel
theorem dX9_isConvinced_2 : decode cX9_isConvinced 2 = .ok (.iload_n 2, 1) := by decide +kernel
theorem dX9_isConvinced_3 : decode cX9_isConvinced 3 = .ok (.invokevirtual 119, 3) := by decide +kernel
theorem dX9_isConvinced_6 : decode cX9_isConvinced 6 = .ok (.invokestatic 122, 3) := by decide +kernel
theorem dX9_isConvinced_9 : decode cX9_isConvinced 9 = .ok (.aload_n 0, 1) := by decide +kernel
theorem dX9_isConvinced_10 : decode cX9_isConvinced 10 = .ok (.getfield 32, 3) := by decide +kernel
theorem dX9_isConvinced_13 : decode cX9_isConvinced 13 = .ok (.iconst 0, 1) := by decide +kernel
theorem dX9_isConvinced_14 : decode cX9_isConvinced 14 = .ok (.iaload, 1) := by decide +kernel
theorem dX9_isConvinced_15 : decode cX9_isConvinced 15 = .ok (.if_icmp .ge 7, 3) := by decide +kernel
theorem dX9_isConvinced_18 : decode cX9_isConvinced 18 = .ok (.iconst 1, 1) := by decide +kernel
theorem dX9_isConvinced_19 : decode cX9_isConvinced 19 = .ok (.goto 4, 3) := by decide +kernel
theorem dX9_isConvinced_22 : decode cX9_isConvinced 22 = .ok (.iconst 0, 1) := by decide +kernel
theorem dX9_isConvinced_23 : decode cX9_isConvinced 23 = .ok (.ireturn, 1) := by decide +kernel
theorem dX9_comes_0 : decode cX9_comes 0 = .ok (.aload_n 0, 1) := by decide +kernel
theorem dX9_comes_1 : decode cX9_comes 1 = .ok (.getfield 35, 3) := by decide +kernel
theorem dX9_comes_4 : decode cX9_comes 4 = .ok (.iconst 0, 1) := by decide +kernel
theorem dX9_comes_5 : decode cX9_comes 5 = .ok (.iaload, 1) := by decide +kernel
theorem dX9_comes_6 : decode cX9_comes 6 = .ok (.istore_n 2, 1) := by decide +kernel
theorem dX9_comes_7 : decode cX9_comes 7 = .ok (.iconst 1, 1) := by decide +kernel
theorem dX9_comes_8 : decode cX9_comes 8 = .ok (.istore_n 3, 1) := by decide +kernel
theorem dX9_comes_9 : decode cX9_comes 9 = .ok (.iload_n 3, 1) := by decide +kernel
theorem dX9_comes_10 : decode cX9_comes 10 = .ok (.sipush 4000, 3) := by decide +kernel
theorem dX9_comes_13 : decode cX9_comes 13 = .ok (.if_icmp .gt 28, 3) := by decide +kernel
theorem dX9_comes_16 : decode cX9_comes 16 = .ok (.aload_n 0, 1) := by decide +kernel
theorem dX9_comes_17 : decode cX9_comes 17 = .ok (.iload_n 1, 1) := by decide +kernel
theorem dX9_comes_18 : decode cX9_comes 18 = .ok (.iload_n 2, 1) := by decide +kernel
theorem dX9_comes_19 : decode cX9_comes 19 = .ok (.invokevirtual 126, 3) := by decide +kernel
theorem dX9_comes_22 : decode cX9_comes 22 = .ok (.istore_n 2, 1) := by decide +kernel
theorem dX9_comes_23 : decode cX9_comes 23 = .ok (.iload_n 2, 1) := by decide +kernel
theorem dX9_comes_24 : decode cX9_comes 24 = .ok (.aload_n 0, 1) := by decide +kernel
theorem dX9_comes_25 : decode cX9_comes 25 = .ok (.getfield 35, 3) := by decide +kernel
theorem dX9_comes_28 : decode cX9_comes 28 = .ok (.iconst 0, 1) := by decide +kernel
theorem dX9_comes_29 : decode cX9_comes 29 = .ok (.iaload, 1) := by decide +kernel
theorem dX9_comes_30 : decode cX9_comes 30 = .ok (.if_icmp .ne 5, 3) := by decide +kernel
theorem dX9_comes_33 : decode cX9_comes 33 = .ok (.iload_n 3, 1) := by decide +kernel
theorem dX9_comes_34 : decode cX9_comes 34 = .ok (.ireturn, 1) := by decide +kernel
theorem dX9_comes_35 : decode cX9_comes 35 = .ok (.iinc 3 1, 3) := by decide +kernel
theorem dX9_comes_38 : decode cX9_comes 38 = .ok (.goto (-29), 3) := by decide +kernel
theorem dX9_comes_41 : decode cX9_comes 41 = .ok (.bipush (-9), 2) := by decide +kernel
theorem dX9_comes_43 : decode cX9_comes 43 = .ok (.ireturn, 1) := by decide +kernel
theorem dX9_line_0 : decode cX9_line 0 = .ok (.aload_n 0, 1) := by decide +kernel
theorem dX9_line_1 : decode cX9_line 1 = .ok (.iload_n 1, 1) := by decide +kernel
theorem dX9_line_2 : decode cX9_line 2 = .ok (.invokevirtual 129, 3) := by decide +kernel
theorem dX9_line_5 : decode cX9_line 5 = .ok (.ifCond .eq 12, 3) := by decide +kernel
theorem dX9_line_8 : decode cX9_line 8 = .ok (.iload_n 2, 1) := by decide +kernel
theorem dX9_line_9 : decode cX9_line 9 = .ok (.iconst 0, 1) := by decide +kernel
theorem dX9_line_10 : decode cX9_line 10 = .ok (.iconst 1, 1) := by decide +kernel
theorem dX9_line_11 : decode cX9_line 11 = .ok (.invokestatic 57, 3) := by decide +kernel
theorem dX9_line_14 : decode cX9_line 14 = .ok (.ifCond .ne 5, 3) := by decide +kernel
theorem dX9_line_17 : decode cX9_line 17 = .ok (.iconst (-1), 1) := by decide +kernel
theorem dX9_line_18 : decode cX9_line 18 = .ok (.ireturn, 1) := by decide +kernel
theorem dX9_line_19 : decode cX9_line 19 = .ok (.aload_n 0, 1) := by decide +kernel
theorem dX9_line_20 : decode cX9_line 20 = .ok (.iload_n 2, 1) := by decide +kernel
theorem dX9_line_21 : decode cX9_line 21 = .ok (.ifCond .ne 12, 3) := by decide +kernel
theorem dX9_line_24 : decode cX9_line 24 = .ok (.aload_n 0, 1) := by decide +kernel
theorem dX9_line_25 : decode cX9_line 25 = .ok (.getfield 35, 3) := by decide +kernel
theorem dX9_line_28 : decode cX9_line 28 = .ok (.iconst 0, 1) := by decide +kernel
theorem dX9_line_29 : decode cX9_line 29 = .ok (.iaload, 1) := by decide +kernel
theorem dX9_line_30 : decode cX9_line 30 = .ok (.goto 7, 3) := by decide +kernel
theorem dX9_line_33 : decode cX9_line 33 = .ok (.aload_n 0, 1) := by decide +kernel
theorem dX9_line_34 : decode cX9_line 34 = .ok (.getfield 99, 3) := by decide +kernel
theorem dX9_line_37 : decode cX9_line 37 = .ok (.iload_n 1, 1) := by decide +kernel
theorem dX9_line_38 : decode cX9_line 38 = .ok (.invokevirtual 113, 3) := by decide +kernel
theorem dX9_line_41 : decode cX9_line 41 = .ok (.ireturn, 1) := by decide +kernel
theorem dX9_scribe_0 : decode cX9_scribe 0 = .ok (.aload_n 0, 1) := by decide +kernel
theorem dX9_scribe_1 : decode cX9_scribe 1 = .ok (.iload_n 1, 1) := by decide +kernel
theorem dX9_scribe_2 : decode cX9_scribe 2 = .ok (.invokevirtual 133, 3) := by decide +kernel
theorem dX9_scribe_5 : decode cX9_scribe 5 = .ok (.ifCond .ne 5, 3) := by decide +kernel
theorem dX9_scribe_8 : decode cX9_scribe 8 = .ok (.iconst (-1), 1) := by decide +kernel
theorem dX9_scribe_9 : decode cX9_scribe 9 = .ok (.ireturn, 1) := by decide +kernel
theorem dX9_scribe_10 : decode cX9_scribe 10 = .ok (.iload_n 2, 1) := by decide +kernel
theorem dX9_scribe_11 : decode cX9_scribe 11 = .ok (.tableswitch 114 0 6 #[41, 48, 55, 67, 76, 88, 108], 41) := by decide +kernel
theorem dX9_scribe_52 : decode cX9_scribe 52 = .ok (.aload_n 0, 1) := by decide +kernel
theorem dX9_scribe_53 : decode cX9_scribe 53 = .ok (.getfield 26, 3) := by decide +kernel
theorem dX9_scribe_56 : decode cX9_scribe 56 = .ok (.iload_n 1, 1) := by decide +kernel
theorem dX9_scribe_57 : decode cX9_scribe 57 = .ok (.iaload, 1) := by decide +kernel
theorem dX9_scribe_58 : decode cX9_scribe 58 = .ok (.ireturn, 1) := by decide +kernel
theorem dX9_scribe_59 : decode cX9_scribe 59 = .ok (.aload_n 0, 1) := by decide +kernel
theorem dX9_scribe_60 : decode cX9_scribe 60 = .ok (.getfield 29, 3) := by decide +kernel
theorem dX9_scribe_63 : decode cX9_scribe 63 = .ok (.iload_n 1, 1) := by decide +kernel
theorem dX9_scribe_64 : decode cX9_scribe 64 = .ok (.iaload, 1) := by decide +kernel
theorem dX9_scribe_65 : decode cX9_scribe 65 = .ok (.ireturn, 1) := by decide +kernel
theorem dX9_scribe_66 : decode cX9_scribe 66 = .ok (.aload_n 0, 1) := by decide +kernel
theorem dX9_scribe_67 : decode cX9_scribe 67 = .ok (.getfield 35, 3) := by decide +kernel
theorem dX9_scribe_70 : decode cX9_scribe 70 = .ok (.bipush 8, 2) := by decide +kernel
theorem dX9_scribe_72 : decode cX9_scribe 72 = .ok (.iaload, 1) := by decide +kernel
theorem dX9_scribe_73 : decode cX9_scribe 73 = .ok (.iload_n 1, 1) := by decide +kernel
theorem dX9_scribe_74 : decode cX9_scribe 74 = .ok (.ishr, 1) := by decide +kernel
theorem dX9_scribe_75 : decode cX9_scribe 75 = .ok (.iconst 1, 1) := by decide +kernel
theorem dX9_scribe_76 : decode cX9_scribe 76 = .ok (.iand, 1) := by decide +kernel
theorem dX9_scribe_77 : decode cX9_scribe 77 = .ok (.ireturn, 1) := by decide +kernel
theorem dX9_scribe_78 : decode cX9_scribe 78 = .ok (.aload_n 0, 1) := by decide +kernel
theorem dX9_scribe_79 : decode cX9_scribe 79 = .ok (.getfield 35, 3) := by decide +kernel
theorem dX9_scribe_82 : decode cX9_scribe 82 = .ok (.iconst 2, 1) := by decide +kernel
theorem dX9_scribe_83 : decode cX9_scribe 83 = .ok (.iload_n 1, 1) := by decide +kernel
theorem dX9_scribe_84 : decode cX9_scribe 84 = .ok (.iadd, 1) := by decide +kernel
theorem dX9_scribe_85 : decode cX9_scribe 85 = .ok (.iaload, 1) := by decide +kernel
theorem dX9_scribe_86 : decode cX9_scribe 86 = .ok (.ireturn, 1) := by decide +kernel
theorem dX9_scribe_87 : decode cX9_scribe 87 = .ok (.aload_n 0, 1) := by decide +kernel
theorem dX9_scribe_88 : decode cX9_scribe 88 = .ok (.iload_n 1, 1) := by decide +kernel
theorem dX9_scribe_89 : decode cX9_scribe 89 = .ok (.aload_n 0, 1) := by decide +kernel
theorem dX9_scribe_90 : decode cX9_scribe 90 = .ok (.getfield 35, 3) := by decide +kernel
theorem dX9_scribe_93 : decode cX9_scribe 93 = .ok (.iconst 0, 1) := by decide +kernel
theorem dX9_scribe_94 : decode cX9_scribe 94 = .ok (.iaload, 1) := by decide +kernel
theorem dX9_scribe_95 : decode cX9_scribe 95 = .ok (.invokevirtual 119, 3) := by decide +kernel
theorem dX9_scribe_98 : decode cX9_scribe 98 = .ok (.ireturn, 1) := by decide +kernel
theorem dX9_scribe_99 : decode cX9_scribe 99 = .ok (.aload_n 0, 1) := by decide +kernel
theorem dX9_scribe_100 : decode cX9_scribe 100 = .ok (.iload_n 1, 1) := by decide +kernel
theorem dX9_scribe_101 : decode cX9_scribe 101 = .ok (.aload_n 0, 1) := by decide +kernel
theorem dX9_scribe_102 : decode cX9_scribe 102 = .ok (.getfield 35, 3) := by decide +kernel
theorem dX9_scribe_105 : decode cX9_scribe 105 = .ok (.iconst 0, 1) := by decide +kernel
theorem dX9_scribe_106 : decode cX9_scribe 106 = .ok (.iaload, 1) := by decide +kernel
theorem dX9_scribe_107 : decode cX9_scribe 107 = .ok (.invokevirtual 136, 3) := by decide +kernel
theorem dX9_scribe_110 : decode cX9_scribe 110 = .ok (.ifCond .eq 7, 3) := by decide +kernel
theorem dX9_scribe_113 : decode cX9_scribe 113 = .ok (.iconst 1, 1) := by decide +kernel
theorem dX9_scribe_114 : decode cX9_scribe 114 = .ok (.goto 4, 3) := by decide +kernel
theorem dX9_scribe_117 : decode cX9_scribe 117 = .ok (.iconst 0, 1) := by decide +kernel
theorem dX9_scribe_118 : decode cX9_scribe 118 = .ok (.ireturn, 1) := by decide +kernel
theorem dX9_scribe_119 : decode cX9_scribe 119 = .ok (.aload_n 0, 1) := by decide +kernel
theorem dX9_scribe_120 : decode cX9_scribe 120 = .ok (.iload_n 1, 1) := by decide +kernel
theorem dX9_scribe_121 : decode cX9_scribe 121 = .ok (.invokevirtual 139, 3) := by decide +kernel
theorem dX9_scribe_124 : decode cX9_scribe 124 = .ok (.ireturn, 1) := by decide +kernel
theorem dX9_scribe_125 : decode cX9_scribe 125 = .ok (.iconst (-1), 1) := by decide +kernel
theorem dX9_scribe_126 : decode cX9_scribe 126 = .ok (.ireturn, 1) := by decide +kernel
theorem dX9_says_0 : decode cX9_says 0 = .ok (.aload_n 0, 1) := by decide +kernel
theorem dX9_says_1 : decode cX9_says 1 = .ok (.iload_n 1, 1) := by decide +kernel
theorem dX9_says_2 : decode cX9_says 2 = .ok (.invokevirtual 133, 3) := by decide +kernel
theorem dX9_says_5 : decode cX9_says 5 = .ok (.ifCond .eq 20, 3) := by decide +kernel
theorem dX9_says_8 : decode cX9_says 8 = .ok (.aload_n 0, 1) := by decide +kernel
theorem dX9_says_9 : decode cX9_says 9 = .ok (.iload_n 2, 1) := by decide +kernel
theorem dX9_says_10 : decode cX9_says 10 = .ok (.invokevirtual 142, 3) := by decide +kernel
theorem dX9_says_13 : decode cX9_says 13 = .ok (.ifCond .eq 12, 3) := by decide +kernel
theorem dX9_says_16 : decode cX9_says 16 = .ok (.aload_n 0, 1) := by decide +kernel
theorem dX9_says_17 : decode cX9_says 17 = .ok (.iload_n 1, 1) := by decide +kernel
theorem dX9_says_18 : decode cX9_says 18 = .ok (.iload_n 2, 1) := by decide +kernel
theorem dX9_says_19 : decode cX9_says 19 = .ok (.invokevirtual 116, 3) := by decide +kernel
theorem dX9_says_22 : decode cX9_says 22 = .ok (.goto 4, 3) := by decide +kernel
theorem dX9_says_25 : decode cX9_says 25 = .ok (.iconst (-1), 1) := by decide +kernel
theorem dX9_says_26 : decode cX9_says 26 = .ok (.ireturn, 1) := by decide +kernel
theorem dX9_know_0 : decode cX9_know 0 = .ok (.aload_n 0, 1) := by decide +kernel
theorem dX9_know_1 : decode cX9_know 1 = .ok (.getfield 35, 3) := by decide +kernel
theorem dX9_know_4 : decode cX9_know 4 = .ok (.bipush 9, 2) := by decide +kernel
theorem dX9_know_6 : decode cX9_know 6 = .ok (.iaload, 1) := by decide +kernel
theorem dX9_know_7 : decode cX9_know 7 = .ok (.bipush 10, 2) := by decide +kernel
theorem dX9_know_9 : decode cX9_know 9 = .ok (.if_icmp .ne 46, 3) := by decide +kernel
theorem dX9_know_12 : decode cX9_know 12 = .ok (.iconst 0, 1) := by decide +kernel
theorem dX9_know_13 : decode cX9_know 13 = .ok (.istore_n 1, 1) := by decide +kernel
theorem dX9_know_14 : decode cX9_know 14 = .ok (.iload_n 1, 1) := by decide +kernel
theorem dX9_know_15 : decode cX9_know 15 = .ok (.bipush 81, 2) := by decide +kernel
theorem dX9_know_17 : decode cX9_know 17 = .ok (.if_icmp .ge 27, 3) := by decide +kernel
theorem dX9_know_20 : decode cX9_know 20 = .ok (.aload_n 0, 1) := by decide +kernel
theorem dX9_know_21 : decode cX9_know 21 = .ok (.getfield 35, 3) := by decide +kernel
theorem dX9_know_24 : decode cX9_know 24 = .ok (.bipush 10, 2) := by decide +kernel
theorem dX9_know_26 : decode cX9_know 26 = .ok (.iload_n 1, 1) := by decide +kernel
theorem dX9_know_27 : decode cX9_know 27 = .ok (.iadd, 1) := by decide +kernel
theorem dX9_know_28 : decode cX9_know 28 = .ok (.aload_n 0, 1) := by decide +kernel
theorem dX9_know_29 : decode cX9_know 29 = .ok (.getfield 35, 3) := by decide +kernel
theorem dX9_know_32 : decode cX9_know 32 = .ok (.bipush 19, 2) := by decide +kernel
theorem dX9_know_34 : decode cX9_know 34 = .ok (.iload_n 1, 1) := by decide +kernel
theorem dX9_know_35 : decode cX9_know 35 = .ok (.iadd, 1) := by decide +kernel
theorem dX9_know_36 : decode cX9_know 36 = .ok (.iaload, 1) := by decide +kernel
theorem dX9_know_37 : decode cX9_know 37 = .ok (.iastore, 1) := by decide +kernel
theorem dX9_know_38 : decode cX9_know 38 = .ok (.iinc 1 1, 3) := by decide +kernel
theorem dX9_know_41 : decode cX9_know 41 = .ok (.goto (-27), 3) := by decide +kernel
theorem dX9_know_44 : decode cX9_know 44 = .ok (.aload_n 0, 1) := by decide +kernel
theorem dX9_know_45 : decode cX9_know 45 = .ok (.getfield 35, 3) := by decide +kernel
theorem dX9_know_48 : decode cX9_know 48 = .ok (.bipush 9, 2) := by decide +kernel
theorem dX9_know_50 : decode cX9_know 50 = .ok (.dup2, 1) := by decide +kernel
theorem dX9_know_51 : decode cX9_know 51 = .ok (.iaload, 1) := by decide +kernel
theorem dX9_know_52 : decode cX9_know 52 = .ok (.iconst 1, 1) := by decide +kernel
theorem dX9_know_53 : decode cX9_know 53 = .ok (.isub, 1) := by decide +kernel
theorem dX9_know_54 : decode cX9_know 54 = .ok (.iastore, 1) := by decide +kernel
theorem dX9_know_55 : decode cX9_know 55 = .ok (.iconst 0, 1) := by decide +kernel
theorem dX9_know_56 : decode cX9_know 56 = .ok (.istore_n 1, 1) := by decide +kernel
theorem dX9_know_57 : decode cX9_know 57 = .ok (.iload_n 1, 1) := by decide +kernel
theorem dX9_know_58 : decode cX9_know 58 = .ok (.bipush 9, 2) := by decide +kernel
theorem dX9_know_60 : decode cX9_know 60 = .ok (.if_icmp .ge 35, 3) := by decide +kernel
theorem dX9_know_63 : decode cX9_know 63 = .ok (.aload_n 0, 1) := by decide +kernel
theorem dX9_know_64 : decode cX9_know 64 = .ok (.getfield 35, 3) := by decide +kernel
theorem dX9_know_67 : decode cX9_know 67 = .ok (.bipush 10, 2) := by decide +kernel
theorem dX9_know_69 : decode cX9_know 69 = .ok (.bipush 9, 2) := by decide +kernel
theorem dX9_know_71 : decode cX9_know 71 = .ok (.aload_n 0, 1) := by decide +kernel
theorem dX9_know_72 : decode cX9_know 72 = .ok (.getfield 35, 3) := by decide +kernel
theorem dX9_know_75 : decode cX9_know 75 = .ok (.bipush 9, 2) := by decide +kernel
theorem dX9_know_77 : decode cX9_know 77 = .ok (.iaload, 1) := by decide +kernel
theorem dX9_know_78 : decode cX9_know 78 = .ok (.imul, 1) := by decide +kernel
theorem dX9_know_79 : decode cX9_know 79 = .ok (.iadd, 1) := by decide +kernel
theorem dX9_know_80 : decode cX9_know 80 = .ok (.iload_n 1, 1) := by decide +kernel
theorem dX9_know_81 : decode cX9_know 81 = .ok (.iadd, 1) := by decide +kernel
theorem dX9_know_82 : decode cX9_know 82 = .ok (.aload_n 0, 1) := by decide +kernel
theorem dX9_know_83 : decode cX9_know 83 = .ok (.getfield 35, 3) := by decide +kernel
theorem dX9_know_86 : decode cX9_know 86 = .ok (.iload_n 1, 1) := by decide +kernel
theorem dX9_know_87 : decode cX9_know 87 = .ok (.iaload, 1) := by decide +kernel
theorem dX9_know_88 : decode cX9_know 88 = .ok (.iastore, 1) := by decide +kernel
theorem dX9_know_89 : decode cX9_know 89 = .ok (.iinc 1 1, 3) := by decide +kernel
theorem dX9_know_92 : decode cX9_know 92 = .ok (.goto (-35), 3) := by decide +kernel
theorem dX9_know_95 : decode cX9_know 95 = .ok (.aload_n 0, 1) := by decide +kernel
theorem dX9_know_96 : decode cX9_know 96 = .ok (.getfield 35, 3) := by decide +kernel
theorem dX9_know_99 : decode cX9_know 99 = .ok (.bipush 9, 2) := by decide +kernel
theorem dX9_know_101 : decode cX9_know 101 = .ok (.dup2, 1) := by decide +kernel
theorem dX9_know_102 : decode cX9_know 102 = .ok (.iaload, 1) := by decide +kernel
theorem dX9_know_103 : decode cX9_know 103 = .ok (.iconst 1, 1) := by decide +kernel
theorem dX9_know_104 : decode cX9_know 104 = .ok (.iadd, 1) := by decide +kernel
theorem dX9_know_105 : decode cX9_know 105 = .ok (.iastore, 1) := by decide +kernel
theorem dX9_know_106 : decode cX9_know 106 = .ok (.return_, 1) := by decide +kernel
theorem dX9_copies_0 : decode cX9_copies 0 = .ok (.aload_n 0, 1) := by decide +kernel
theorem dX9_copies_1 : decode cX9_copies 1 = .ok (.iload_n 1, 1) := by decide +kernel
theorem dX9_copies_2 : decode cX9_copies 2 = .ok (.invokevirtual 133, 3) := by decide +kernel
theorem dX9_copies_5 : decode cX9_copies 5 = .ok (.ifCond .ne 5, 3) := by decide +kernel
theorem dX9_copies_8 : decode cX9_copies 8 = .ok (.iconst (-1), 1) := by decide +kernel
theorem dX9_copies_9 : decode cX9_copies 9 = .ok (.ireturn, 1) := by decide +kernel
theorem dX9_copies_10 : decode cX9_copies 10 = .ok (.aload_n 0, 1) := by decide +kernel
theorem dX9_copies_11 : decode cX9_copies 11 = .ok (.getfield 35, 3) := by decide +kernel
theorem dX9_copies_14 : decode cX9_copies 14 = .ok (.bipush 8, 2) := by decide +kernel
theorem dX9_copies_16 : decode cX9_copies 16 = .ok (.iaload, 1) := by decide +kernel
theorem dX9_copies_17 : decode cX9_copies 17 = .ok (.iload_n 1, 1) := by decide +kernel
theorem dX9_copies_18 : decode cX9_copies 18 = .ok (.ishr, 1) := by decide +kernel
theorem dX9_copies_19 : decode cX9_copies 19 = .ok (.iconst 1, 1) := by decide +kernel
theorem dX9_copies_20 : decode cX9_copies 20 = .ok (.iand, 1) := by decide +kernel
theorem dX9_copies_21 : decode cX9_copies 21 = .ok (.iconst 1, 1) := by decide +kernel
theorem dX9_copies_22 : decode cX9_copies 22 = .ok (.if_icmp .eq 29, 3) := by decide +kernel
theorem dX9_copies_25 : decode cX9_copies 25 = .ok (.aload_n 0, 1) := by decide +kernel
theorem dX9_copies_26 : decode cX9_copies 26 = .ok (.iload_n 1, 1) := by decide +kernel
theorem dX9_copies_27 : decode cX9_copies 27 = .ok (.aload_n 0, 1) := by decide +kernel
theorem dX9_copies_28 : decode cX9_copies 28 = .ok (.getfield 35, 3) := by decide +kernel
theorem dX9_copies_31 : decode cX9_copies 31 = .ok (.iconst 0, 1) := by decide +kernel
theorem dX9_copies_32 : decode cX9_copies 32 = .ok (.iaload, 1) := by decide +kernel
theorem dX9_copies_33 : decode cX9_copies 33 = .ok (.invokevirtual 136, 3) := by decide +kernel
theorem dX9_copies_36 : decode cX9_copies 36 = .ok (.ifCond .ne 15, 3) := by decide +kernel
theorem dX9_copies_39 : decode cX9_copies 39 = .ok (.aload_n 0, 1) := by decide +kernel
theorem dX9_copies_40 : decode cX9_copies 40 = .ok (.getfield 35, 3) := by decide +kernel
theorem dX9_copies_43 : decode cX9_copies 43 = .ok (.iconst 1, 1) := by decide +kernel
theorem dX9_copies_44 : decode cX9_copies 44 = .ok (.iaload, 1) := by decide +kernel
theorem dX9_copies_45 : decode cX9_copies 45 = .ok (.sipush 999, 3) := by decide +kernel
theorem dX9_copies_48 : decode cX9_copies 48 = .ok (.if_icmp .ne 6, 3) := by decide +kernel
theorem dX9_copies_51 : decode cX9_copies 51 = .ok (.bipush (-2), 2) := by decide +kernel
theorem dX9_copies_53 : decode cX9_copies 53 = .ok (.ireturn, 1) := by decide +kernel
theorem dX9_copies_54 : decode cX9_copies 54 = .ok (.aload_n 0, 1) := by decide +kernel
theorem dX9_copies_55 : decode cX9_copies 55 = .ok (.invokevirtual 145, 3) := by decide +kernel
theorem dX9_copies_58 : decode cX9_copies 58 = .ok (.aload_n 0, 1) := by decide +kernel
theorem dX9_copies_59 : decode cX9_copies 59 = .ok (.getfield 35, 3) := by decide +kernel
theorem dX9_copies_62 : decode cX9_copies 62 = .ok (.iconst 0, 1) := by decide +kernel
theorem dX9_copies_63 : decode cX9_copies 63 = .ok (.aload_n 0, 1) := by decide +kernel
theorem dX9_copies_64 : decode cX9_copies 64 = .ok (.iload_n 1, 1) := by decide +kernel
theorem dX9_copies_65 : decode cX9_copies 65 = .ok (.aload_n 0, 1) := by decide +kernel
theorem dX9_copies_66 : decode cX9_copies 66 = .ok (.getfield 35, 3) := by decide +kernel
theorem dX9_copies_69 : decode cX9_copies 69 = .ok (.iconst 0, 1) := by decide +kernel
theorem dX9_copies_70 : decode cX9_copies 70 = .ok (.iaload, 1) := by decide +kernel
theorem dX9_copies_71 : decode cX9_copies 71 = .ok (.invokevirtual 126, 3) := by decide +kernel
theorem dX9_copies_74 : decode cX9_copies 74 = .ok (.iastore, 1) := by decide +kernel
theorem dX9_copies_75 : decode cX9_copies 75 = .ok (.aload_n 0, 1) := by decide +kernel
theorem dX9_copies_76 : decode cX9_copies 76 = .ok (.getfield 35, 3) := by decide +kernel
theorem dX9_copies_79 : decode cX9_copies 79 = .ok (.iconst 1, 1) := by decide +kernel
theorem dX9_copies_80 : decode cX9_copies 80 = .ok (.dup2, 1) := by decide +kernel
theorem dX9_copies_81 : decode cX9_copies 81 = .ok (.iaload, 1) := by decide +kernel
theorem dX9_copies_82 : decode cX9_copies 82 = .ok (.iconst 1, 1) := by decide +kernel
theorem dX9_copies_83 : decode cX9_copies 83 = .ok (.iadd, 1) := by decide +kernel
theorem dX9_copies_84 : decode cX9_copies 84 = .ok (.iastore, 1) := by decide +kernel
theorem dX9_copies_85 : decode cX9_copies 85 = .ok (.aload_n 0, 1) := by decide +kernel
theorem dX9_copies_86 : decode cX9_copies 86 = .ok (.getfield 35, 3) := by decide +kernel
theorem dX9_copies_89 : decode cX9_copies 89 = .ok (.iconst 2, 1) := by decide +kernel
theorem dX9_copies_90 : decode cX9_copies 90 = .ok (.iload_n 1, 1) := by decide +kernel
theorem dX9_copies_91 : decode cX9_copies 91 = .ok (.iadd, 1) := by decide +kernel
theorem dX9_copies_92 : decode cX9_copies 92 = .ok (.dup2, 1) := by decide +kernel
theorem dX9_copies_93 : decode cX9_copies 93 = .ok (.iaload, 1) := by decide +kernel
theorem dX9_copies_94 : decode cX9_copies 94 = .ok (.iconst 1, 1) := by decide +kernel
theorem dX9_copies_95 : decode cX9_copies 95 = .ok (.iadd, 1) := by decide +kernel
theorem dX9_copies_96 : decode cX9_copies 96 = .ok (.iastore, 1) := by decide +kernel
theorem dX9_copies_97 : decode cX9_copies 97 = .ok (.aload_n 0, 1) := by decide +kernel
theorem dX9_copies_98 : decode cX9_copies 98 = .ok (.getfield 35, 3) := by decide +kernel
theorem dX9_copies_101 : decode cX9_copies 101 = .ok (.iconst 1, 1) := by decide +kernel
theorem dX9_copies_102 : decode cX9_copies 102 = .ok (.iaload, 1) := by decide +kernel
theorem dX9_copies_103 : decode cX9_copies 103 = .ok (.ireturn, 1) := by decide +kernel
theorem dX9_put_0 : decode cX9_put 0 = .ok (.iconst 0, 1) := by decide +kernel
theorem dX9_put_1 : decode cX9_put 1 = .ok (.istore 4, 2) := by decide +kernel
theorem dX9_put_3 : decode cX9_put 3 = .ok (.iconst 0, 1) := by decide +kernel
theorem dX9_put_4 : decode cX9_put 4 = .ok (.istore 5, 2) := by decide +kernel
theorem dX9_put_6 : decode cX9_put 6 = .ok (.iload 5, 2) := by decide +kernel
theorem dX9_put_8 : decode cX9_put 8 = .ok (.aload_n 0, 1) := by decide +kernel
theorem dX9_put_9 : decode cX9_put 9 = .ok (.getfield 17, 3) := by decide +kernel
theorem dX9_put_12 : decode cX9_put 12 = .ok (.iconst 0, 1) := by decide +kernel
theorem dX9_put_13 : decode cX9_put 13 = .ok (.iaload, 1) := by decide +kernel
theorem dX9_put_14 : decode cX9_put 14 = .ok (.if_icmp .ge 38, 3) := by decide +kernel
theorem dX9_put_17 : decode cX9_put 17 = .ok (.iload 4, 2) := by decide +kernel
theorem dX9_put_19 : decode cX9_put 19 = .ok (.aload_n 0, 1) := by decide +kernel
theorem dX9_put_20 : decode cX9_put 20 = .ok (.getfield 13, 3) := by decide +kernel
theorem dX9_put_23 : decode cX9_put 23 = .ok (.iconst 0, 1) := by decide +kernel
theorem dX9_put_24 : decode cX9_put 24 = .ok (.iaload, 1) := by decide +kernel
theorem dX9_put_25 : decode cX9_put 25 = .ok (.imul, 1) := by decide +kernel
theorem dX9_put_26 : decode cX9_put 26 = .ok (.iload 5, 2) := by decide +kernel
theorem dX9_put_28 : decode cX9_put 28 = .ok (.iload_n 2, 1) := by decide +kernel
theorem dX9_put_29 : decode cX9_put 29 = .ok (.if_icmp .ne 7, 3) := by decide +kernel
theorem dX9_put_32 : decode cX9_put 32 = .ok (.iload_n 3, 1) := by decide +kernel
theorem dX9_put_33 : decode cX9_put 33 = .ok (.goto 10, 3) := by decide +kernel
theorem dX9_put_36 : decode cX9_put 36 = .ok (.aload_n 0, 1) := by decide +kernel
theorem dX9_put_37 : decode cX9_put 37 = .ok (.iload_n 1, 1) := by decide +kernel
theorem dX9_put_38 : decode cX9_put 38 = .ok (.iload 5, 2) := by decide +kernel
theorem dX9_put_40 : decode cX9_put 40 = .ok (.invokevirtual 113, 3) := by decide +kernel
theorem dX9_put_43 : decode cX9_put 43 = .ok (.iadd, 1) := by decide +kernel
theorem dX9_put_44 : decode cX9_put 44 = .ok (.istore 4, 2) := by decide +kernel
theorem dX9_put_46 : decode cX9_put 46 = .ok (.iinc 5 1, 3) := by decide +kernel
theorem dX9_put_49 : decode cX9_put 49 = .ok (.goto (-43), 3) := by decide +kernel
theorem dX9_put_52 : decode cX9_put 52 = .ok (.iload 4, 2) := by decide +kernel
theorem dX9_put_54 : decode cX9_put 54 = .ok (.ireturn, 1) := by decide +kernel
theorem dX9_errs_0 : decode cX9_errs 0 = .ok (.aload_n 0, 1) := by decide +kernel
theorem dX9_errs_1 : decode cX9_errs 1 = .ok (.iload_n 1, 1) := by decide +kernel
theorem dX9_errs_2 : decode cX9_errs 2 = .ok (.invokevirtual 129, 3) := by decide +kernel
theorem dX9_errs_5 : decode cX9_errs 5 = .ok (.ifCond .eq 11, 3) := by decide +kernel
theorem dX9_errs_8 : decode cX9_errs 8 = .ok (.aload_n 0, 1) := by decide +kernel
theorem dX9_errs_9 : decode cX9_errs 9 = .ok (.iload_n 2, 1) := by decide +kernel
theorem dX9_errs_10 : decode cX9_errs 10 = .ok (.invokevirtual 142, 3) := by decide +kernel
theorem dX9_errs_13 : decode cX9_errs 13 = .ok (.ifCond .ne 5, 3) := by decide +kernel
theorem dX9_errs_16 : decode cX9_errs 16 = .ok (.iconst (-1), 1) := by decide +kernel
theorem dX9_errs_17 : decode cX9_errs 17 = .ok (.ireturn, 1) := by decide +kernel
theorem dX9_errs_18 : decode cX9_errs 18 = .ok (.aload_n 0, 1) := by decide +kernel
