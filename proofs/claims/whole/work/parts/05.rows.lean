theorem dX9_says_18 : decode cX9_says 18 = .ok (.aload_n 0, 1) := by decide +kernel
theorem dX9_says_19 : decode cX9_says 19 = .ok (.iconst (-1), 1) := by decide +kernel
theorem dX9_says_20 : decode cX9_says 20 = .ok (.invokevirtual 115, 3) := by decide +kernel
theorem dX9_says_23 : decode cX9_says 23 = .ok (.ireturn, 1) := by decide +kernel
theorem dX9_says_24 : decode cX9_says 24 = .ok (.aload_n 0, 1) := by decide +kernel
theorem dX9_says_25 : decode cX9_says 25 = .ok (.getfield 53, 3) := by decide +kernel
theorem dX9_says_28 : decode cX9_says 28 = .ok (.iload_n 1, 1) := by decide +kernel
theorem dX9_says_29 : decode cX9_says 29 = .ok (.iaload, 1) := by decide +kernel
theorem dX9_says_30 : decode cX9_says 30 = .ok (.iconst 1, 1) := by decide +kernel
theorem dX9_says_31 : decode cX9_says 31 = .ok (.if_icmp .ne 10, 3) := by decide +kernel
theorem dX9_says_34 : decode cX9_says 34 = .ok (.aload_n 0, 1) := by decide +kernel
theorem dX9_says_35 : decode cX9_says 35 = .ok (.bipush (-2), 2) := by decide +kernel
theorem dX9_says_37 : decode cX9_says 37 = .ok (.invokevirtual 115, 3) := by decide +kernel
theorem dX9_says_40 : decode cX9_says 40 = .ok (.ireturn, 1) := by decide +kernel
theorem dX9_says_41 : decode cX9_says 41 = .ok (.aload_n 0, 1) := by decide +kernel
theorem dX9_says_42 : decode cX9_says 42 = .ok (.getfield 53, 3) := by decide +kernel
theorem dX9_says_45 : decode cX9_says 45 = .ok (.iload_n 1, 1) := by decide +kernel
theorem dX9_says_46 : decode cX9_says 46 = .ok (.iaload, 1) := by decide +kernel
theorem dX9_says_47 : decode cX9_says 47 = .ok (.ifCond .ne 10, 3) := by decide +kernel
theorem dX9_says_50 : decode cX9_says 50 = .ok (.aload_n 0, 1) := by decide +kernel
theorem dX9_says_51 : decode cX9_says 51 = .ok (.bipush (-3), 2) := by decide +kernel
theorem dX9_says_53 : decode cX9_says 53 = .ok (.invokevirtual 115, 3) := by decide +kernel
theorem dX9_says_56 : decode cX9_says 56 = .ok (.ireturn, 1) := by decide +kernel
theorem dX9_says_57 : decode cX9_says 57 = .ok (.aload_n 0, 1) := by decide +kernel
theorem dX9_says_58 : decode cX9_says 58 = .ok (.getfield 62, 3) := by decide +kernel
theorem dX9_says_61 : decode cX9_says 61 = .ok (.iload_n 1, 1) := by decide +kernel
theorem dX9_says_62 : decode cX9_says 62 = .ok (.iaload, 1) := by decide +kernel
theorem dX9_says_63 : decode cX9_says 63 = .ok (.istore_n 3, 1) := by decide +kernel
theorem dX9_says_64 : decode cX9_says 64 = .ok (.aload_n 0, 1) := by decide +kernel
theorem dX9_says_65 : decode cX9_says 65 = .ok (.getfield 26, 3) := by decide +kernel
theorem dX9_says_68 : decode cX9_says 68 = .ok (.iload_n 3, 1) := by decide +kernel
theorem dX9_says_69 : decode cX9_says 69 = .ok (.iaload, 1) := by decide +kernel
theorem dX9_says_70 : decode cX9_says 70 = .ok (.istore 4, 2) := by decide +kernel
theorem dX9_says_72 : decode cX9_says 72 = .ok (.iload_n 2, 1) := by decide +kernel
theorem dX9_says_73 : decode cX9_says 73 = .ok (.iconst 1, 1) := by decide +kernel
theorem dX9_says_74 : decode cX9_says 74 = .ok (.if_icmp .ne 9, 3) := by decide +kernel
theorem dX9_says_77 : decode cX9_says 77 = .ok (.iload 4, 2) := by decide +kernel
theorem dX9_says_79 : decode cX9_says 79 = .ok (.iconst 2, 1) := by decide +kernel
theorem dX9_says_80 : decode cX9_says 80 = .ok (.if_icmp .eq 26, 3) := by decide +kernel
theorem dX9_says_83 : decode cX9_says 83 = .ok (.iload_n 2, 1) := by decide +kernel
theorem dX9_says_84 : decode cX9_says 84 = .ok (.iconst 3, 1) := by decide +kernel
theorem dX9_says_85 : decode cX9_says 85 = .ok (.if_icmp .ne 9, 3) := by decide +kernel
theorem dX9_says_88 : decode cX9_says 88 = .ok (.iload 4, 2) := by decide +kernel
theorem dX9_says_90 : decode cX9_says 90 = .ok (.iconst 5, 1) := by decide +kernel
theorem dX9_says_91 : decode cX9_says 91 = .ok (.if_icmp .eq 15, 3) := by decide +kernel
theorem dX9_says_94 : decode cX9_says 94 = .ok (.iload_n 2, 1) := by decide +kernel
theorem dX9_says_95 : decode cX9_says 95 = .ok (.iconst 4, 1) := by decide +kernel
theorem dX9_says_96 : decode cX9_says 96 = .ok (.if_icmp .ne 14, 3) := by decide +kernel
theorem dX9_says_99 : decode cX9_says 99 = .ok (.iload 4, 2) := by decide +kernel
theorem dX9_says_101 : decode cX9_says 101 = .ok (.bipush 6, 2) := by decide +kernel
theorem dX9_says_103 : decode cX9_says 103 = .ok (.if_icmp .ne 7, 3) := by decide +kernel
theorem dX9_says_106 : decode cX9_says 106 = .ok (.iconst 1, 1) := by decide +kernel
theorem dX9_says_107 : decode cX9_says 107 = .ok (.goto 4, 3) := by decide +kernel
theorem dX9_says_110 : decode cX9_says 110 = .ok (.iconst 0, 1) := by decide +kernel
theorem dX9_says_111 : decode cX9_says 111 = .ok (.istore 5, 2) := by decide +kernel
theorem dX9_says_113 : decode cX9_says 113 = .ok (.iload_n 2, 1) := by decide +kernel
theorem dX9_says_114 : decode cX9_says 114 = .ok (.ifCond .eq 21, 3) := by decide +kernel
theorem dX9_says_117 : decode cX9_says 117 = .ok (.iload_n 2, 1) := by decide +kernel
theorem dX9_says_118 : decode cX9_says 118 = .ok (.iload 4, 2) := by decide +kernel
theorem dX9_says_120 : decode cX9_says 120 = .ok (.if_icmp .eq 15, 3) := by decide +kernel
theorem dX9_says_123 : decode cX9_says 123 = .ok (.iload 5, 2) := by decide +kernel
theorem dX9_says_125 : decode cX9_says 125 = .ok (.ifCond .ne 10, 3) := by decide +kernel
theorem dX9_says_128 : decode cX9_says 128 = .ok (.aload_n 0, 1) := by decide +kernel
theorem dX9_says_129 : decode cX9_says 129 = .ok (.bipush (-2), 2) := by decide +kernel
theorem dX9_says_131 : decode cX9_says 131 = .ok (.invokevirtual 115, 3) := by decide +kernel
theorem dX9_says_134 : decode cX9_says 134 = .ok (.ireturn, 1) := by decide +kernel
theorem dX9_says_135 : decode cX9_says 135 = .ok (.iload_n 2, 1) := by decide +kernel
theorem dX9_says_136 : decode cX9_says 136 = .ok (.tableswitch 60 0 5 #[40, 47, 47, 53, 60, 53], 40) := by decide +kernel
theorem dX9_says_176 : decode cX9_says 176 = .ok (.aload_n 0, 1) := by decide +kernel
theorem dX9_says_177 : decode cX9_says 177 = .ok (.getfield 41, 3) := by decide +kernel
theorem dX9_says_180 : decode cX9_says 180 = .ok (.iload_n 3, 1) := by decide +kernel
theorem dX9_says_181 : decode cX9_says 181 = .ok (.iaload, 1) := by decide +kernel
theorem dX9_says_182 : decode cX9_says 182 = .ok (.ireturn, 1) := by decide +kernel
theorem dX9_says_183 : decode cX9_says 183 = .ok (.aload_n 0, 1) := by decide +kernel
theorem dX9_says_184 : decode cX9_says 184 = .ok (.iload_n 3, 1) := by decide +kernel
theorem dX9_says_185 : decode cX9_says 185 = .ok (.invokevirtual 122, 3) := by decide +kernel
theorem dX9_says_188 : decode cX9_says 188 = .ok (.ireturn, 1) := by decide +kernel
theorem dX9_says_189 : decode cX9_says 189 = .ok (.aload_n 0, 1) := by decide +kernel
theorem dX9_says_190 : decode cX9_says 190 = .ok (.getfield 38, 3) := by decide +kernel
theorem dX9_says_193 : decode cX9_says 193 = .ok (.iload_n 3, 1) := by decide +kernel
theorem dX9_says_194 : decode cX9_says 194 = .ok (.iaload, 1) := by decide +kernel
theorem dX9_says_195 : decode cX9_says 195 = .ok (.ireturn, 1) := by decide +kernel
theorem dX9_says_196 : decode cX9_says 196 = .ok (.aload_n 0, 1) := by decide +kernel
theorem dX9_says_197 : decode cX9_says 197 = .ok (.getfield 35, 3) := by decide +kernel
theorem dX9_says_200 : decode cX9_says 200 = .ok (.iload_n 3, 1) := by decide +kernel
theorem dX9_says_201 : decode cX9_says 201 = .ok (.iaload, 1) := by decide +kernel
theorem dX9_says_202 : decode cX9_says 202 = .ok (.ireturn, 1) := by decide +kernel
theorem dX9_wanted_0 : decode cX9_wanted 0 = .ok (.aload_n 0, 1) := by decide +kernel
theorem dX9_wanted_1 : decode cX9_wanted 1 = .ok (.iload_n 1, 1) := by decide +kernel
theorem dX9_wanted_2 : decode cX9_wanted 2 = .ok (.invokevirtual 111, 3) := by decide +kernel
theorem dX9_wanted_5 : decode cX9_wanted 5 = .ok (.ifCond .ne 7, 3) := by decide +kernel
theorem dX9_wanted_8 : decode cX9_wanted 8 = .ok (.iconst (-1), 1) := by decide +kernel
theorem dX9_wanted_9 : decode cX9_wanted 9 = .ok (.goto 33, 3) := by decide +kernel
theorem dX9_wanted_12 : decode cX9_wanted 12 = .ok (.aload_n 0, 1) := by decide +kernel
theorem dX9_wanted_13 : decode cX9_wanted 13 = .ok (.getfield 53, 3) := by decide +kernel
theorem dX9_wanted_16 : decode cX9_wanted 16 = .ok (.iload_n 1, 1) := by decide +kernel
theorem dX9_wanted_17 : decode cX9_wanted 17 = .ok (.iaload, 1) := by decide +kernel
theorem dX9_wanted_18 : decode cX9_wanted 18 = .ok (.iconst 2, 1) := by decide +kernel
theorem dX9_wanted_19 : decode cX9_wanted 19 = .ok (.if_icmp .ne 8, 3) := by decide +kernel
theorem dX9_wanted_22 : decode cX9_wanted 22 = .ok (.bipush (-2), 2) := by decide +kernel
theorem dX9_wanted_24 : decode cX9_wanted 24 = .ok (.goto 18, 3) := by decide +kernel
theorem dX9_wanted_27 : decode cX9_wanted 27 = .ok (.aload_n 0, 1) := by decide +kernel
theorem dX9_wanted_28 : decode cX9_wanted 28 = .ok (.getfield 53, 3) := by decide +kernel
theorem dX9_wanted_31 : decode cX9_wanted 31 = .ok (.iload_n 1, 1) := by decide +kernel
theorem dX9_wanted_32 : decode cX9_wanted 32 = .ok (.iaload, 1) := by decide +kernel
theorem dX9_wanted_33 : decode cX9_wanted 33 = .ok (.ifCond .ne 8, 3) := by decide +kernel
theorem dX9_wanted_36 : decode cX9_wanted 36 = .ok (.bipush (-3), 2) := by decide +kernel
theorem dX9_wanted_38 : decode cX9_wanted 38 = .ok (.goto 4, 3) := by decide +kernel
theorem dX9_wanted_41 : decode cX9_wanted 41 = .ok (.iconst 0, 1) := by decide +kernel
theorem dX9_wanted_42 : decode cX9_wanted 42 = .ok (.ireturn, 1) := by decide +kernel
theorem dX9_intAt_0 : decode cX9_intAt 0 = .ok (.aload_n 0, 1) := by decide +kernel
theorem dX9_intAt_1 : decode cX9_intAt 1 = .ok (.getfield 65, 3) := by decide +kernel
theorem dX9_intAt_4 : decode cX9_intAt 4 = .ok (.sipush 160, 3) := by decide +kernel
theorem dX9_intAt_7 : decode cX9_intAt 7 = .ok (.iload_n 1, 1) := by decide +kernel
theorem dX9_intAt_8 : decode cX9_intAt 8 = .ok (.imul, 1) := by decide +kernel
theorem dX9_intAt_9 : decode cX9_intAt 9 = .ok (.iload_n 2, 1) := by decide +kernel
theorem dX9_intAt_10 : decode cX9_intAt 10 = .ok (.iadd, 1) := by decide +kernel
theorem dX9_intAt_11 : decode cX9_intAt 11 = .ok (.laload, 1) := by decide +kernel
theorem dX9_intAt_12 : decode cX9_intAt 12 = .ok (.l2i, 1) := by decide +kernel
theorem dX9_intAt_13 : decode cX9_intAt 13 = .ok (.ireturn, 1) := by decide +kernel
theorem dX9_thereAt_0 : decode cX9_thereAt 0 = .ok (.iconst 0, 1) := by decide +kernel
theorem dX9_thereAt_1 : decode cX9_thereAt 1 = .ok (.istore_n 2, 1) := by decide +kernel
theorem dX9_thereAt_2 : decode cX9_thereAt 2 = .ok (.iconst 0, 1) := by decide +kernel
theorem dX9_thereAt_3 : decode cX9_thereAt 3 = .ok (.istore_n 3, 1) := by decide +kernel
theorem dX9_thereAt_4 : decode cX9_thereAt 4 = .ok (.iload_n 3, 1) := by decide +kernel
theorem dX9_thereAt_5 : decode cX9_thereAt 5 = .ok (.aload_n 0, 1) := by decide +kernel
theorem dX9_thereAt_6 : decode cX9_thereAt 6 = .ok (.getfield 108, 3) := by decide +kernel
theorem dX9_thereAt_9 : decode cX9_thereAt 9 = .ok (.if_icmp .ge 25, 3) := by decide +kernel
theorem dX9_thereAt_12 : decode cX9_thereAt 12 = .ok (.aload_n 0, 1) := by decide +kernel
theorem dX9_thereAt_13 : decode cX9_thereAt 13 = .ok (.getfield 41, 3) := by decide +kernel
theorem dX9_thereAt_16 : decode cX9_thereAt 16 = .ok (.iload_n 3, 1) := by decide +kernel
theorem dX9_thereAt_17 : decode cX9_thereAt 17 = .ok (.iaload, 1) := by decide +kernel
theorem dX9_thereAt_18 : decode cX9_thereAt 18 = .ok (.iload_n 1, 1) := by decide +kernel
theorem dX9_thereAt_19 : decode cX9_thereAt 19 = .ok (.if_icmp .ne 9, 3) := by decide +kernel
theorem dX9_thereAt_22 : decode cX9_thereAt 22 = .ok (.iload_n 2, 1) := by decide +kernel
theorem dX9_thereAt_23 : decode cX9_thereAt 23 = .ok (.iconst 1, 1) := by decide +kernel
theorem dX9_thereAt_24 : decode cX9_thereAt 24 = .ok (.iload_n 3, 1) := by decide +kernel
theorem dX9_thereAt_25 : decode cX9_thereAt 25 = .ok (.ishl, 1) := by decide +kernel
theorem dX9_thereAt_26 : decode cX9_thereAt 26 = .ok (.iadd, 1) := by decide +kernel
theorem dX9_thereAt_27 : decode cX9_thereAt 27 = .ok (.istore_n 2, 1) := by decide +kernel
theorem dX9_thereAt_28 : decode cX9_thereAt 28 = .ok (.iinc 3 1, 3) := by decide +kernel
theorem dX9_thereAt_31 : decode cX9_thereAt 31 = .ok (.goto (-27), 3) := by decide +kernel
theorem dX9_thereAt_34 : decode cX9_thereAt 34 = .ok (.iload_n 2, 1) := by decide +kernel
theorem dX9_thereAt_35 : decode cX9_thereAt 35 = .ok (.ireturn, 1) := by decide +kernel
theorem dX9_adds_0 : decode cX9_adds 0 = .ok (.aload_n 0, 1) := by decide +kernel
theorem dX9_adds_1 : decode cX9_adds 1 = .ok (.getfield 26, 3) := by decide +kernel
theorem dX9_adds_4 : decode cX9_adds 4 = .ok (.aload_n 0, 1) := by decide +kernel
theorem dX9_adds_5 : decode cX9_adds 5 = .ok (.getfield 108, 3) := by decide +kernel
theorem dX9_adds_8 : decode cX9_adds 8 = .ok (.iload_n 1, 1) := by decide +kernel
theorem dX9_adds_9 : decode cX9_adds 9 = .ok (.iastore, 1) := by decide +kernel
theorem dX9_adds_10 : decode cX9_adds 10 = .ok (.aload_n 0, 1) := by decide +kernel
theorem dX9_adds_11 : decode cX9_adds 11 = .ok (.getfield 29, 3) := by decide +kernel
theorem dX9_adds_14 : decode cX9_adds 14 = .ok (.aload_n 0, 1) := by decide +kernel
theorem dX9_adds_15 : decode cX9_adds 15 = .ok (.getfield 108, 3) := by decide +kernel
theorem dX9_adds_18 : decode cX9_adds 18 = .ok (.iload_n 2, 1) := by decide +kernel
theorem dX9_adds_19 : decode cX9_adds 19 = .ok (.iastore, 1) := by decide +kernel
theorem dX9_adds_20 : decode cX9_adds 20 = .ok (.aload_n 0, 1) := by decide +kernel
theorem dX9_adds_21 : decode cX9_adds 21 = .ok (.getfield 32, 3) := by decide +kernel
theorem dX9_adds_24 : decode cX9_adds 24 = .ok (.aload_n 0, 1) := by decide +kernel
theorem dX9_adds_25 : decode cX9_adds 25 = .ok (.getfield 108, 3) := by decide +kernel
theorem dX9_adds_28 : decode cX9_adds 28 = .ok (.iload_n 3, 1) := by decide +kernel
theorem dX9_adds_29 : decode cX9_adds 29 = .ok (.iastore, 1) := by decide +kernel
theorem dX9_adds_30 : decode cX9_adds 30 = .ok (.aload_n 0, 1) := by decide +kernel
theorem dX9_adds_31 : decode cX9_adds 31 = .ok (.getfield 35, 3) := by decide +kernel
theorem dX9_adds_34 : decode cX9_adds 34 = .ok (.aload_n 0, 1) := by decide +kernel
theorem dX9_adds_35 : decode cX9_adds 35 = .ok (.getfield 108, 3) := by decide +kernel
theorem dX9_adds_38 : decode cX9_adds 38 = .ok (.iload 4, 2) := by decide +kernel
theorem dX9_adds_40 : decode cX9_adds 40 = .ok (.iastore, 1) := by decide +kernel
theorem dX9_adds_41 : decode cX9_adds 41 = .ok (.aload_n 0, 1) := by decide +kernel
theorem dX9_adds_42 : decode cX9_adds 42 = .ok (.getfield 38, 3) := by decide +kernel
theorem dX9_adds_45 : decode cX9_adds 45 = .ok (.aload_n 0, 1) := by decide +kernel
theorem dX9_adds_46 : decode cX9_adds 46 = .ok (.getfield 108, 3) := by decide +kernel
theorem dX9_adds_49 : decode cX9_adds 49 = .ok (.iload 5, 2) := by decide +kernel
theorem dX9_adds_51 : decode cX9_adds 51 = .ok (.iastore, 1) := by decide +kernel
theorem dX9_adds_52 : decode cX9_adds 52 = .ok (.aload_n 0, 1) := by decide +kernel
theorem dX9_adds_53 : decode cX9_adds 53 = .ok (.getfield 41, 3) := by decide +kernel
theorem dX9_adds_56 : decode cX9_adds 56 = .ok (.aload_n 0, 1) := by decide +kernel
theorem dX9_adds_57 : decode cX9_adds 57 = .ok (.getfield 108, 3) := by decide +kernel
theorem dX9_adds_60 : decode cX9_adds 60 = .ok (.iload 6, 2) := by decide +kernel
theorem dX9_adds_62 : decode cX9_adds 62 = .ok (.iastore, 1) := by decide +kernel
theorem dX9_adds_63 : decode cX9_adds 63 = .ok (.aload_n 0, 1) := by decide +kernel
theorem dX9_adds_64 : decode cX9_adds 64 = .ok (.getfield 44, 3) := by decide +kernel
theorem dX9_adds_67 : decode cX9_adds 67 = .ok (.aload_n 0, 1) := by decide +kernel
theorem dX9_adds_68 : decode cX9_adds 68 = .ok (.getfield 108, 3) := by decide +kernel
theorem dX9_adds_71 : decode cX9_adds 71 = .ok (.iconst 0, 1) := by decide +kernel
theorem dX9_adds_72 : decode cX9_adds 72 = .ok (.iastore, 1) := by decide +kernel
theorem dX9_adds_73 : decode cX9_adds 73 = .ok (.aload_n 0, 1) := by decide +kernel
theorem dX9_adds_74 : decode cX9_adds 74 = .ok (.dup, 1) := by decide +kernel
theorem dX9_adds_75 : decode cX9_adds 75 = .ok (.getfield 108, 3) := by decide +kernel
theorem dX9_adds_78 : decode cX9_adds 78 = .ok (.dup_x1, 1) := by decide +kernel
theorem dX9_adds_79 : decode cX9_adds 79 = .ok (.iconst 1, 1) := by decide +kernel
theorem dX9_adds_80 : decode cX9_adds 80 = .ok (.iadd, 1) := by decide +kernel
theorem dX9_adds_81 : decode cX9_adds 81 = .ok (.putfield 108, 3) := by decide +kernel
theorem dX9_adds_84 : decode cX9_adds 84 = .ok (.ireturn, 1) := by decide +kernel
theorem dX9_person_0 : decode cX9_person 0 = .ok (.iload_n 1, 1) := by decide +kernel
theorem dX9_person_1 : decode cX9_person 1 = .ok (.ifCond .lt 9, 3) := by decide +kernel
theorem dX9_person_4 : decode cX9_person 4 = .ok (.iload_n 1, 1) := by decide +kernel
theorem dX9_person_5 : decode cX9_person 5 = .ok (.bipush 6, 2) := by decide +kernel
theorem dX9_person_7 : decode cX9_person 7 = .ok (.if_icmp .le 9, 3) := by decide +kernel
theorem dX9_person_10 : decode cX9_person 10 = .ok (.aload_n 0, 1) := by decide +kernel
theorem dX9_person_11 : decode cX9_person 11 = .ok (.iconst (-1), 1) := by decide +kernel
theorem dX9_person_12 : decode cX9_person 12 = .ok (.invokevirtual 115, 3) := by decide +kernel
theorem dX9_person_15 : decode cX9_person 15 = .ok (.ireturn, 1) := by decide +kernel
theorem dX9_person_16 : decode cX9_person 16 = .ok (.aload_n 0, 1) := by decide +kernel
theorem dX9_person_17 : decode cX9_person 17 = .ok (.iload_n 2, 1) := by decide +kernel
theorem dX9_person_18 : decode cX9_person 18 = .ok (.iconst 0, 1) := by decide +kernel
theorem dX9_person_19 : decode cX9_person 19 = .ok (.bipush 9, 2) := by decide +kernel
theorem dX9_person_21 : decode cX9_person 21 = .ok (.invokevirtual 125, 3) := by decide +kernel
theorem dX9_person_24 : decode cX9_person 24 = .ok (.ifCond .eq 59, 3) := by decide +kernel
theorem dX9_person_27 : decode cX9_person 27 = .ok (.aload_n 0, 1) := by decide +kernel
theorem dX9_person_28 : decode cX9_person 28 = .ok (.iload_n 3, 1) := by decide +kernel
theorem dX9_person_29 : decode cX9_person 29 = .ok (.iconst 0, 1) := by decide +kernel
theorem dX9_person_30 : decode cX9_person 30 = .ok (.bipush 20, 2) := by decide +kernel
theorem dX9_person_32 : decode cX9_person 32 = .ok (.invokevirtual 125, 3) := by decide +kernel
theorem dX9_person_35 : decode cX9_person 35 = .ok (.ifCond .eq 48, 3) := by decide +kernel
theorem dX9_person_38 : decode cX9_person 38 = .ok (.aload_n 0, 1) := by decide +kernel
theorem dX9_person_39 : decode cX9_person 39 = .ok (.iload 4, 2) := by decide +kernel
theorem dX9_person_41 : decode cX9_person 41 = .ok (.iconst 0, 1) := by decide +kernel
theorem dX9_person_42 : decode cX9_person 42 = .ok (.bipush 9, 2) := by decide +kernel
theorem dX9_person_44 : decode cX9_person 44 = .ok (.invokevirtual 125, 3) := by decide +kernel
theorem dX9_person_47 : decode cX9_person 47 = .ok (.ifCond .eq 36, 3) := by decide +kernel
theorem dX9_person_50 : decode cX9_person 50 = .ok (.aload_n 0, 1) := by decide +kernel
theorem dX9_person_51 : decode cX9_person 51 = .ok (.iload 5, 2) := by decide +kernel
theorem dX9_person_53 : decode cX9_person 53 = .ok (.iconst 0, 1) := by decide +kernel
theorem dX9_person_54 : decode cX9_person 54 = .ok (.sipush 9999, 3) := by decide +kernel
theorem dX9_person_57 : decode cX9_person 57 = .ok (.invokevirtual 125, 3) := by decide +kernel
theorem dX9_person_60 : decode cX9_person 60 = .ok (.ifCond .eq 23, 3) := by decide +kernel
theorem dX9_person_63 : decode cX9_person 63 = .ok (.aload_n 0, 1) := by decide +kernel
theorem dX9_person_64 : decode cX9_person 64 = .ok (.iload 6, 2) := by decide +kernel
theorem dX9_person_66 : decode cX9_person 66 = .ok (.invokevirtual 129, 3) := by decide +kernel
theorem dX9_person_69 : decode cX9_person 69 = .ok (.ifCond .eq 14, 3) := by decide +kernel
theorem dX9_person_72 : decode cX9_person 72 = .ok (.aload_n 0, 1) := by decide +kernel
theorem dX9_person_73 : decode cX9_person 73 = .ok (.getfield 47, 3) := by decide +kernel
theorem dX9_person_76 : decode cX9_person 76 = .ok (.iload 6, 2) := by decide +kernel
theorem dX9_person_78 : decode cX9_person 78 = .ok (.iaload, 1) := by decide +kernel
theorem dX9_person_79 : decode cX9_person 79 = .ok (.iconst 1, 1) := by decide +kernel
theorem dX9_person_80 : decode cX9_person 80 = .ok (.if_icmp .ne 10, 3) := by decide +kernel
theorem dX9_person_83 : decode cX9_person 83 = .ok (.aload_n 0, 1) := by decide +kernel
theorem dX9_person_84 : decode cX9_person 84 = .ok (.bipush (-6), 2) := by decide +kernel
theorem dX9_person_86 : decode cX9_person 86 = .ok (.invokevirtual 115, 3) := by decide +kernel
theorem dX9_person_89 : decode cX9_person 89 = .ok (.ireturn, 1) := by decide +kernel
theorem dX9_person_90 : decode cX9_person 90 = .ok (.aload_n 0, 1) := by decide +kernel
theorem dX9_person_91 : decode cX9_person 91 = .ok (.getfield 108, 3) := by decide +kernel
theorem dX9_person_94 : decode cX9_person 94 = .ok (.bipush 7, 2) := by decide +kernel
theorem dX9_person_96 : decode cX9_person 96 = .ok (.if_icmp .ne 12, 3) := by decide +kernel
theorem dX9_person_99 : decode cX9_person 99 = .ok (.aload_n 0, 1) := by decide +kernel
theorem dX9_person_100 : decode cX9_person 100 = .ok (.bipush (-7), 2) := by decide +kernel
theorem dX9_person_102 : decode cX9_person 102 = .ok (.invokevirtual 115, 3) := by decide +kernel
theorem dX9_person_105 : decode cX9_person 105 = .ok (.goto 16, 3) := by decide +kernel
theorem dX9_person_108 : decode cX9_person 108 = .ok (.aload_n 0, 1) := by decide +kernel
theorem dX9_person_109 : decode cX9_person 109 = .ok (.iload_n 1, 1) := by decide +kernel
theorem dX9_person_110 : decode cX9_person 110 = .ok (.iload_n 2, 1) := by decide +kernel
theorem dX9_person_111 : decode cX9_person 111 = .ok (.iload_n 3, 1) := by decide +kernel
theorem dX9_person_112 : decode cX9_person 112 = .ok (.iload 4, 2) := by decide +kernel
theorem dX9_person_114 : decode cX9_person 114 = .ok (.iload 5, 2) := by decide +kernel
theorem dX9_person_116 : decode cX9_person 116 = .ok (.iload 6, 2) := by decide +kernel
theorem dX9_person_118 : decode cX9_person 118 = .ok (.invokevirtual 132, 3) := by decide +kernel
theorem dX9_person_121 : decode cX9_person 121 = .ok (.ireturn, 1) := by decide +kernel
theorem dX9_build_0 : decode cX9_build 0 = .ok (.aload_n 0, 1) := by decide +kernel
theorem dX9_build_1 : decode cX9_build 1 = .ok (.iload_n 1, 1) := by decide +kernel
theorem dX9_build_2 : decode cX9_build 2 = .ok (.invokevirtual 129, 3) := by decide +kernel
theorem dX9_build_5 : decode cX9_build 5 = .ok (.ifCond .eq 28, 3) := by decide +kernel
theorem dX9_build_8 : decode cX9_build 8 = .ok (.iload_n 2, 1) := by decide +kernel
theorem dX9_build_9 : decode cX9_build 9 = .ok (.ifCond .lt 24, 3) := by decide +kernel
theorem dX9_build_12 : decode cX9_build 12 = .ok (.iload_n 2, 1) := by decide +kernel
theorem dX9_build_13 : decode cX9_build 13 = .ok (.iconst 1, 1) := by decide +kernel
theorem dX9_build_14 : decode cX9_build 14 = .ok (.if_icmp .gt 19, 3) := by decide +kernel
theorem dX9_build_17 : decode cX9_build 17 = .ok (.iload_n 2, 1) := by decide +kernel
theorem dX9_build_18 : decode cX9_build 18 = .ok (.ifCond .ne 22, 3) := by decide +kernel
theorem dX9_build_21 : decode cX9_build 21 = .ok (.iload_n 3, 1) := by decide +kernel
theorem dX9_build_22 : decode cX9_build 22 = .ok (.ifCond .eq 18, 3) := by decide +kernel
theorem dX9_build_25 : decode cX9_build 25 = .ok (.aload_n 0, 1) := by decide +kernel
theorem dX9_build_26 : decode cX9_build 26 = .ok (.iload_n 1, 1) := by decide +kernel
theorem dX9_build_27 : decode cX9_build 27 = .ok (.invokevirtual 136, 3) := by decide +kernel
theorem dX9_build_30 : decode cX9_build 30 = .ok (.ifCond .eq 10, 3) := by decide +kernel
theorem dX9_build_33 : decode cX9_build 33 = .ok (.aload_n 0, 1) := by decide +kernel
theorem dX9_build_34 : decode cX9_build 34 = .ok (.bipush (-6), 2) := by decide +kernel
theorem dX9_build_36 : decode cX9_build 36 = .ok (.invokevirtual 115, 3) := by decide +kernel
theorem dX9_build_39 : decode cX9_build 39 = .ok (.ireturn, 1) := by decide +kernel
theorem dX9_build_40 : decode cX9_build 40 = .ok (.iload_n 2, 1) := by decide +kernel
theorem dX9_build_41 : decode cX9_build 41 = .ok (.ifCond .ne 12, 3) := by decide +kernel
theorem dX9_build_44 : decode cX9_build 44 = .ok (.aload_n 0, 1) := by decide +kernel
theorem dX9_build_45 : decode cX9_build 45 = .ok (.getfield 47, 3) := by decide +kernel
theorem dX9_build_48 : decode cX9_build 48 = .ok (.iload_n 1, 1) := by decide +kernel
theorem dX9_build_49 : decode cX9_build 49 = .ok (.iaload, 1) := by decide +kernel
theorem dX9_build_50 : decode cX9_build 50 = .ok (.goto 9, 3) := by decide +kernel
theorem dX9_build_53 : decode cX9_build 53 = .ok (.aload_n 0, 1) := by decide +kernel
theorem dX9_build_54 : decode cX9_build 54 = .ok (.getfield 50, 3) := by decide +kernel
theorem dX9_build_57 : decode cX9_build 57 = .ok (.iload_n 1, 1) := by decide +kernel
theorem dX9_build_58 : decode cX9_build 58 = .ok (.iaload, 1) := by decide +kernel
theorem dX9_build_59 : decode cX9_build 59 = .ok (.istore 4, 2) := by decide +kernel
theorem dX9_build_61 : decode cX9_build 61 = .ok (.iload_n 2, 1) := by decide +kernel
theorem dX9_build_62 : decode cX9_build 62 = .ok (.ifCond .ne 21, 3) := by decide +kernel
theorem dX9_build_65 : decode cX9_build 65 = .ok (.aload_n 0, 1) := by decide +kernel
theorem dX9_build_66 : decode cX9_build 66 = .ok (.getfield 47, 3) := by decide +kernel
theorem dX9_build_69 : decode cX9_build 69 = .ok (.iload_n 1, 1) := by decide +kernel
theorem dX9_build_70 : decode cX9_build 70 = .ok (.iload_n 3, 1) := by decide +kernel
theorem dX9_build_71 : decode cX9_build 71 = .ok (.ifCond .eq 7, 3) := by decide +kernel
theorem dX9_build_74 : decode cX9_build 74 = .ok (.iconst 1, 1) := by decide +kernel
theorem dX9_build_75 : decode cX9_build 75 = .ok (.goto 4, 3) := by decide +kernel
theorem dX9_build_78 : decode cX9_build 78 = .ok (.iconst 0, 1) := by decide +kernel
theorem dX9_build_79 : decode cX9_build 79 = .ok (.iastore, 1) := by decide +kernel
theorem dX9_build_80 : decode cX9_build 80 = .ok (.goto 18, 3) := by decide +kernel
theorem dX9_build_83 : decode cX9_build 83 = .ok (.aload_n 0, 1) := by decide +kernel
theorem dX9_build_84 : decode cX9_build 84 = .ok (.getfield 50, 3) := by decide +kernel
theorem dX9_build_87 : decode cX9_build 87 = .ok (.iload_n 1, 1) := by decide +kernel
theorem dX9_build_88 : decode cX9_build 88 = .ok (.iload_n 3, 1) := by decide +kernel
theorem dX9_build_89 : decode cX9_build 89 = .ok (.ifCond .eq 7, 3) := by decide +kernel
theorem dX9_build_92 : decode cX9_build 92 = .ok (.iconst 1, 1) := by decide +kernel
theorem dX9_build_93 : decode cX9_build 93 = .ok (.goto 4, 3) := by decide +kernel
theorem dX9_build_96 : decode cX9_build 96 = .ok (.iconst 0, 1) := by decide +kernel
theorem dX9_build_97 : decode cX9_build 97 = .ok (.iastore, 1) := by decide +kernel
theorem dX9_build_98 : decode cX9_build 98 = .ok (.iload 4, 2) := by decide +kernel
theorem dX9_build_100 : decode cX9_build 100 = .ok (.ireturn, 1) := by decide +kernel
theorem dX9_put_0 : decode cX9_put 0 = .ok (.aload_n 0, 1) := by decide +kernel
theorem dX9_put_1 : decode cX9_put 1 = .ok (.iload_n 1, 1) := by decide +kernel
theorem dX9_put_2 : decode cX9_put 2 = .ok (.invokevirtual 119, 3) := by decide +kernel
theorem dX9_put_5 : decode cX9_put 5 = .ok (.ifCond .ne 9, 3) := by decide +kernel
theorem dX9_put_8 : decode cX9_put 8 = .ok (.aload_n 0, 1) := by decide +kernel
theorem dX9_put_9 : decode cX9_put 9 = .ok (.iconst (-1), 1) := by decide +kernel
theorem dX9_put_10 : decode cX9_put 10 = .ok (.invokevirtual 115, 3) := by decide +kernel
theorem dX9_put_13 : decode cX9_put 13 = .ok (.ireturn, 1) := by decide +kernel
theorem dX9_put_14 : decode cX9_put 14 = .ok (.aload_n 0, 1) := by decide +kernel
theorem dX9_put_15 : decode cX9_put 15 = .ok (.iload_n 2, 1) := by decide +kernel
theorem dX9_put_16 : decode cX9_put 16 = .ok (.invokevirtual 129, 3) := by decide +kernel
theorem dX9_put_19 : decode cX9_put 19 = .ok (.ifCond .eq 13, 3) := by decide +kernel
theorem dX9_put_22 : decode cX9_put 22 = .ok (.aload_n 0, 1) := by decide +kernel
theorem dX9_put_23 : decode cX9_put 23 = .ok (.getfield 47, 3) := by decide +kernel
theorem dX9_put_26 : decode cX9_put 26 = .ok (.iload_n 2, 1) := by decide +kernel
theorem dX9_put_27 : decode cX9_put 27 = .ok (.iaload, 1) := by decide +kernel
theorem dX9_put_28 : decode cX9_put 28 = .ok (.iconst 1, 1) := by decide +kernel
theorem dX9_put_29 : decode cX9_put 29 = .ok (.if_icmp .ne 10, 3) := by decide +kernel
theorem dX9_put_32 : decode cX9_put 32 = .ok (.aload_n 0, 1) := by decide +kernel
theorem dX9_put_33 : decode cX9_put 33 = .ok (.bipush (-6), 2) := by decide +kernel
theorem dX9_put_35 : decode cX9_put 35 = .ok (.invokevirtual 115, 3) := by decide +kernel
theorem dX9_put_38 : decode cX9_put 38 = .ok (.ireturn, 1) := by decide +kernel
theorem dX9_put_39 : decode cX9_put 39 = .ok (.aload_n 0, 1) := by decide +kernel
theorem dX9_put_40 : decode cX9_put 40 = .ok (.getfield 41, 3) := by decide +kernel
theorem dX9_put_43 : decode cX9_put 43 = .ok (.iload_n 1, 1) := by decide +kernel
theorem dX9_put_44 : decode cX9_put 44 = .ok (.iaload, 1) := by decide +kernel
theorem dX9_put_45 : decode cX9_put 45 = .ok (.istore_n 3, 1) := by decide +kernel
theorem dX9_put_46 : decode cX9_put 46 = .ok (.aload_n 0, 1) := by decide +kernel
theorem dX9_put_47 : decode cX9_put 47 = .ok (.getfield 41, 3) := by decide +kernel
theorem dX9_put_50 : decode cX9_put 50 = .ok (.iload_n 1, 1) := by decide +kernel
theorem dX9_put_51 : decode cX9_put 51 = .ok (.iload_n 2, 1) := by decide +kernel
theorem dX9_put_52 : decode cX9_put 52 = .ok (.iastore, 1) := by decide +kernel
theorem dX9_put_53 : decode cX9_put 53 = .ok (.iload_n 3, 1) := by decide +kernel
theorem dX9_put_54 : decode cX9_put 54 = .ok (.ireturn, 1) := by decide +kernel
theorem dX9_sack_0 : decode cX9_sack 0 = .ok (.aload_n 0, 1) := by decide +kernel
theorem dX9_sack_1 : decode cX9_sack 1 = .ok (.iload_n 1, 1) := by decide +kernel
theorem dX9_sack_2 : decode cX9_sack 2 = .ok (.invokevirtual 119, 3) := by decide +kernel
theorem dX9_sack_5 : decode cX9_sack 5 = .ok (.ifCond .ne 9, 3) := by decide +kernel
theorem dX9_sack_8 : decode cX9_sack 8 = .ok (.aload_n 0, 1) := by decide +kernel
theorem dX9_sack_9 : decode cX9_sack 9 = .ok (.iconst (-1), 1) := by decide +kernel
theorem dX9_sack_10 : decode cX9_sack 10 = .ok (.invokevirtual 115, 3) := by decide +kernel
theorem dX9_sack_13 : decode cX9_sack 13 = .ok (.ireturn, 1) := by decide +kernel
theorem dX9_sack_14 : decode cX9_sack 14 = .ok (.aload_n 0, 1) := by decide +kernel
theorem dX9_sack_15 : decode cX9_sack 15 = .ok (.getfield 44, 3) := by decide +kernel
theorem dX9_sack_18 : decode cX9_sack 18 = .ok (.iload_n 1, 1) := by decide +kernel
theorem dX9_sack_19 : decode cX9_sack 19 = .ok (.iaload, 1) := by decide +kernel
theorem dX9_sack_20 : decode cX9_sack 20 = .ok (.istore_n 3, 1) := by decide +kernel
theorem dX9_sack_21 : decode cX9_sack 21 = .ok (.aload_n 0, 1) := by decide +kernel
theorem dX9_sack_22 : decode cX9_sack 22 = .ok (.getfield 44, 3) := by decide +kernel
theorem dX9_sack_25 : decode cX9_sack 25 = .ok (.iload_n 1, 1) := by decide +kernel
theorem dX9_sack_26 : decode cX9_sack 26 = .ok (.iload_n 2, 1) := by decide +kernel
theorem dX9_sack_27 : decode cX9_sack 27 = .ok (.ifCond .eq 7, 3) := by decide +kernel
theorem dX9_sack_30 : decode cX9_sack 30 = .ok (.iconst 1, 1) := by decide +kernel
theorem dX9_sack_31 : decode cX9_sack 31 = .ok (.goto 4, 3) := by decide +kernel
theorem dX9_sack_34 : decode cX9_sack 34 = .ok (.iconst 0, 1) := by decide +kernel
theorem dX9_sack_35 : decode cX9_sack 35 = .ok (.iastore, 1) := by decide +kernel
theorem dX9_sack_36 : decode cX9_sack 36 = .ok (.iload_n 3, 1) := by decide +kernel
theorem dX9_sack_37 : decode cX9_sack 37 = .ok (.ireturn, 1) := by decide +kernel
theorem dX9_isAsked_0 : decode cX9_isAsked 0 = .ok (.iload_n 1, 1) := by decide +kernel
theorem dX9_isAsked_1 : decode cX9_isAsked 1 = .ok (.ifCond .ne 14, 3) := by decide +kernel
theorem dX9_isAsked_4 : decode cX9_isAsked 4 = .ok (.aload_n 0, 1) := by decide +kernel
theorem dX9_isAsked_5 : decode cX9_isAsked 5 = .ok (.iload_n 2, 1) := by decide +kernel
theorem dX9_isAsked_6 : decode cX9_isAsked 6 = .ok (.iconst 1, 1) := by decide +kernel
theorem dX9_isAsked_7 : decode cX9_isAsked 7 = .ok (.bipush 9, 2) := by decide +kernel
theorem dX9_isAsked_9 : decode cX9_isAsked 9 = .ok (.invokevirtual 125, 3) := by decide +kernel
theorem dX9_isAsked_12 : decode cX9_isAsked 12 = .ok (.goto 25, 3) := by decide +kernel
theorem dX9_isAsked_15 : decode cX9_isAsked 15 = .ok (.iload_n 1, 1) := by decide +kernel
theorem dX9_isAsked_16 : decode cX9_isAsked 16 = .ok (.iconst 1, 1) := by decide +kernel
theorem dX9_isAsked_17 : decode cX9_isAsked 17 = .ok (.if_icmp .ne 13, 3) := by decide +kernel
theorem dX9_isAsked_20 : decode cX9_isAsked 20 = .ok (.aload_n 0, 1) := by decide +kernel
theorem dX9_isAsked_21 : decode cX9_isAsked 21 = .ok (.iload_n 2, 1) := by decide +kernel
theorem dX9_isAsked_22 : decode cX9_isAsked 22 = .ok (.iconst 1, 1) := by decide +kernel
theorem dX9_isAsked_23 : decode cX9_isAsked 23 = .ok (.iconst 5, 1) := by decide +kernel
theorem dX9_isAsked_24 : decode cX9_isAsked 24 = .ok (.invokevirtual 125, 3) := by decide +kernel
theorem dX9_isAsked_27 : decode cX9_isAsked 27 = .ok (.goto 10, 3) := by decide +kernel
theorem dX9_isAsked_30 : decode cX9_isAsked 30 = .ok (.aload_n 0, 1) := by decide +kernel
theorem dX9_isAsked_31 : decode cX9_isAsked 31 = .ok (.iload_n 2, 1) := by decide +kernel
theorem dX9_isAsked_32 : decode cX9_isAsked 32 = .ok (.iconst 0, 1) := by decide +kernel
theorem dX9_isAsked_33 : decode cX9_isAsked 33 = .ok (.iconst 1, 1) := by decide +kernel
theorem dX9_isAsked_34 : decode cX9_isAsked 34 = .ok (.invokevirtual 125, 3) := by decide +kernel
theorem dX9_isAsked_37 : decode cX9_isAsked 37 = .ok (.ireturn, 1) := by decide +kernel
theorem dX9_asks_0 : decode cX9_asks 0 = .ok (.iload_n 1, 1) := by decide +kernel
theorem dX9_asks_1 : decode cX9_asks 1 = .ok (.ifCond .ne 11, 3) := by decide +kernel
theorem dX9_asks_4 : decode cX9_asks 4 = .ok (.aload_n 0, 1) := by decide +kernel
theorem dX9_asks_5 : decode cX9_asks 5 = .ok (.iload_n 2, 1) := by decide +kernel
theorem dX9_asks_6 : decode cX9_asks 6 = .ok (.putfield 7, 3) := by decide +kernel
theorem dX9_asks_9 : decode cX9_asks 9 = .ok (.goto 21, 3) := by decide +kernel
theorem dX9_asks_12 : decode cX9_asks 12 = .ok (.iload_n 1, 1) := by decide +kernel
theorem dX9_asks_13 : decode cX9_asks 13 = .ok (.iconst 1, 1) := by decide +kernel
theorem dX9_asks_14 : decode cX9_asks 14 = .ok (.if_icmp .ne 11, 3) := by decide +kernel
theorem dX9_asks_17 : decode cX9_asks 17 = .ok (.aload_n 0, 1) := by decide +kernel
theorem dX9_asks_18 : decode cX9_asks 18 = .ok (.iload_n 2, 1) := by decide +kernel
theorem dX9_asks_19 : decode cX9_asks 19 = .ok (.putfield 13, 3) := by decide +kernel
theorem dX9_asks_22 : decode cX9_asks 22 = .ok (.goto 8, 3) := by decide +kernel
theorem dX9_asks_25 : decode cX9_asks 25 = .ok (.aload_n 0, 1) := by decide +kernel
theorem dX9_asks_26 : decode cX9_asks 26 = .ok (.iload_n 2, 1) := by decide +kernel
theorem dX9_asks_27 : decode cX9_asks 27 = .ok (.putfield 139, 3) := by decide +kernel
theorem dX9_asks_30 : decode cX9_asks 30 = .ok (.return_, 1) := by decide +kernel
theorem dX9_ask_0 : decode cX9_ask 0 = .ok (.iload_n 1, 1) := by decide +kernel
theorem dX9_ask_1 : decode cX9_ask 1 = .ok (.ifCond .lt 17, 3) := by decide +kernel
theorem dX9_ask_4 : decode cX9_ask 4 = .ok (.iload_n 1, 1) := by decide +kernel
theorem dX9_ask_5 : decode cX9_ask 5 = .ok (.iconst 2, 1) := by decide +kernel
theorem dX9_ask_6 : decode cX9_ask 6 = .ok (.if_icmp .gt 12, 3) := by decide +kernel
theorem dX9_ask_9 : decode cX9_ask 9 = .ok (.aload_n 0, 1) := by decide +kernel
theorem dX9_ask_10 : decode cX9_ask 10 = .ok (.iload_n 1, 1) := by decide +kernel
theorem dX9_ask_11 : decode cX9_ask 11 = .ok (.iload_n 2, 1) := by decide +kernel
theorem dX9_ask_12 : decode cX9_ask 12 = .ok (.invokevirtual 142, 3) := by decide +kernel
theorem dX9_ask_15 : decode cX9_ask 15 = .ok (.ifCond .ne 10, 3) := by decide +kernel
theorem dX9_ask_18 : decode cX9_ask 18 = .ok (.aload_n 0, 1) := by decide +kernel
theorem dX9_ask_19 : decode cX9_ask 19 = .ok (.bipush (-6), 2) := by decide +kernel
theorem dX9_ask_21 : decode cX9_ask 21 = .ok (.invokevirtual 115, 3) := by decide +kernel
theorem dX9_ask_24 : decode cX9_ask 24 = .ok (.ireturn, 1) := by decide +kernel
theorem dX9_ask_25 : decode cX9_ask 25 = .ok (.iload_n 1, 1) := by decide +kernel
theorem dX9_ask_26 : decode cX9_ask 26 = .ok (.ifCond .ne 10, 3) := by decide +kernel
theorem dX9_ask_29 : decode cX9_ask 29 = .ok (.aload_n 0, 1) := by decide +kernel
theorem dX9_ask_30 : decode cX9_ask 30 = .ok (.getfield 7, 3) := by decide +kernel
theorem dX9_ask_33 : decode cX9_ask 33 = .ok (.goto 19, 3) := by decide +kernel
theorem dX9_ask_36 : decode cX9_ask 36 = .ok (.iload_n 1, 1) := by decide +kernel
theorem dX9_ask_37 : decode cX9_ask 37 = .ok (.iconst 1, 1) := by decide +kernel
theorem dX9_ask_38 : decode cX9_ask 38 = .ok (.if_icmp .ne 10, 3) := by decide +kernel
theorem dX9_ask_41 : decode cX9_ask 41 = .ok (.aload_n 0, 1) := by decide +kernel
theorem dX9_ask_42 : decode cX9_ask 42 = .ok (.getfield 13, 3) := by decide +kernel
theorem dX9_ask_45 : decode cX9_ask 45 = .ok (.goto 7, 3) := by decide +kernel
theorem dX9_ask_48 : decode cX9_ask 48 = .ok (.aload_n 0, 1) := by decide +kernel
theorem dX9_ask_49 : decode cX9_ask 49 = .ok (.getfield 139, 3) := by decide +kernel
theorem dX9_ask_52 : decode cX9_ask 52 = .ok (.istore_n 3, 1) := by decide +kernel
theorem dX9_ask_53 : decode cX9_ask 53 = .ok (.aload_n 0, 1) := by decide +kernel
theorem dX9_ask_54 : decode cX9_ask 54 = .ok (.iload_n 1, 1) := by decide +kernel
theorem dX9_ask_55 : decode cX9_ask 55 = .ok (.iload_n 2, 1) := by decide +kernel
theorem dX9_ask_56 : decode cX9_ask 56 = .ok (.invokevirtual 146, 3) := by decide +kernel
theorem dX9_ask_59 : decode cX9_ask 59 = .ok (.iload_n 3, 1) := by decide +kernel
theorem dX9_ask_60 : decode cX9_ask 60 = .ok (.ireturn, 1) := by decide +kernel
theorem dX9_personOf_0 : decode cX9_personOf 0 = .ok (.aload_n 0, 1) := by decide +kernel
theorem dX9_personOf_1 : decode cX9_personOf 1 = .ok (.iload_n 1, 1) := by decide +kernel
theorem dX9_personOf_2 : decode cX9_personOf 2 = .ok (.invokevirtual 119, 3) := by decide +kernel
theorem dX9_personOf_5 : decode cX9_personOf 5 = .ok (.ifCond .ne 10, 3) := by decide +kernel
theorem dX9_personOf_8 : decode cX9_personOf 8 = .ok (.aload_n 0, 1) := by decide +kernel
theorem dX9_personOf_9 : decode cX9_personOf 9 = .ok (.bipush (-5), 2) := by decide +kernel
theorem dX9_personOf_11 : decode cX9_personOf 11 = .ok (.invokevirtual 115, 3) := by decide +kernel
theorem dX9_personOf_14 : decode cX9_personOf 14 = .ok (.ireturn, 1) := by decide +kernel
theorem dX9_personOf_15 : decode cX9_personOf 15 = .ok (.iload_n 2, 1) := by decide +kernel
theorem dX9_personOf_16 : decode cX9_personOf 16 = .ok (.tableswitch 103 0 7 #[48, 55, 62, 69, 76, 83, 90, 97], 48) := by decide +kernel
theorem dX9_personOf_64 : decode cX9_personOf 64 = .ok (.aload_n 0, 1) := by decide +kernel
theorem dX9_personOf_65 : decode cX9_personOf 65 = .ok (.getfield 26, 3) := by decide +kernel
theorem dX9_personOf_68 : decode cX9_personOf 68 = .ok (.iload_n 1, 1) := by decide +kernel
theorem dX9_personOf_69 : decode cX9_personOf 69 = .ok (.iaload, 1) := by decide +kernel
theorem dX9_personOf_70 : decode cX9_personOf 70 = .ok (.ireturn, 1) := by decide +kernel
theorem dX9_personOf_71 : decode cX9_personOf 71 = .ok (.aload_n 0, 1) := by decide +kernel
theorem dX9_personOf_72 : decode cX9_personOf 72 = .ok (.getfield 29, 3) := by decide +kernel
theorem dX9_personOf_75 : decode cX9_personOf 75 = .ok (.iload_n 1, 1) := by decide +kernel
theorem dX9_personOf_76 : decode cX9_personOf 76 = .ok (.iaload, 1) := by decide +kernel
theorem dX9_personOf_77 : decode cX9_personOf 77 = .ok (.ireturn, 1) := by decide +kernel
theorem dX9_personOf_78 : decode cX9_personOf 78 = .ok (.aload_n 0, 1) := by decide +kernel
theorem dX9_personOf_79 : decode cX9_personOf 79 = .ok (.getfield 32, 3) := by decide +kernel
theorem dX9_personOf_82 : decode cX9_personOf 82 = .ok (.iload_n 1, 1) := by decide +kernel
theorem dX9_personOf_83 : decode cX9_personOf 83 = .ok (.iaload, 1) := by decide +kernel
theorem dX9_personOf_84 : decode cX9_personOf 84 = .ok (.ireturn, 1) := by decide +kernel
theorem dX9_personOf_85 : decode cX9_personOf 85 = .ok (.aload_n 0, 1) := by decide +kernel
theorem dX9_personOf_86 : decode cX9_personOf 86 = .ok (.getfield 35, 3) := by decide +kernel
theorem dX9_personOf_89 : decode cX9_personOf 89 = .ok (.iload_n 1, 1) := by decide +kernel
theorem dX9_personOf_90 : decode cX9_personOf 90 = .ok (.iaload, 1) := by decide +kernel
theorem dX9_personOf_91 : decode cX9_personOf 91 = .ok (.ireturn, 1) := by decide +kernel
theorem dX9_personOf_92 : decode cX9_personOf 92 = .ok (.aload_n 0, 1) := by decide +kernel
theorem dX9_personOf_93 : decode cX9_personOf 93 = .ok (.getfield 38, 3) := by decide +kernel
theorem dX9_personOf_96 : decode cX9_personOf 96 = .ok (.iload_n 1, 1) := by decide +kernel
theorem dX9_personOf_97 : decode cX9_personOf 97 = .ok (.iaload, 1) := by decide +kernel
theorem dX9_personOf_98 : decode cX9_personOf 98 = .ok (.ireturn, 1) := by decide +kernel
theorem dX9_personOf_99 : decode cX9_personOf 99 = .ok (.aload_n 0, 1) := by decide +kernel
theorem dX9_personOf_100 : decode cX9_personOf 100 = .ok (.getfield 41, 3) := by decide +kernel
theorem dX9_personOf_103 : decode cX9_personOf 103 = .ok (.iload_n 1, 1) := by decide +kernel
theorem dX9_personOf_104 : decode cX9_personOf 104 = .ok (.iaload, 1) := by decide +kernel
theorem dX9_personOf_105 : decode cX9_personOf 105 = .ok (.ireturn, 1) := by decide +kernel
theorem dX9_personOf_106 : decode cX9_personOf 106 = .ok (.aload_n 0, 1) := by decide +kernel
theorem dX9_personOf_107 : decode cX9_personOf 107 = .ok (.getfield 44, 3) := by decide +kernel
theorem dX9_personOf_110 : decode cX9_personOf 110 = .ok (.iload_n 1, 1) := by decide +kernel
theorem dX9_personOf_111 : decode cX9_personOf 111 = .ok (.iaload, 1) := by decide +kernel
theorem dX9_personOf_112 : decode cX9_personOf 112 = .ok (.ireturn, 1) := by decide +kernel
theorem dX9_personOf_113 : decode cX9_personOf 113 = .ok (.aload_n 0, 1) := by decide +kernel
theorem dX9_personOf_114 : decode cX9_personOf 114 = .ok (.iload_n 1, 1) := by decide +kernel
theorem dX9_personOf_115 : decode cX9_personOf 115 = .ok (.invokevirtual 122, 3) := by decide +kernel
theorem dX9_personOf_118 : decode cX9_personOf 118 = .ok (.ireturn, 1) := by decide +kernel
theorem dX9_personOf_119 : decode cX9_personOf 119 = .ok (.aload_n 0, 1) := by decide +kernel
theorem dX9_personOf_120 : decode cX9_personOf 120 = .ok (.bipush (-5), 2) := by decide +kernel
theorem dX9_personOf_122 : decode cX9_personOf 122 = .ok (.invokevirtual 115, 3) := by decide +kernel
theorem dX9_personOf_125 : decode cX9_personOf 125 = .ok (.ireturn, 1) := by decide +kernel
theorem dX9_squareOf_0 : decode cX9_squareOf 0 = .ok (.aload_n 0, 1) := by decide +kernel
theorem dX9_squareOf_1 : decode cX9_squareOf 1 = .ok (.iload_n 1, 1) := by decide +kernel
theorem dX9_squareOf_2 : decode cX9_squareOf 2 = .ok (.invokevirtual 129, 3) := by decide +kernel
theorem dX9_squareOf_5 : decode cX9_squareOf 5 = .ok (.ifCond .ne 10, 3) := by decide +kernel
theorem dX9_squareOf_8 : decode cX9_squareOf 8 = .ok (.aload_n 0, 1) := by decide +kernel
theorem dX9_squareOf_9 : decode cX9_squareOf 9 = .ok (.bipush (-5), 2) := by decide +kernel
theorem dX9_squareOf_11 : decode cX9_squareOf 11 = .ok (.invokevirtual 115, 3) := by decide +kernel
theorem dX9_squareOf_14 : decode cX9_squareOf 14 = .ok (.ireturn, 1) := by decide +kernel
theorem dX9_squareOf_15 : decode cX9_squareOf 15 = .ok (.iload_n 2, 1) := by decide +kernel
theorem dX9_squareOf_16 : decode cX9_squareOf 16 = .ok (.tableswitch 48 0 2 #[28, 35, 42], 28) := by decide +kernel
theorem dX9_squareOf_44 : decode cX9_squareOf 44 = .ok (.aload_n 0, 1) := by decide +kernel
theorem dX9_squareOf_45 : decode cX9_squareOf 45 = .ok (.getfield 47, 3) := by decide +kernel
theorem dX9_squareOf_48 : decode cX9_squareOf 48 = .ok (.iload_n 1, 1) := by decide +kernel
theorem dX9_squareOf_49 : decode cX9_squareOf 49 = .ok (.iaload, 1) := by decide +kernel
theorem dX9_squareOf_50 : decode cX9_squareOf 50 = .ok (.ireturn, 1) := by decide +kernel
theorem dX9_squareOf_51 : decode cX9_squareOf 51 = .ok (.aload_n 0, 1) := by decide +kernel
theorem dX9_squareOf_52 : decode cX9_squareOf 52 = .ok (.getfield 50, 3) := by decide +kernel
theorem dX9_squareOf_55 : decode cX9_squareOf 55 = .ok (.iload_n 1, 1) := by decide +kernel
theorem dX9_squareOf_56 : decode cX9_squareOf 56 = .ok (.iaload, 1) := by decide +kernel
theorem dX9_squareOf_57 : decode cX9_squareOf 57 = .ok (.ireturn, 1) := by decide +kernel
theorem dX9_squareOf_58 : decode cX9_squareOf 58 = .ok (.aload_n 0, 1) := by decide +kernel
theorem dX9_squareOf_59 : decode cX9_squareOf 59 = .ok (.iload_n 1, 1) := by decide +kernel
theorem dX9_squareOf_60 : decode cX9_squareOf 60 = .ok (.invokevirtual 136, 3) := by decide +kernel
theorem dX9_squareOf_63 : decode cX9_squareOf 63 = .ok (.ireturn, 1) := by decide +kernel
theorem dX9_squareOf_64 : decode cX9_squareOf 64 = .ok (.aload_n 0, 1) := by decide +kernel
theorem dX9_squareOf_65 : decode cX9_squareOf 65 = .ok (.bipush (-5), 2) := by decide +kernel
theorem dX9_squareOf_67 : decode cX9_squareOf 67 = .ok (.invokevirtual 115, 3) := by decide +kernel
theorem dX9_squareOf_70 : decode cX9_squareOf 70 = .ok (.ireturn, 1) := by decide +kernel
theorem dX9_wrong_0 : decode cX9_wrong 0 = .ok (.aload_n 0, 1) := by decide +kernel
theorem dX9_wrong_1 : decode cX9_wrong 1 = .ok (.iload_n 1, 1) := by decide +kernel
theorem dX9_wrong_2 : decode cX9_wrong 2 = .ok (.putfield 150, 3) := by decide +kernel
theorem dX9_wrong_5 : decode cX9_wrong 5 = .ok (.iconst 0, 1) := by decide +kernel
theorem dX9_wrong_6 : decode cX9_wrong 6 = .ok (.ireturn, 1) := by decide +kernel
theorem dX9_stands_0 : decode cX9_stands 0 = .ok (.iconst 0, 1) := by decide +kernel
theorem dX9_stands_1 : decode cX9_stands 1 = .ok (.istore_n 2, 1) := by decide +kernel
theorem dX9_stands_2 : decode cX9_stands 2 = .ok (.iconst 0, 1) := by decide +kernel
theorem dX9_stands_3 : decode cX9_stands 3 = .ok (.istore_n 3, 1) := by decide +kernel
theorem dX9_stands_4 : decode cX9_stands 4 = .ok (.iload_n 3, 1) := by decide +kernel
theorem dX9_stands_5 : decode cX9_stands 5 = .ok (.iload_n 1, 1) := by decide +kernel
theorem dX9_stands_6 : decode cX9_stands 6 = .ok (.if_icmp .ge 26, 3) := by decide +kernel
theorem dX9_stands_9 : decode cX9_stands 9 = .ok (.iload_n 3, 1) := by decide +kernel
theorem dX9_stands_10 : decode cX9_stands 10 = .ok (.aload_n 0, 1) := by decide +kernel
theorem dX9_stands_11 : decode cX9_stands 11 = .ok (.getfield 72, 3) := by decide +kernel
theorem dX9_stands_14 : decode cX9_stands 14 = .ok (.iload_n 2, 1) := by decide +kernel
theorem dX9_stands_15 : decode cX9_stands 15 = .ok (.iaload, 1) := by decide +kernel
theorem dX9_stands_16 : decode cX9_stands 16 = .ok (.ifCond .ne 7, 3) := by decide +kernel
theorem dX9_stands_19 : decode cX9_stands 19 = .ok (.iconst 1, 1) := by decide +kernel
theorem dX9_stands_20 : decode cX9_stands 20 = .ok (.goto 4, 3) := by decide +kernel
theorem dX9_stands_23 : decode cX9_stands 23 = .ok (.iconst 0, 1) := by decide +kernel
theorem dX9_stands_24 : decode cX9_stands 24 = .ok (.iadd, 1) := by decide +kernel
theorem dX9_stands_25 : decode cX9_stands 25 = .ok (.istore_n 3, 1) := by decide +kernel
theorem dX9_stands_26 : decode cX9_stands 26 = .ok (.iinc 2 1, 3) := by decide +kernel
theorem dX9_stands_29 : decode cX9_stands 29 = .ok (.goto (-25), 3) := by decide +kernel
theorem dX9_stands_32 : decode cX9_stands 32 = .ok (.aload_n 0, 1) := by decide +kernel
theorem dX9_stands_33 : decode cX9_stands 33 = .ok (.getfield 153, 3) := by decide +kernel
theorem dX9_stands_36 : decode cX9_stands 36 = .ok (.istore_n 3, 1) := by decide +kernel
theorem dX9_stands_37 : decode cX9_stands 37 = .ok (.aload_n 0, 1) := by decide +kernel
theorem dX9_stands_38 : decode cX9_stands 38 = .ok (.getfield 72, 3) := by decide +kernel
theorem dX9_stands_41 : decode cX9_stands 41 = .ok (.iload_n 2, 1) := by decide +kernel
theorem dX9_stands_42 : decode cX9_stands 42 = .ok (.iaload, 1) := by decide +kernel
theorem dX9_stands_43 : decode cX9_stands 43 = .ok (.bipush 32, 2) := by decide +kernel
theorem dX9_stands_45 : decode cX9_stands 45 = .ok (.if_icmp .le 41, 3) := by decide +kernel
theorem dX9_stands_48 : decode cX9_stands 48 = .ok (.iload_n 3, 1) := by decide +kernel
theorem dX9_stands_49 : decode cX9_stands 49 = .ok (.aload_n 0, 1) := by decide +kernel
theorem dX9_stands_50 : decode cX9_stands 50 = .ok (.getfield 156, 3) := by decide +kernel
theorem dX9_stands_53 : decode cX9_stands 53 = .ok (.if_icmp .ge 33, 3) := by decide +kernel
theorem dX9_stands_56 : decode cX9_stands 56 = .ok (.aload_n 0, 1) := by decide +kernel
theorem dX9_stands_57 : decode cX9_stands 57 = .ok (.getfield 65, 3) := by decide +kernel
theorem dX9_stands_60 : decode cX9_stands 60 = .ok (.aload_n 0, 1) := by decide +kernel
theorem dX9_stands_61 : decode cX9_stands 61 = .ok (.getfield 159, 3) := by decide +kernel
theorem dX9_stands_64 : decode cX9_stands 64 = .ok (.iload_n 3, 1) := by decide +kernel
theorem dX9_stands_65 : decode cX9_stands 65 = .ok (.iadd, 1) := by decide +kernel
theorem dX9_stands_66 : decode cX9_stands 66 = .ok (.laload, 1) := by decide +kernel
theorem dX9_stands_67 : decode cX9_stands 67 = .ok (.l2i, 1) := by decide +kernel
theorem dX9_stands_68 : decode cX9_stands 68 = .ok (.aload_n 0, 1) := by decide +kernel
theorem dX9_stands_69 : decode cX9_stands 69 = .ok (.getfield 72, 3) := by decide +kernel
theorem dX9_stands_72 : decode cX9_stands 72 = .ok (.iload_n 2, 1) := by decide +kernel
theorem dX9_stands_73 : decode cX9_stands 73 = .ok (.iaload, 1) := by decide +kernel
theorem dX9_stands_74 : decode cX9_stands 74 = .ok (.if_icmp .ne 12, 3) := by decide +kernel
theorem dX9_stands_77 : decode cX9_stands 77 = .ok (.iinc 3 1, 3) := by decide +kernel
theorem dX9_stands_80 : decode cX9_stands 80 = .ok (.iinc 2 1, 3) := by decide +kernel
theorem dX9_stands_83 : decode cX9_stands 83 = .ok (.goto (-46), 3) := by decide +kernel
theorem dX9_stands_86 : decode cX9_stands 86 = .ok (.aload_n 0, 1) := by decide +kernel
theorem dX9_stands_87 : decode cX9_stands 87 = .ok (.getfield 72, 3) := by decide +kernel
theorem dX9_stands_90 : decode cX9_stands 90 = .ok (.iload_n 2, 1) := by decide +kernel
theorem dX9_stands_91 : decode cX9_stands 91 = .ok (.iaload, 1) := by decide +kernel
theorem dX9_stands_92 : decode cX9_stands 92 = .ok (.bipush 32, 2) := by decide +kernel
theorem dX9_stands_94 : decode cX9_stands 94 = .ok (.if_icmp .gt 7, 3) := by decide +kernel
theorem dX9_stands_97 : decode cX9_stands 97 = .ok (.iconst 1, 1) := by decide +kernel
theorem dX9_stands_98 : decode cX9_stands 98 = .ok (.goto 4, 3) := by decide +kernel
theorem dX9_stands_101 : decode cX9_stands 101 = .ok (.iconst 0, 1) := by decide +kernel
theorem dX9_stands_102 : decode cX9_stands 102 = .ok (.ireturn, 1) := by decide +kernel
theorem dX9_word_0 : decode cX9_word 0 = .ok (.iconst 0, 1) := by decide +kernel
theorem dX9_word_1 : decode cX9_word 1 = .ok (.istore_n 1, 1) := by decide +kernel
theorem dX9_word_2 : decode cX9_word 2 = .ok (.aload_n 0, 1) := by decide +kernel
theorem dX9_word_3 : decode cX9_word 3 = .ok (.getfield 153, 3) := by decide +kernel
theorem dX9_word_6 : decode cX9_word 6 = .ok (.istore_n 2, 1) := by decide +kernel
theorem dX9_word_7 : decode cX9_word 7 = .ok (.iconst 0, 1) := by decide +kernel
theorem dX9_word_8 : decode cX9_word 8 = .ok (.istore_n 3, 1) := by decide +kernel
theorem dX9_word_9 : decode cX9_word 9 = .ok (.iload_n 3, 1) := by decide +kernel
theorem dX9_word_10 : decode cX9_word 10 = .ok (.bipush 7, 2) := by decide +kernel
theorem dX9_word_12 : decode cX9_word 12 = .ok (.if_icmp .ge 118, 3) := by decide +kernel
theorem dX9_word_15 : decode cX9_word 15 = .ok (.aload_n 0, 1) := by decide +kernel
theorem dX9_word_16 : decode cX9_word 16 = .ok (.getfield 153, 3) := by decide +kernel
theorem dX9_word_19 : decode cX9_word 19 = .ok (.istore 4, 2) := by decide +kernel
theorem dX9_word_21 : decode cX9_word 21 = .ok (.iload_n 1, 1) := by decide +kernel
theorem dX9_word_22 : decode cX9_word 22 = .ok (.istore 5, 2) := by decide +kernel
theorem dX9_word_24 : decode cX9_word 24 = .ok (.aload_n 0, 1) := by decide +kernel
theorem dX9_word_25 : decode cX9_word 25 = .ok (.getfield 72, 3) := by decide +kernel
theorem dX9_word_28 : decode cX9_word 28 = .ok (.iload 5, 2) := by decide +kernel
theorem dX9_word_30 : decode cX9_word 30 = .ok (.iaload, 1) := by decide +kernel
theorem dX9_word_31 : decode cX9_word 31 = .ok (.ifCond .eq 44, 3) := by decide +kernel
theorem dX9_word_34 : decode cX9_word 34 = .ok (.iload 4, 2) := by decide +kernel
theorem dX9_word_36 : decode cX9_word 36 = .ok (.aload_n 0, 1) := by decide +kernel
theorem dX9_word_37 : decode cX9_word 37 = .ok (.getfield 156, 3) := by decide +kernel
theorem dX9_word_40 : decode cX9_word 40 = .ok (.if_icmp .ge 35, 3) := by decide +kernel
theorem dX9_word_43 : decode cX9_word 43 = .ok (.aload_n 0, 1) := by decide +kernel
theorem dX9_word_44 : decode cX9_word 44 = .ok (.getfield 65, 3) := by decide +kernel
theorem dX9_word_47 : decode cX9_word 47 = .ok (.aload_n 0, 1) := by decide +kernel
theorem dX9_word_48 : decode cX9_word 48 = .ok (.getfield 159, 3) := by decide +kernel
theorem dX9_word_51 : decode cX9_word 51 = .ok (.iload 4, 2) := by decide +kernel
theorem dX9_word_53 : decode cX9_word 53 = .ok (.iadd, 1) := by decide +kernel
theorem dX9_word_54 : decode cX9_word 54 = .ok (.laload, 1) := by decide +kernel
theorem dX9_word_55 : decode cX9_word 55 = .ok (.l2i, 1) := by decide +kernel
theorem dX9_word_56 : decode cX9_word 56 = .ok (.aload_n 0, 1) := by decide +kernel
theorem dX9_word_57 : decode cX9_word 57 = .ok (.getfield 72, 3) := by decide +kernel
theorem dX9_word_60 : decode cX9_word 60 = .ok (.iload 5, 2) := by decide +kernel
theorem dX9_word_62 : decode cX9_word 62 = .ok (.iaload, 1) := by decide +kernel
theorem dX9_word_63 : decode cX9_word 63 = .ok (.if_icmp .ne 12, 3) := by decide +kernel
theorem dX9_word_66 : decode cX9_word 66 = .ok (.iinc 4 1, 3) := by decide +kernel
theorem dX9_word_69 : decode cX9_word 69 = .ok (.iinc 5 1, 3) := by decide +kernel
theorem dX9_word_72 : decode cX9_word 72 = .ok (.goto (-48), 3) := by decide +kernel
theorem dX9_word_75 : decode cX9_word 75 = .ok (.aload_n 0, 1) := by decide +kernel
theorem dX9_word_76 : decode cX9_word 76 = .ok (.getfield 72, 3) := by decide +kernel
theorem dX9_word_79 : decode cX9_word 79 = .ok (.iload 5, 2) := by decide +kernel
theorem dX9_word_81 : decode cX9_word 81 = .ok (.iaload, 1) := by decide +kernel
theorem dX9_word_82 : decode cX9_word 82 = .ok (.ifCond .ne 11, 3) := by decide +kernel
theorem dX9_word_85 : decode cX9_word 85 = .ok (.aload_n 0, 1) := by decide +kernel
theorem dX9_word_86 : decode cX9_word 86 = .ok (.iload 4, 2) := by decide +kernel
theorem dX9_word_88 : decode cX9_word 88 = .ok (.putfield 153, 3) := by decide +kernel
theorem dX9_word_91 : decode cX9_word 91 = .ok (.iload_n 3, 1) := by decide +kernel
theorem dX9_word_92 : decode cX9_word 92 = .ok (.ireturn, 1) := by decide +kernel
theorem dX9_word_93 : decode cX9_word 93 = .ok (.iload 4, 2) := by decide +kernel
theorem dX9_word_95 : decode cX9_word 95 = .ok (.iload_n 2, 1) := by decide +kernel
theorem dX9_word_96 : decode cX9_word 96 = .ok (.if_icmp .le 8, 3) := by decide +kernel
theorem dX9_word_99 : decode cX9_word 99 = .ok (.iload 4, 2) := by decide +kernel
theorem dX9_word_101 : decode cX9_word 101 = .ok (.goto 4, 3) := by decide +kernel
theorem dX9_word_104 : decode cX9_word 104 = .ok (.iload_n 2, 1) := by decide +kernel
theorem dX9_word_105 : decode cX9_word 105 = .ok (.istore_n 2, 1) := by decide +kernel
theorem dX9_word_106 : decode cX9_word 106 = .ok (.aload_n 0, 1) := by decide +kernel
theorem dX9_word_107 : decode cX9_word 107 = .ok (.getfield 72, 3) := by decide +kernel
theorem dX9_word_110 : decode cX9_word 110 = .ok (.iload_n 1, 1) := by decide +kernel
theorem dX9_word_111 : decode cX9_word 111 = .ok (.iaload, 1) := by decide +kernel
theorem dX9_word_112 : decode cX9_word 112 = .ok (.ifCond .eq 9, 3) := by decide +kernel
theorem dX9_word_115 : decode cX9_word 115 = .ok (.iinc 1 1, 3) := by decide +kernel
theorem dX9_word_118 : decode cX9_word 118 = .ok (.goto (-12), 3) := by decide +kernel
theorem dX9_word_121 : decode cX9_word 121 = .ok (.iinc 1 1, 3) := by decide +kernel
theorem dX9_word_124 : decode cX9_word 124 = .ok (.iinc 3 1, 3) := by decide +kernel
theorem dX9_word_127 : decode cX9_word 127 = .ok (.goto (-118), 3) := by decide +kernel
theorem dX9_word_130 : decode cX9_word 130 = .ok (.aload_n 0, 1) := by decide +kernel
theorem dX9_word_131 : decode cX9_word 131 = .ok (.iload_n 2, 1) := by decide +kernel
theorem dX9_word_132 : decode cX9_word 132 = .ok (.putfield 150, 3) := by decide +kernel
theorem dX9_word_135 : decode cX9_word 135 = .ok (.iconst (-1), 1) := by decide +kernel
theorem dX9_word_136 : decode cX9_word 136 = .ok (.ireturn, 1) := by decide +kernel
theorem dX9_isDigit_0 : decode cX9_isDigit 0 = .ok (.aload_n 0, 1) := by decide +kernel
theorem dX9_isDigit_1 : decode cX9_isDigit 1 = .ok (.getfield 153, 3) := by decide +kernel
theorem dX9_isDigit_4 : decode cX9_isDigit 4 = .ok (.aload_n 0, 1) := by decide +kernel
theorem dX9_isDigit_5 : decode cX9_isDigit 5 = .ok (.getfield 156, 3) := by decide +kernel
theorem dX9_isDigit_8 : decode cX9_isDigit 8 = .ok (.if_icmp .ge 47, 3) := by decide +kernel
theorem dX9_isDigit_11 : decode cX9_isDigit 11 = .ok (.aload_n 0, 1) := by decide +kernel
theorem dX9_isDigit_12 : decode cX9_isDigit 12 = .ok (.getfield 65, 3) := by decide +kernel
theorem dX9_isDigit_15 : decode cX9_isDigit 15 = .ok (.aload_n 0, 1) := by decide +kernel
theorem dX9_isDigit_16 : decode cX9_isDigit 16 = .ok (.getfield 159, 3) := by decide +kernel
theorem dX9_isDigit_19 : decode cX9_isDigit 19 = .ok (.aload_n 0, 1) := by decide +kernel
theorem dX9_isDigit_20 : decode cX9_isDigit 20 = .ok (.getfield 153, 3) := by decide +kernel
theorem dX9_isDigit_23 : decode cX9_isDigit 23 = .ok (.iadd, 1) := by decide +kernel
theorem dX9_isDigit_24 : decode cX9_isDigit 24 = .ok (.laload, 1) := by decide +kernel
theorem dX9_isDigit_25 : decode cX9_isDigit 25 = .ok (.l2i, 1) := by decide +kernel
theorem dX9_isDigit_26 : decode cX9_isDigit 26 = .ok (.bipush 48, 2) := by decide +kernel
theorem dX9_isDigit_28 : decode cX9_isDigit 28 = .ok (.if_icmp .lt 27, 3) := by decide +kernel
theorem dX9_isDigit_31 : decode cX9_isDigit 31 = .ok (.aload_n 0, 1) := by decide +kernel
theorem dX9_isDigit_32 : decode cX9_isDigit 32 = .ok (.getfield 65, 3) := by decide +kernel
theorem dX9_isDigit_35 : decode cX9_isDigit 35 = .ok (.aload_n 0, 1) := by decide +kernel
theorem dX9_isDigit_36 : decode cX9_isDigit 36 = .ok (.getfield 159, 3) := by decide +kernel
theorem dX9_isDigit_39 : decode cX9_isDigit 39 = .ok (.aload_n 0, 1) := by decide +kernel
theorem dX9_isDigit_40 : decode cX9_isDigit 40 = .ok (.getfield 153, 3) := by decide +kernel
theorem dX9_isDigit_43 : decode cX9_isDigit 43 = .ok (.iadd, 1) := by decide +kernel
theorem dX9_isDigit_44 : decode cX9_isDigit 44 = .ok (.laload, 1) := by decide +kernel
theorem dX9_isDigit_45 : decode cX9_isDigit 45 = .ok (.l2i, 1) := by decide +kernel
theorem dX9_isDigit_46 : decode cX9_isDigit 46 = .ok (.bipush 57, 2) := by decide +kernel
theorem dX9_isDigit_48 : decode cX9_isDigit 48 = .ok (.if_icmp .gt 7, 3) := by decide +kernel
theorem dX9_isDigit_51 : decode cX9_isDigit 51 = .ok (.iconst 1, 1) := by decide +kernel
theorem dX9_isDigit_52 : decode cX9_isDigit 52 = .ok (.goto 4, 3) := by decide +kernel
theorem dX9_isDigit_55 : decode cX9_isDigit 55 = .ok (.iconst 0, 1) := by decide +kernel
theorem dX9_isDigit_56 : decode cX9_isDigit 56 = .ok (.ireturn, 1) := by decide +kernel
theorem dX9_reads_0 : decode cX9_reads 0 = .ok (.aload_n 0, 1) := by decide +kernel
theorem dX9_reads_1 : decode cX9_reads 1 = .ok (.iconst 0, 1) := by decide +kernel
theorem dX9_reads_2 : decode cX9_reads 2 = .ok (.putfield 162, 3) := by decide +kernel
theorem dX9_reads_5 : decode cX9_reads 5 = .ok (.aload_n 0, 1) := by decide +kernel
theorem dX9_reads_6 : decode cX9_reads 6 = .ok (.invokevirtual 165, 3) := by decide +kernel
theorem dX9_reads_9 : decode cX9_reads 9 = .ok (.ifCond .ne 12, 3) := by decide +kernel
theorem dX9_reads_12 : decode cX9_reads 12 = .ok (.aload_n 0, 1) := by decide +kernel
theorem dX9_reads_13 : decode cX9_reads 13 = .ok (.aload_n 0, 1) := by decide +kernel
theorem dX9_reads_14 : decode cX9_reads 14 = .ok (.getfield 153, 3) := by decide +kernel
theorem dX9_reads_17 : decode cX9_reads 17 = .ok (.invokevirtual 169, 3) := by decide +kernel
theorem dX9_reads_20 : decode cX9_reads 20 = .ok (.ireturn, 1) := by decide +kernel
theorem dX9_reads_21 : decode cX9_reads 21 = .ok (.iconst 0, 1) := by decide +kernel
theorem dX9_reads_22 : decode cX9_reads 22 = .ok (.istore_n 1, 1) := by decide +kernel
theorem dX9_reads_23 : decode cX9_reads 23 = .ok (.iload_n 1, 1) := by decide +kernel
theorem dX9_reads_24 : decode cX9_reads 24 = .ok (.iconst 2, 1) := by decide +kernel
theorem dX9_reads_25 : decode cX9_reads 25 = .ok (.if_icmp .ge 56, 3) := by decide +kernel
theorem dX9_reads_28 : decode cX9_reads 28 = .ok (.aload_n 0, 1) := by decide +kernel
theorem dX9_reads_29 : decode cX9_reads 29 = .ok (.invokevirtual 165, 3) := by decide +kernel
theorem dX9_reads_32 : decode cX9_reads 32 = .ok (.ifCond .eq 49, 3) := by decide +kernel
theorem dX9_reads_35 : decode cX9_reads 35 = .ok (.aload_n 0, 1) := by decide +kernel
theorem dX9_reads_36 : decode cX9_reads 36 = .ok (.bipush 10, 2) := by decide +kernel
theorem dX9_reads_38 : decode cX9_reads 38 = .ok (.aload_n 0, 1) := by decide +kernel
theorem dX9_reads_39 : decode cX9_reads 39 = .ok (.getfield 162, 3) := by decide +kernel
theorem dX9_reads_42 : decode cX9_reads 42 = .ok (.imul, 1) := by decide +kernel
theorem dX9_reads_43 : decode cX9_reads 43 = .ok (.aload_n 0, 1) := by decide +kernel
theorem dX9_reads_44 : decode cX9_reads 44 = .ok (.getfield 65, 3) := by decide +kernel
theorem dX9_reads_47 : decode cX9_reads 47 = .ok (.aload_n 0, 1) := by decide +kernel
theorem dX9_reads_48 : decode cX9_reads 48 = .ok (.getfield 159, 3) := by decide +kernel
theorem dX9_reads_51 : decode cX9_reads 51 = .ok (.aload_n 0, 1) := by decide +kernel
theorem dX9_reads_52 : decode cX9_reads 52 = .ok (.getfield 153, 3) := by decide +kernel
theorem dX9_reads_55 : decode cX9_reads 55 = .ok (.iadd, 1) := by decide +kernel
theorem dX9_reads_56 : decode cX9_reads 56 = .ok (.laload, 1) := by decide +kernel
theorem dX9_reads_57 : decode cX9_reads 57 = .ok (.l2i, 1) := by decide +kernel
theorem dX9_reads_58 : decode cX9_reads 58 = .ok (.iadd, 1) := by decide +kernel
theorem dX9_reads_59 : decode cX9_reads 59 = .ok (.bipush 48, 2) := by decide +kernel
theorem dX9_reads_61 : decode cX9_reads 61 = .ok (.isub, 1) := by decide +kernel
theorem dX9_reads_62 : decode cX9_reads 62 = .ok (.putfield 162, 3) := by decide +kernel
theorem dX9_reads_65 : decode cX9_reads 65 = .ok (.aload_n 0, 1) := by decide +kernel
theorem dX9_reads_66 : decode cX9_reads 66 = .ok (.dup, 1) := by decide +kernel
theorem dX9_reads_67 : decode cX9_reads 67 = .ok (.getfield 153, 3) := by decide +kernel
theorem dX9_reads_70 : decode cX9_reads 70 = .ok (.iconst 1, 1) := by decide +kernel
theorem dX9_reads_71 : decode cX9_reads 71 = .ok (.iadd, 1) := by decide +kernel
theorem dX9_reads_72 : decode cX9_reads 72 = .ok (.putfield 153, 3) := by decide +kernel
theorem dX9_reads_75 : decode cX9_reads 75 = .ok (.iinc 1 1, 3) := by decide +kernel
theorem dX9_reads_78 : decode cX9_reads 78 = .ok (.goto (-55), 3) := by decide +kernel
theorem dX9_reads_81 : decode cX9_reads 81 = .ok (.iconst 1, 1) := by decide +kernel
theorem dX9_reads_82 : decode cX9_reads 82 = .ok (.ireturn, 1) := by decide +kernel
theorem dX9_isSo_0 : decode cX9_isSo 0 = .ok (.iload_n 1, 1) := by decide +kernel
theorem dX9_isSo_1 : decode cX9_isSo 1 = .ok (.iconst 3, 1) := by decide +kernel
theorem dX9_isSo_2 : decode cX9_isSo 2 = .ok (.if_icmp .ne 39, 3) := by decide +kernel
theorem dX9_isSo_5 : decode cX9_isSo 5 = .ok (.aload_n 0, 1) := by decide +kernel
theorem dX9_isSo_6 : decode cX9_isSo 6 = .ok (.getfield 162, 3) := by decide +kernel
theorem dX9_isSo_9 : decode cX9_isSo 9 = .ok (.aload_n 0, 1) := by decide +kernel
theorem dX9_isSo_10 : decode cX9_isSo 10 = .ok (.getfield 78, 3) := by decide +kernel
theorem dX9_isSo_13 : decode cX9_isSo 13 = .ok (.iload_n 2, 1) := by decide +kernel
theorem dX9_isSo_14 : decode cX9_isSo 14 = .ok (.iaload, 1) := by decide +kernel
theorem dX9_isSo_15 : decode cX9_isSo 15 = .ok (.if_icmp .gt 24, 3) := by decide +kernel
theorem dX9_isSo_18 : decode cX9_isSo 18 = .ok (.iload_n 2, 1) := by decide +kernel
theorem dX9_isSo_19 : decode cX9_isSo 19 = .ok (.iconst 5, 1) := by decide +kernel
theorem dX9_isSo_20 : decode cX9_isSo 20 = .ok (.if_icmp .ne 15, 3) := by decide +kernel
theorem dX9_isSo_23 : decode cX9_isSo 23 = .ok (.aload_n 0, 1) := by decide +kernel
theorem dX9_isSo_24 : decode cX9_isSo 24 = .ok (.getfield 47, 3) := by decide +kernel
theorem dX9_isSo_27 : decode cX9_isSo 27 = .ok (.aload_n 0, 1) := by decide +kernel
theorem dX9_isSo_28 : decode cX9_isSo 28 = .ok (.getfield 162, 3) := by decide +kernel
theorem dX9_isSo_31 : decode cX9_isSo 31 = .ok (.iaload, 1) := by decide +kernel
theorem dX9_isSo_32 : decode cX9_isSo 32 = .ok (.ifCond .ne 7, 3) := by decide +kernel
theorem dX9_isSo_35 : decode cX9_isSo 35 = .ok (.iconst 1, 1) := by decide +kernel
theorem dX9_isSo_36 : decode cX9_isSo 36 = .ok (.goto 4, 3) := by decide +kernel
theorem dX9_isSo_39 : decode cX9_isSo 39 = .ok (.iconst 0, 1) := by decide +kernel
theorem dX9_isSo_40 : decode cX9_isSo 40 = .ok (.ireturn, 1) := by decide +kernel
theorem dX9_isSo_41 : decode cX9_isSo 41 = .ok (.iload_n 1, 1) := by decide +kernel
theorem dX9_isSo_42 : decode cX9_isSo 42 = .ok (.iconst 4, 1) := by decide +kernel
theorem dX9_isSo_43 : decode cX9_isSo 43 = .ok (.if_icmp .ne 20, 3) := by decide +kernel
theorem dX9_isSo_46 : decode cX9_isSo 46 = .ok (.aload_n 0, 1) := by decide +kernel
theorem dX9_isSo_47 : decode cX9_isSo 47 = .ok (.getfield 162, 3) := by decide +kernel
theorem dX9_isSo_50 : decode cX9_isSo 50 = .ok (.aload_n 0, 1) := by decide +kernel
theorem dX9_isSo_51 : decode cX9_isSo 51 = .ok (.getfield 108, 3) := by decide +kernel
theorem dX9_isSo_54 : decode cX9_isSo 54 = .ok (.if_icmp .ge 7, 3) := by decide +kernel
theorem dX9_isSo_57 : decode cX9_isSo 57 = .ok (.iconst 1, 1) := by decide +kernel
theorem dX9_isSo_58 : decode cX9_isSo 58 = .ok (.goto 4, 3) := by decide +kernel
theorem dX9_isSo_61 : decode cX9_isSo 61 = .ok (.iconst 0, 1) := by decide +kernel
theorem dX9_isSo_62 : decode cX9_isSo 62 = .ok (.ireturn, 1) := by decide +kernel
theorem dX9_isSo_63 : decode cX9_isSo 63 = .ok (.iload_n 1, 1) := by decide +kernel
theorem dX9_isSo_64 : decode cX9_isSo 64 = .ok (.iconst 4, 1) := by decide +kernel
theorem dX9_isSo_65 : decode cX9_isSo 65 = .ok (.if_icmp .le 17, 3) := by decide +kernel
theorem dX9_isSo_68 : decode cX9_isSo 68 = .ok (.aload_n 0, 1) := by decide +kernel
theorem dX9_isSo_69 : decode cX9_isSo 69 = .ok (.iload_n 1, 1) := by decide +kernel
theorem dX9_isSo_70 : decode cX9_isSo 70 = .ok (.iconst 5, 1) := by decide +kernel
theorem dX9_isSo_71 : decode cX9_isSo 71 = .ok (.isub, 1) := by decide +kernel
theorem dX9_isSo_72 : decode cX9_isSo 72 = .ok (.aload_n 0, 1) := by decide +kernel
theorem dX9_isSo_73 : decode cX9_isSo 73 = .ok (.getfield 162, 3) := by decide +kernel
theorem dX9_isSo_76 : decode cX9_isSo 76 = .ok (.invokevirtual 142, 3) := by decide +kernel
theorem dX9_isSo_79 : decode cX9_isSo 79 = .ok (.goto 34, 3) := by decide +kernel
theorem dX9_isSo_82 : decode cX9_isSo 82 = .ok (.aload_n 0, 1) := by decide +kernel
theorem dX9_isSo_83 : decode cX9_isSo 83 = .ok (.aload_n 0, 1) := by decide +kernel
theorem dX9_isSo_84 : decode cX9_isSo 84 = .ok (.getfield 162, 3) := by decide +kernel
theorem dX9_isSo_87 : decode cX9_isSo 87 = .ok (.invokevirtual 129, 3) := by decide +kernel
theorem dX9_isSo_90 : decode cX9_isSo 90 = .ok (.ifCond .eq 22, 3) := by decide +kernel
theorem dX9_isSo_93 : decode cX9_isSo 93 = .ok (.iload_n 1, 1) := by decide +kernel
theorem dX9_isSo_94 : decode cX9_isSo 94 = .ok (.ifCond .ne 14, 3) := by decide +kernel
theorem dX9_isSo_97 : decode cX9_isSo 97 = .ok (.aload_n 0, 1) := by decide +kernel
theorem dX9_isSo_98 : decode cX9_isSo 98 = .ok (.aload_n 0, 1) := by decide +kernel
theorem dX9_isSo_99 : decode cX9_isSo 99 = .ok (.getfield 162, 3) := by decide +kernel
theorem dX9_isSo_102 : decode cX9_isSo 102 = .ok (.invokevirtual 136, 3) := by decide +kernel
theorem dX9_isSo_105 : decode cX9_isSo 105 = .ok (.ifCond .ne 7, 3) := by decide +kernel
theorem dX9_isSo_108 : decode cX9_isSo 108 = .ok (.iconst 1, 1) := by decide +kernel
theorem dX9_isSo_109 : decode cX9_isSo 109 = .ok (.goto 4, 3) := by decide +kernel
theorem dX9_isSo_112 : decode cX9_isSo 112 = .ok (.iconst 0, 1) := by decide +kernel
theorem dX9_isSo_113 : decode cX9_isSo 113 = .ok (.ireturn, 1) := by decide +kernel
theorem dX9_item_0 : decode cX9_item 0 = .ok (.aload_n 0, 1) := by decide +kernel
theorem dX9_item_1 : decode cX9_item 1 = .ok (.iconst 3, 1) := by decide +kernel
theorem dX9_item_2 : decode cX9_item 2 = .ok (.invokevirtual 172, 3) := by decide +kernel
theorem dX9_item_5 : decode cX9_item 5 = .ok (.ifCond .eq 21, 3) := by decide +kernel
theorem dX9_item_8 : decode cX9_item 8 = .ok (.aload_n 0, 1) := by decide +kernel
theorem dX9_item_9 : decode cX9_item 9 = .ok (.getfield 108, 3) := by decide +kernel
theorem dX9_item_12 : decode cX9_item 12 = .ok (.bipush 7, 2) := by decide +kernel
theorem dX9_item_14 : decode cX9_item 14 = .ok (.if_icmp .ne 12, 3) := by decide +kernel
theorem dX9_item_17 : decode cX9_item 17 = .ok (.aload_n 0, 1) := by decide +kernel
theorem dX9_item_18 : decode cX9_item 18 = .ok (.aload_n 0, 1) := by decide +kernel
theorem dX9_item_19 : decode cX9_item 19 = .ok (.getfield 153, 3) := by decide +kernel
theorem dX9_item_22 : decode cX9_item 22 = .ok (.invokevirtual 169, 3) := by decide +kernel
theorem dX9_item_25 : decode cX9_item 25 = .ok (.ireturn, 1) := by decide +kernel
theorem dX9_item_26 : decode cX9_item 26 = .ok (.aload_n 0, 1) := by decide +kernel
theorem dX9_item_27 : decode cX9_item 27 = .ok (.invokevirtual 175, 3) := by decide +kernel
theorem dX9_item_30 : decode cX9_item 30 = .ok (.istore_n 1, 1) := by decide +kernel
theorem dX9_item_31 : decode cX9_item 31 = .ok (.iload_n 1, 1) := by decide +kernel
theorem dX9_item_32 : decode cX9_item 32 = .ok (.iconst (-1), 1) := by decide +kernel
theorem dX9_item_33 : decode cX9_item 33 = .ok (.if_icmp .ne 5, 3) := by decide +kernel
theorem dX9_item_36 : decode cX9_item 36 = .ok (.iconst 0, 1) := by decide +kernel
theorem dX9_item_37 : decode cX9_item 37 = .ok (.ireturn, 1) := by decide +kernel
theorem dX9_item_38 : decode cX9_item 38 = .ok (.iconst 0, 1) := by decide +kernel
theorem dX9_item_39 : decode cX9_item 39 = .ok (.istore_n 2, 1) := by decide +kernel
theorem dX9_item_40 : decode cX9_item 40 = .ok (.iload_n 2, 1) := by decide +kernel
theorem dX9_item_41 : decode cX9_item 41 = .ok (.aload_n 0, 1) := by decide +kernel
theorem dX9_item_42 : decode cX9_item 42 = .ok (.getfield 75, 3) := by decide +kernel
theorem dX9_item_45 : decode cX9_item 45 = .ok (.iload_n 1, 1) := by decide +kernel
theorem dX9_item_46 : decode cX9_item 46 = .ok (.iaload, 1) := by decide +kernel
theorem dX9_item_47 : decode cX9_item 47 = .ok (.if_icmp .ge 102, 3) := by decide +kernel
theorem dX9_item_50 : decode cX9_item 50 = .ok (.iload_n 2, 1) := by decide +kernel
theorem dX9_item_51 : decode cX9_item 51 = .ok (.ifCond .le 53, 3) := by decide +kernel
theorem dX9_item_54 : decode cX9_item 54 = .ok (.aload_n 0, 1) := by decide +kernel
theorem dX9_item_55 : decode cX9_item 55 = .ok (.getfield 153, 3) := by decide +kernel
theorem dX9_item_58 : decode cX9_item 58 = .ok (.aload_n 0, 1) := by decide +kernel
theorem dX9_item_59 : decode cX9_item 59 = .ok (.getfield 156, 3) := by decide +kernel
theorem dX9_item_62 : decode cX9_item 62 = .ok (.if_icmp .ge 23, 3) := by decide +kernel
theorem dX9_item_65 : decode cX9_item 65 = .ok (.aload_n 0, 1) := by decide +kernel
theorem dX9_item_66 : decode cX9_item 66 = .ok (.getfield 65, 3) := by decide +kernel
theorem dX9_item_69 : decode cX9_item 69 = .ok (.aload_n 0, 1) := by decide +kernel
theorem dX9_item_70 : decode cX9_item 70 = .ok (.getfield 159, 3) := by decide +kernel
theorem dX9_item_73 : decode cX9_item 73 = .ok (.aload_n 0, 1) := by decide +kernel
theorem dX9_item_74 : decode cX9_item 74 = .ok (.getfield 153, 3) := by decide +kernel
theorem dX9_item_77 : decode cX9_item 77 = .ok (.iadd, 1) := by decide +kernel
theorem dX9_item_78 : decode cX9_item 78 = .ok (.laload, 1) := by decide +kernel
theorem dX9_item_79 : decode cX9_item 79 = .ok (.l2i, 1) := by decide +kernel
theorem dX9_item_80 : decode cX9_item 80 = .ok (.bipush 32, 2) := by decide +kernel
theorem dX9_item_82 : decode cX9_item 82 = .ok (.if_icmp .eq 12, 3) := by decide +kernel
theorem dX9_item_85 : decode cX9_item 85 = .ok (.aload_n 0, 1) := by decide +kernel
theorem dX9_item_86 : decode cX9_item 86 = .ok (.aload_n 0, 1) := by decide +kernel
theorem dX9_item_87 : decode cX9_item 87 = .ok (.getfield 153, 3) := by decide +kernel
theorem dX9_item_90 : decode cX9_item 90 = .ok (.invokevirtual 169, 3) := by decide +kernel
theorem dX9_item_93 : decode cX9_item 93 = .ok (.ireturn, 1) := by decide +kernel
theorem dX9_item_94 : decode cX9_item 94 = .ok (.aload_n 0, 1) := by decide +kernel
theorem dX9_item_95 : decode cX9_item 95 = .ok (.dup, 1) := by decide +kernel
theorem dX9_item_96 : decode cX9_item 96 = .ok (.getfield 153, 3) := by decide +kernel
theorem dX9_item_99 : decode cX9_item 99 = .ok (.iconst 1, 1) := by decide +kernel
theorem dX9_item_100 : decode cX9_item 100 = .ok (.iadd, 1) := by decide +kernel
theorem dX9_item_101 : decode cX9_item 101 = .ok (.putfield 153, 3) := by decide +kernel
theorem dX9_item_104 : decode cX9_item 104 = .ok (.aload_n 0, 1) := by decide +kernel
theorem dX9_item_105 : decode cX9_item 105 = .ok (.getfield 153, 3) := by decide +kernel
theorem dX9_item_108 : decode cX9_item 108 = .ok (.istore_n 3, 1) := by decide +kernel
theorem dX9_item_109 : decode cX9_item 109 = .ok (.aload_n 0, 1) := by decide +kernel
theorem dX9_item_110 : decode cX9_item 110 = .ok (.invokevirtual 179, 3) := by decide +kernel
theorem dX9_item_113 : decode cX9_item 113 = .ok (.ifCond .ne 5, 3) := by decide +kernel
theorem dX9_item_116 : decode cX9_item 116 = .ok (.iconst 0, 1) := by decide +kernel
theorem dX9_item_117 : decode cX9_item 117 = .ok (.ireturn, 1) := by decide +kernel
theorem dX9_item_118 : decode cX9_item 118 = .ok (.aload_n 0, 1) := by decide +kernel
theorem dX9_item_119 : decode cX9_item 119 = .ok (.iload_n 1, 1) := by decide +kernel
theorem dX9_item_120 : decode cX9_item 120 = .ok (.iload_n 2, 1) := by decide +kernel
theorem dX9_item_121 : decode cX9_item 121 = .ok (.invokevirtual 182, 3) := by decide +kernel
theorem dX9_item_124 : decode cX9_item 124 = .ok (.ifCond .ne 9, 3) := by decide +kernel
theorem dX9_item_127 : decode cX9_item 127 = .ok (.aload_n 0, 1) := by decide +kernel
theorem dX9_item_128 : decode cX9_item 128 = .ok (.iload_n 3, 1) := by decide +kernel
theorem dX9_item_129 : decode cX9_item 129 = .ok (.invokevirtual 169, 3) := by decide +kernel
theorem dX9_item_132 : decode cX9_item 132 = .ok (.ireturn, 1) := by decide +kernel
theorem dX9_item_133 : decode cX9_item 133 = .ok (.aload_n 0, 1) := by decide +kernel
theorem dX9_item_134 : decode cX9_item 134 = .ok (.getfield 81, 3) := by decide +kernel
theorem dX9_item_137 : decode cX9_item 137 = .ok (.iload_n 2, 1) := by decide +kernel
theorem dX9_item_138 : decode cX9_item 138 = .ok (.aload_n 0, 1) := by decide +kernel
theorem dX9_item_139 : decode cX9_item 139 = .ok (.getfield 162, 3) := by decide +kernel
theorem dX9_item_142 : decode cX9_item 142 = .ok (.iastore, 1) := by decide +kernel
theorem dX9_item_143 : decode cX9_item 143 = .ok (.iinc 2 1, 3) := by decide +kernel
theorem dX9_item_146 : decode cX9_item 146 = .ok (.goto (-106), 3) := by decide +kernel
theorem dX9_item_149 : decode cX9_item 149 = .ok (.iload_n 1, 1) := by decide +kernel
theorem dX9_item_150 : decode cX9_item 150 = .ok (.tableswitch 125 0 4 #[34, 34, 51, 66, 110], 34) := by decide +kernel
theorem dX9_item_184 : decode cX9_item 184 = .ok (.aload_n 0, 1) := by decide +kernel
theorem dX9_item_185 : decode cX9_item 185 = .ok (.getfield 47, 3) := by decide +kernel
theorem dX9_item_188 : decode cX9_item 188 = .ok (.aload_n 0, 1) := by decide +kernel
theorem dX9_item_189 : decode cX9_item 189 = .ok (.getfield 81, 3) := by decide +kernel
theorem dX9_item_192 : decode cX9_item 192 = .ok (.iconst 0, 1) := by decide +kernel
theorem dX9_item_193 : decode cX9_item 193 = .ok (.iaload, 1) := by decide +kernel
theorem dX9_item_194 : decode cX9_item 194 = .ok (.iconst 1, 1) := by decide +kernel
theorem dX9_item_195 : decode cX9_item 195 = .ok (.iload_n 1, 1) := by decide +kernel
theorem dX9_item_196 : decode cX9_item 196 = .ok (.isub, 1) := by decide +kernel
theorem dX9_item_197 : decode cX9_item 197 = .ok (.iastore, 1) := by decide +kernel
theorem dX9_item_198 : decode cX9_item 198 = .ok (.goto 90, 3) := by decide +kernel
theorem dX9_item_201 : decode cX9_item 201 = .ok (.aload_n 0, 1) := by decide +kernel
theorem dX9_item_202 : decode cX9_item 202 = .ok (.getfield 50, 3) := by decide +kernel
theorem dX9_item_205 : decode cX9_item 205 = .ok (.aload_n 0, 1) := by decide +kernel
theorem dX9_item_206 : decode cX9_item 206 = .ok (.getfield 81, 3) := by decide +kernel
theorem dX9_item_209 : decode cX9_item 209 = .ok (.iconst 0, 1) := by decide +kernel
theorem dX9_item_210 : decode cX9_item 210 = .ok (.iaload, 1) := by decide +kernel
theorem dX9_item_211 : decode cX9_item 211 = .ok (.iconst 1, 1) := by decide +kernel
theorem dX9_item_212 : decode cX9_item 212 = .ok (.iastore, 1) := by decide +kernel
theorem dX9_item_213 : decode cX9_item 213 = .ok (.goto 75, 3) := by decide +kernel
theorem dX9_item_216 : decode cX9_item 216 = .ok (.aload_n 0, 1) := by decide +kernel
theorem dX9_item_217 : decode cX9_item 217 = .ok (.aload_n 0, 1) := by decide +kernel
theorem dX9_item_218 : decode cX9_item 218 = .ok (.getfield 81, 3) := by decide +kernel
theorem dX9_item_221 : decode cX9_item 221 = .ok (.iconst 0, 1) := by decide +kernel
theorem dX9_item_222 : decode cX9_item 222 = .ok (.iaload, 1) := by decide +kernel
theorem dX9_item_223 : decode cX9_item 223 = .ok (.aload_n 0, 1) := by decide +kernel
theorem dX9_item_224 : decode cX9_item 224 = .ok (.getfield 81, 3) := by decide +kernel
theorem dX9_item_227 : decode cX9_item 227 = .ok (.iconst 1, 1) := by decide +kernel
theorem dX9_item_228 : decode cX9_item 228 = .ok (.iaload, 1) := by decide +kernel
theorem dX9_item_229 : decode cX9_item 229 = .ok (.aload_n 0, 1) := by decide +kernel
theorem dX9_item_230 : decode cX9_item 230 = .ok (.getfield 81, 3) := by decide +kernel
theorem dX9_item_233 : decode cX9_item 233 = .ok (.iconst 2, 1) := by decide +kernel
theorem dX9_item_234 : decode cX9_item 234 = .ok (.iaload, 1) := by decide +kernel
theorem dX9_item_235 : decode cX9_item 235 = .ok (.aload_n 0, 1) := by decide +kernel
theorem dX9_item_236 : decode cX9_item 236 = .ok (.getfield 81, 3) := by decide +kernel
theorem dX9_item_239 : decode cX9_item 239 = .ok (.iconst 3, 1) := by decide +kernel
theorem dX9_item_240 : decode cX9_item 240 = .ok (.iaload, 1) := by decide +kernel
theorem dX9_item_241 : decode cX9_item 241 = .ok (.aload_n 0, 1) := by decide +kernel
theorem dX9_item_242 : decode cX9_item 242 = .ok (.getfield 81, 3) := by decide +kernel
theorem dX9_item_245 : decode cX9_item 245 = .ok (.iconst 4, 1) := by decide +kernel
theorem dX9_item_246 : decode cX9_item 246 = .ok (.iaload, 1) := by decide +kernel
theorem dX9_item_247 : decode cX9_item 247 = .ok (.aload_n 0, 1) := by decide +kernel
theorem dX9_item_248 : decode cX9_item 248 = .ok (.getfield 81, 3) := by decide +kernel
theorem dX9_item_251 : decode cX9_item 251 = .ok (.iconst 5, 1) := by decide +kernel
theorem dX9_item_252 : decode cX9_item 252 = .ok (.iaload, 1) := by decide +kernel
theorem dX9_item_253 : decode cX9_item 253 = .ok (.invokevirtual 132, 3) := by decide +kernel
theorem dX9_item_256 : decode cX9_item 256 = .ok (.pop, 1) := by decide +kernel
theorem dX9_item_257 : decode cX9_item 257 = .ok (.goto 31, 3) := by decide +kernel
theorem dX9_item_260 : decode cX9_item 260 = .ok (.aload_n 0, 1) := by decide +kernel
theorem dX9_item_261 : decode cX9_item 261 = .ok (.getfield 44, 3) := by decide +kernel
theorem dX9_item_264 : decode cX9_item 264 = .ok (.aload_n 0, 1) := by decide +kernel
theorem dX9_item_265 : decode cX9_item 265 = .ok (.getfield 81, 3) := by decide +kernel
theorem dX9_item_268 : decode cX9_item 268 = .ok (.iconst 0, 1) := by decide +kernel
theorem dX9_item_269 : decode cX9_item 269 = .ok (.iaload, 1) := by decide +kernel
theorem dX9_item_270 : decode cX9_item 270 = .ok (.iconst 1, 1) := by decide +kernel
theorem dX9_item_271 : decode cX9_item 271 = .ok (.iastore, 1) := by decide +kernel
theorem dX9_item_272 : decode cX9_item 272 = .ok (.goto 16, 3) := by decide +kernel
theorem dX9_item_275 : decode cX9_item 275 = .ok (.aload_n 0, 1) := by decide +kernel
theorem dX9_item_276 : decode cX9_item 276 = .ok (.iload_n 1, 1) := by decide +kernel
theorem dX9_item_277 : decode cX9_item 277 = .ok (.iconst 5, 1) := by decide +kernel
theorem dX9_item_278 : decode cX9_item 278 = .ok (.isub, 1) := by decide +kernel
theorem dX9_item_279 : decode cX9_item 279 = .ok (.aload_n 0, 1) := by decide +kernel
theorem dX9_item_280 : decode cX9_item 280 = .ok (.getfield 81, 3) := by decide +kernel
theorem dX9_item_283 : decode cX9_item 283 = .ok (.iconst 0, 1) := by decide +kernel
theorem dX9_item_284 : decode cX9_item 284 = .ok (.iaload, 1) := by decide +kernel
theorem dX9_item_285 : decode cX9_item 285 = .ok (.invokevirtual 146, 3) := by decide +kernel
theorem dX9_item_288 : decode cX9_item 288 = .ok (.iconst 1, 1) := by decide +kernel
theorem dX9_item_289 : decode cX9_item 289 = .ok (.ireturn, 1) := by decide +kernel
theorem dX9_carries_0 : decode cX9_carries 0 = .ok (.iconst 0, 1) := by decide +kernel
theorem dX9_carries_1 : decode cX9_carries 1 = .ok (.istore 6, 2) := by decide +kernel
theorem dX9_carries_3 : decode cX9_carries 3 = .ok (.iload 6, 2) := by decide +kernel
theorem dX9_carries_5 : decode cX9_carries 5 = .ok (.iload_n 2, 1) := by decide +kernel
theorem dX9_carries_6 : decode cX9_carries 6 = .ok (.if_icmp .ge 39, 3) := by decide +kernel
theorem dX9_carries_9 : decode cX9_carries 9 = .ok (.iload 5, 2) := by decide +kernel
theorem dX9_carries_11 : decode cX9_carries 11 = .ok (.ifCond .eq 17, 3) := by decide +kernel
theorem dX9_carries_14 : decode cX9_carries 14 = .ok (.aload_n 1, 1) := by decide +kernel
theorem dX9_carries_15 : decode cX9_carries 15 = .ok (.iload 6, 2) := by decide +kernel
theorem dX9_carries_17 : decode cX9_carries 17 = .ok (.aload_n 3, 1) := by decide +kernel
theorem dX9_carries_18 : decode cX9_carries 18 = .ok (.iload 4, 2) := by decide +kernel
theorem dX9_carries_20 : decode cX9_carries 20 = .ok (.iload 6, 2) := by decide +kernel
theorem dX9_carries_22 : decode cX9_carries 22 = .ok (.iadd, 1) := by decide +kernel
theorem dX9_carries_23 : decode cX9_carries 23 = .ok (.iaload, 1) := by decide +kernel
theorem dX9_carries_24 : decode cX9_carries 24 = .ok (.iastore, 1) := by decide +kernel
theorem dX9_carries_25 : decode cX9_carries 25 = .ok (.goto 14, 3) := by decide +kernel
theorem dX9_carries_28 : decode cX9_carries 28 = .ok (.aload_n 3, 1) := by decide +kernel
theorem dX9_carries_29 : decode cX9_carries 29 = .ok (.iload 4, 2) := by decide +kernel
theorem dX9_carries_31 : decode cX9_carries 31 = .ok (.iload 6, 2) := by decide +kernel
theorem dX9_carries_33 : decode cX9_carries 33 = .ok (.iadd, 1) := by decide +kernel
theorem dX9_carries_34 : decode cX9_carries 34 = .ok (.aload_n 1, 1) := by decide +kernel
theorem dX9_carries_35 : decode cX9_carries 35 = .ok (.iload 6, 2) := by decide +kernel
theorem dX9_carries_37 : decode cX9_carries 37 = .ok (.iaload, 1) := by decide +kernel
theorem dX9_carries_38 : decode cX9_carries 38 = .ok (.iastore, 1) := by decide +kernel
theorem dX9_carries_39 : decode cX9_carries 39 = .ok (.iinc 6 1, 3) := by decide +kernel
theorem dX9_carries_42 : decode cX9_carries 42 = .ok (.goto (-39), 3) := by decide +kernel
theorem dX9_carries_45 : decode cX9_carries 45 = .ok (.iload 4, 2) := by decide +kernel
theorem dX9_carries_47 : decode cX9_carries 47 = .ok (.iload_n 2, 1) := by decide +kernel
theorem dX9_carries_48 : decode cX9_carries 48 = .ok (.iadd, 1) := by decide +kernel
theorem dX9_carries_49 : decode cX9_carries 49 = .ok (.ireturn, 1) := by decide +kernel
theorem dX9_carriesAll_0 : decode cX9_carriesAll 0 = .ok (.aload_n 0, 1) := by decide +kernel
theorem dX9_carriesAll_1 : decode cX9_carriesAll 1 = .ok (.aload_n 0, 1) := by decide +kernel
theorem dX9_carriesAll_2 : decode cX9_carriesAll 2 = .ok (.getfield 26, 3) := by decide +kernel
theorem dX9_carriesAll_5 : decode cX9_carriesAll 5 = .ok (.bipush 7, 2) := by decide +kernel
theorem dX9_carriesAll_7 : decode cX9_carriesAll 7 = .ok (.aload_n 1, 1) := by decide +kernel
theorem dX9_carriesAll_8 : decode cX9_carriesAll 8 = .ok (.iconst 0, 1) := by decide +kernel
theorem dX9_carriesAll_9 : decode cX9_carriesAll 9 = .ok (.iload_n 2, 1) := by decide +kernel
theorem dX9_carriesAll_10 : decode cX9_carriesAll 10 = .ok (.invokevirtual 185, 3) := by decide +kernel
theorem dX9_carriesAll_13 : decode cX9_carriesAll 13 = .ok (.istore_n 3, 1) := by decide +kernel
theorem dX9_carriesAll_14 : decode cX9_carriesAll 14 = .ok (.aload_n 0, 1) := by decide +kernel
theorem dX9_carriesAll_15 : decode cX9_carriesAll 15 = .ok (.aload_n 0, 1) := by decide +kernel
theorem dX9_carriesAll_16 : decode cX9_carriesAll 16 = .ok (.getfield 29, 3) := by decide +kernel
theorem dX9_carriesAll_19 : decode cX9_carriesAll 19 = .ok (.bipush 7, 2) := by decide +kernel
theorem dX9_carriesAll_21 : decode cX9_carriesAll 21 = .ok (.aload_n 1, 1) := by decide +kernel
theorem dX9_carriesAll_22 : decode cX9_carriesAll 22 = .ok (.iload_n 3, 1) := by decide +kernel
theorem dX9_carriesAll_23 : decode cX9_carriesAll 23 = .ok (.iload_n 2, 1) := by decide +kernel
theorem dX9_carriesAll_24 : decode cX9_carriesAll 24 = .ok (.invokevirtual 185, 3) := by decide +kernel
theorem dX9_carriesAll_27 : decode cX9_carriesAll 27 = .ok (.istore_n 3, 1) := by decide +kernel
theorem dX9_carriesAll_28 : decode cX9_carriesAll 28 = .ok (.aload_n 0, 1) := by decide +kernel
theorem dX9_carriesAll_29 : decode cX9_carriesAll 29 = .ok (.aload_n 0, 1) := by decide +kernel
theorem dX9_carriesAll_30 : decode cX9_carriesAll 30 = .ok (.getfield 32, 3) := by decide +kernel
theorem dX9_carriesAll_33 : decode cX9_carriesAll 33 = .ok (.bipush 7, 2) := by decide +kernel
theorem dX9_carriesAll_35 : decode cX9_carriesAll 35 = .ok (.aload_n 1, 1) := by decide +kernel
theorem dX9_carriesAll_36 : decode cX9_carriesAll 36 = .ok (.iload_n 3, 1) := by decide +kernel
theorem dX9_carriesAll_37 : decode cX9_carriesAll 37 = .ok (.iload_n 2, 1) := by decide +kernel
theorem dX9_carriesAll_38 : decode cX9_carriesAll 38 = .ok (.invokevirtual 185, 3) := by decide +kernel
theorem dX9_carriesAll_41 : decode cX9_carriesAll 41 = .ok (.istore_n 3, 1) := by decide +kernel
theorem dX9_carriesAll_42 : decode cX9_carriesAll 42 = .ok (.aload_n 0, 1) := by decide +kernel
theorem dX9_carriesAll_43 : decode cX9_carriesAll 43 = .ok (.aload_n 0, 1) := by decide +kernel
theorem dX9_carriesAll_44 : decode cX9_carriesAll 44 = .ok (.getfield 35, 3) := by decide +kernel
theorem dX9_carriesAll_47 : decode cX9_carriesAll 47 = .ok (.bipush 7, 2) := by decide +kernel
theorem dX9_carriesAll_49 : decode cX9_carriesAll 49 = .ok (.aload_n 1, 1) := by decide +kernel
theorem dX9_carriesAll_50 : decode cX9_carriesAll 50 = .ok (.iload_n 3, 1) := by decide +kernel
theorem dX9_carriesAll_51 : decode cX9_carriesAll 51 = .ok (.iload_n 2, 1) := by decide +kernel
theorem dX9_carriesAll_52 : decode cX9_carriesAll 52 = .ok (.invokevirtual 185, 3) := by decide +kernel
theorem dX9_carriesAll_55 : decode cX9_carriesAll 55 = .ok (.istore_n 3, 1) := by decide +kernel
theorem dX9_carriesAll_56 : decode cX9_carriesAll 56 = .ok (.aload_n 0, 1) := by decide +kernel
theorem dX9_carriesAll_57 : decode cX9_carriesAll 57 = .ok (.aload_n 0, 1) := by decide +kernel
theorem dX9_carriesAll_58 : decode cX9_carriesAll 58 = .ok (.getfield 38, 3) := by decide +kernel
theorem dX9_carriesAll_61 : decode cX9_carriesAll 61 = .ok (.bipush 7, 2) := by decide +kernel
theorem dX9_carriesAll_63 : decode cX9_carriesAll 63 = .ok (.aload_n 1, 1) := by decide +kernel
theorem dX9_carriesAll_64 : decode cX9_carriesAll 64 = .ok (.iload_n 3, 1) := by decide +kernel
theorem dX9_carriesAll_65 : decode cX9_carriesAll 65 = .ok (.iload_n 2, 1) := by decide +kernel
theorem dX9_carriesAll_66 : decode cX9_carriesAll 66 = .ok (.invokevirtual 185, 3) := by decide +kernel
theorem dX9_carriesAll_69 : decode cX9_carriesAll 69 = .ok (.istore_n 3, 1) := by decide +kernel
theorem dX9_carriesAll_70 : decode cX9_carriesAll 70 = .ok (.aload_n 0, 1) := by decide +kernel
theorem dX9_carriesAll_71 : decode cX9_carriesAll 71 = .ok (.aload_n 0, 1) := by decide +kernel
theorem dX9_carriesAll_72 : decode cX9_carriesAll 72 = .ok (.getfield 41, 3) := by decide +kernel
theorem dX9_carriesAll_75 : decode cX9_carriesAll 75 = .ok (.bipush 7, 2) := by decide +kernel
theorem dX9_carriesAll_77 : decode cX9_carriesAll 77 = .ok (.aload_n 1, 1) := by decide +kernel
theorem dX9_carriesAll_78 : decode cX9_carriesAll 78 = .ok (.iload_n 3, 1) := by decide +kernel
theorem dX9_carriesAll_79 : decode cX9_carriesAll 79 = .ok (.iload_n 2, 1) := by decide +kernel
theorem dX9_carriesAll_80 : decode cX9_carriesAll 80 = .ok (.invokevirtual 185, 3) := by decide +kernel
theorem dX9_carriesAll_83 : decode cX9_carriesAll 83 = .ok (.istore_n 3, 1) := by decide +kernel
theorem dX9_carriesAll_84 : decode cX9_carriesAll 84 = .ok (.aload_n 0, 1) := by decide +kernel
theorem dX9_carriesAll_85 : decode cX9_carriesAll 85 = .ok (.aload_n 0, 1) := by decide +kernel
theorem dX9_carriesAll_86 : decode cX9_carriesAll 86 = .ok (.getfield 44, 3) := by decide +kernel
theorem dX9_carriesAll_89 : decode cX9_carriesAll 89 = .ok (.bipush 7, 2) := by decide +kernel
theorem dX9_carriesAll_91 : decode cX9_carriesAll 91 = .ok (.aload_n 1, 1) := by decide +kernel
theorem dX9_carriesAll_92 : decode cX9_carriesAll 92 = .ok (.iload_n 3, 1) := by decide +kernel
theorem dX9_carriesAll_93 : decode cX9_carriesAll 93 = .ok (.iload_n 2, 1) := by decide +kernel
theorem dX9_carriesAll_94 : decode cX9_carriesAll 94 = .ok (.invokevirtual 185, 3) := by decide +kernel
theorem dX9_carriesAll_97 : decode cX9_carriesAll 97 = .ok (.istore_n 3, 1) := by decide +kernel
theorem dX9_carriesAll_98 : decode cX9_carriesAll 98 = .ok (.aload_n 0, 1) := by decide +kernel
theorem dX9_carriesAll_99 : decode cX9_carriesAll 99 = .ok (.aload_n 0, 1) := by decide +kernel
theorem dX9_carriesAll_100 : decode cX9_carriesAll 100 = .ok (.getfield 47, 3) := by decide +kernel
theorem dX9_carriesAll_103 : decode cX9_carriesAll 103 = .ok (.bipush 36, 2) := by decide +kernel
theorem dX9_carriesAll_105 : decode cX9_carriesAll 105 = .ok (.aload_n 1, 1) := by decide +kernel
theorem dX9_carriesAll_106 : decode cX9_carriesAll 106 = .ok (.iload_n 3, 1) := by decide +kernel
theorem dX9_carriesAll_107 : decode cX9_carriesAll 107 = .ok (.iload_n 2, 1) := by decide +kernel
theorem dX9_carriesAll_108 : decode cX9_carriesAll 108 = .ok (.invokevirtual 185, 3) := by decide +kernel
theorem dX9_carriesAll_111 : decode cX9_carriesAll 111 = .ok (.istore_n 3, 1) := by decide +kernel
theorem dX9_carriesAll_112 : decode cX9_carriesAll 112 = .ok (.aload_n 0, 1) := by decide +kernel
theorem dX9_carriesAll_113 : decode cX9_carriesAll 113 = .ok (.aload_n 0, 1) := by decide +kernel
theorem dX9_carriesAll_114 : decode cX9_carriesAll 114 = .ok (.getfield 50, 3) := by decide +kernel
theorem dX9_carriesAll_117 : decode cX9_carriesAll 117 = .ok (.bipush 36, 2) := by decide +kernel
theorem dX9_carriesAll_119 : decode cX9_carriesAll 119 = .ok (.aload_n 1, 1) := by decide +kernel
theorem dX9_carriesAll_120 : decode cX9_carriesAll 120 = .ok (.iload_n 3, 1) := by decide +kernel
theorem dX9_carriesAll_121 : decode cX9_carriesAll 121 = .ok (.iload_n 2, 1) := by decide +kernel
theorem dX9_carriesAll_122 : decode cX9_carriesAll 122 = .ok (.invokevirtual 185, 3) := by decide +kernel
theorem dX9_carriesAll_125 : decode cX9_carriesAll 125 = .ok (.istore_n 3, 1) := by decide +kernel
theorem dX9_carriesAll_126 : decode cX9_carriesAll 126 = .ok (.iload_n 2, 1) := by decide +kernel
theorem dX9_carriesAll_127 : decode cX9_carriesAll 127 = .ok (.ifCond .eq 68, 3) := by decide +kernel
theorem dX9_carriesAll_130 : decode cX9_carriesAll 130 = .ok (.aload_n 0, 1) := by decide +kernel
theorem dX9_carriesAll_131 : decode cX9_carriesAll 131 = .ok (.aload_n 1, 1) := by decide +kernel
theorem dX9_carriesAll_132 : decode cX9_carriesAll 132 = .ok (.iload_n 3, 1) := by decide +kernel
theorem dX9_carriesAll_133 : decode cX9_carriesAll 133 = .ok (.iaload, 1) := by decide +kernel
theorem dX9_carriesAll_134 : decode cX9_carriesAll 134 = .ok (.putfield 108, 3) := by decide +kernel
theorem dX9_carriesAll_137 : decode cX9_carriesAll 137 = .ok (.aload_n 0, 1) := by decide +kernel
theorem dX9_carriesAll_138 : decode cX9_carriesAll 138 = .ok (.aload_n 1, 1) := by decide +kernel
theorem dX9_carriesAll_139 : decode cX9_carriesAll 139 = .ok (.iload_n 3, 1) := by decide +kernel
theorem dX9_carriesAll_140 : decode cX9_carriesAll 140 = .ok (.iconst 1, 1) := by decide +kernel
theorem dX9_carriesAll_141 : decode cX9_carriesAll 141 = .ok (.iadd, 1) := by decide +kernel
theorem dX9_carriesAll_142 : decode cX9_carriesAll 142 = .ok (.iaload, 1) := by decide +kernel
theorem dX9_carriesAll_143 : decode cX9_carriesAll 143 = .ok (.putfield 7, 3) := by decide +kernel
theorem dX9_carriesAll_146 : decode cX9_carriesAll 146 = .ok (.aload_n 0, 1) := by decide +kernel
theorem dX9_carriesAll_147 : decode cX9_carriesAll 147 = .ok (.aload_n 1, 1) := by decide +kernel
theorem dX9_carriesAll_148 : decode cX9_carriesAll 148 = .ok (.iload_n 3, 1) := by decide +kernel
theorem dX9_carriesAll_149 : decode cX9_carriesAll 149 = .ok (.iconst 2, 1) := by decide +kernel
theorem dX9_carriesAll_150 : decode cX9_carriesAll 150 = .ok (.iadd, 1) := by decide +kernel
theorem dX9_carriesAll_151 : decode cX9_carriesAll 151 = .ok (.iaload, 1) := by decide +kernel
theorem dX9_carriesAll_152 : decode cX9_carriesAll 152 = .ok (.putfield 13, 3) := by decide +kernel
theorem dX9_carriesAll_155 : decode cX9_carriesAll 155 = .ok (.aload_n 0, 1) := by decide +kernel
theorem dX9_carriesAll_156 : decode cX9_carriesAll 156 = .ok (.aload_n 1, 1) := by decide +kernel
theorem dX9_carriesAll_157 : decode cX9_carriesAll 157 = .ok (.iload_n 3, 1) := by decide +kernel
theorem dX9_carriesAll_158 : decode cX9_carriesAll 158 = .ok (.iconst 3, 1) := by decide +kernel
theorem dX9_carriesAll_159 : decode cX9_carriesAll 159 = .ok (.iadd, 1) := by decide +kernel
theorem dX9_carriesAll_160 : decode cX9_carriesAll 160 = .ok (.iaload, 1) := by decide +kernel
theorem dX9_carriesAll_161 : decode cX9_carriesAll 161 = .ok (.putfield 139, 3) := by decide +kernel
theorem dX9_carriesAll_164 : decode cX9_carriesAll 164 = .ok (.aload_n 0, 1) := by decide +kernel
theorem dX9_carriesAll_165 : decode cX9_carriesAll 165 = .ok (.aload_n 1, 1) := by decide +kernel
theorem dX9_carriesAll_166 : decode cX9_carriesAll 166 = .ok (.iload_n 3, 1) := by decide +kernel
theorem dX9_carriesAll_167 : decode cX9_carriesAll 167 = .ok (.iconst 4, 1) := by decide +kernel
theorem dX9_carriesAll_168 : decode cX9_carriesAll 168 = .ok (.iadd, 1) := by decide +kernel
theorem dX9_carriesAll_169 : decode cX9_carriesAll 169 = .ok (.iaload, 1) := by decide +kernel
theorem dX9_carriesAll_170 : decode cX9_carriesAll 170 = .ok (.putfield 189, 3) := by decide +kernel
theorem dX9_carriesAll_173 : decode cX9_carriesAll 173 = .ok (.aload_n 0, 1) := by decide +kernel
theorem dX9_carriesAll_174 : decode cX9_carriesAll 174 = .ok (.aload_n 1, 1) := by decide +kernel
theorem dX9_carriesAll_175 : decode cX9_carriesAll 175 = .ok (.iload_n 3, 1) := by decide +kernel
theorem dX9_carriesAll_176 : decode cX9_carriesAll 176 = .ok (.iconst 5, 1) := by decide +kernel
theorem dX9_carriesAll_177 : decode cX9_carriesAll 177 = .ok (.iadd, 1) := by decide +kernel
theorem dX9_carriesAll_178 : decode cX9_carriesAll 178 = .ok (.iaload, 1) := by decide +kernel
theorem dX9_carriesAll_179 : decode cX9_carriesAll 179 = .ok (.putfield 192, 3) := by decide +kernel
theorem dX9_carriesAll_182 : decode cX9_carriesAll 182 = .ok (.aload_n 0, 1) := by decide +kernel
theorem dX9_carriesAll_183 : decode cX9_carriesAll 183 = .ok (.aload_n 1, 1) := by decide +kernel
theorem dX9_carriesAll_184 : decode cX9_carriesAll 184 = .ok (.iload_n 3, 1) := by decide +kernel
theorem dX9_carriesAll_185 : decode cX9_carriesAll 185 = .ok (.bipush 6, 2) := by decide +kernel
theorem dX9_carriesAll_187 : decode cX9_carriesAll 187 = .ok (.iadd, 1) := by decide +kernel
theorem dX9_carriesAll_188 : decode cX9_carriesAll 188 = .ok (.iaload, 1) := by decide +kernel
theorem dX9_carriesAll_189 : decode cX9_carriesAll 189 = .ok (.putfield 16, 3) := by decide +kernel
theorem dX9_carriesAll_192 : decode cX9_carriesAll 192 = .ok (.goto 65, 3) := by decide +kernel
theorem dX9_carriesAll_195 : decode cX9_carriesAll 195 = .ok (.aload_n 1, 1) := by decide +kernel
theorem dX9_carriesAll_196 : decode cX9_carriesAll 196 = .ok (.iload_n 3, 1) := by decide +kernel
theorem dX9_carriesAll_197 : decode cX9_carriesAll 197 = .ok (.aload_n 0, 1) := by decide +kernel
theorem dX9_carriesAll_198 : decode cX9_carriesAll 198 = .ok (.getfield 108, 3) := by decide +kernel
theorem dX9_carriesAll_201 : decode cX9_carriesAll 201 = .ok (.iastore, 1) := by decide +kernel
theorem dX9_carriesAll_202 : decode cX9_carriesAll 202 = .ok (.aload_n 1, 1) := by decide +kernel
theorem dX9_carriesAll_203 : decode cX9_carriesAll 203 = .ok (.iload_n 3, 1) := by decide +kernel
theorem dX9_carriesAll_204 : decode cX9_carriesAll 204 = .ok (.iconst 1, 1) := by decide +kernel
theorem dX9_carriesAll_205 : decode cX9_carriesAll 205 = .ok (.iadd, 1) := by decide +kernel
theorem dX9_carriesAll_206 : decode cX9_carriesAll 206 = .ok (.aload_n 0, 1) := by decide +kernel
theorem dX9_carriesAll_207 : decode cX9_carriesAll 207 = .ok (.getfield 7, 3) := by decide +kernel
theorem dX9_carriesAll_210 : decode cX9_carriesAll 210 = .ok (.iastore, 1) := by decide +kernel
theorem dX9_carriesAll_211 : decode cX9_carriesAll 211 = .ok (.aload_n 1, 1) := by decide +kernel
theorem dX9_carriesAll_212 : decode cX9_carriesAll 212 = .ok (.iload_n 3, 1) := by decide +kernel
theorem dX9_carriesAll_213 : decode cX9_carriesAll 213 = .ok (.iconst 2, 1) := by decide +kernel
theorem dX9_carriesAll_214 : decode cX9_carriesAll 214 = .ok (.iadd, 1) := by decide +kernel
theorem dX9_carriesAll_215 : decode cX9_carriesAll 215 = .ok (.aload_n 0, 1) := by decide +kernel
theorem dX9_carriesAll_216 : decode cX9_carriesAll 216 = .ok (.getfield 13, 3) := by decide +kernel
theorem dX9_carriesAll_219 : decode cX9_carriesAll 219 = .ok (.iastore, 1) := by decide +kernel
theorem dX9_carriesAll_220 : decode cX9_carriesAll 220 = .ok (.aload_n 1, 1) := by decide +kernel
theorem dX9_carriesAll_221 : decode cX9_carriesAll 221 = .ok (.iload_n 3, 1) := by decide +kernel
theorem dX9_carriesAll_222 : decode cX9_carriesAll 222 = .ok (.iconst 3, 1) := by decide +kernel
theorem dX9_carriesAll_223 : decode cX9_carriesAll 223 = .ok (.iadd, 1) := by decide +kernel
theorem dX9_carriesAll_224 : decode cX9_carriesAll 224 = .ok (.aload_n 0, 1) := by decide +kernel
theorem dX9_carriesAll_225 : decode cX9_carriesAll 225 = .ok (.getfield 139, 3) := by decide +kernel
theorem dX9_carriesAll_228 : decode cX9_carriesAll 228 = .ok (.iastore, 1) := by decide +kernel
theorem dX9_carriesAll_229 : decode cX9_carriesAll 229 = .ok (.aload_n 1, 1) := by decide +kernel
theorem dX9_carriesAll_230 : decode cX9_carriesAll 230 = .ok (.iload_n 3, 1) := by decide +kernel
theorem dX9_carriesAll_231 : decode cX9_carriesAll 231 = .ok (.iconst 4, 1) := by decide +kernel
theorem dX9_carriesAll_232 : decode cX9_carriesAll 232 = .ok (.iadd, 1) := by decide +kernel
theorem dX9_carriesAll_233 : decode cX9_carriesAll 233 = .ok (.aload_n 0, 1) := by decide +kernel
theorem dX9_carriesAll_234 : decode cX9_carriesAll 234 = .ok (.getfield 189, 3) := by decide +kernel
theorem dX9_carriesAll_237 : decode cX9_carriesAll 237 = .ok (.iastore, 1) := by decide +kernel
theorem dX9_carriesAll_238 : decode cX9_carriesAll 238 = .ok (.aload_n 1, 1) := by decide +kernel
theorem dX9_carriesAll_239 : decode cX9_carriesAll 239 = .ok (.iload_n 3, 1) := by decide +kernel
theorem dX9_carriesAll_240 : decode cX9_carriesAll 240 = .ok (.iconst 5, 1) := by decide +kernel
theorem dX9_carriesAll_241 : decode cX9_carriesAll 241 = .ok (.iadd, 1) := by decide +kernel
theorem dX9_carriesAll_242 : decode cX9_carriesAll 242 = .ok (.aload_n 0, 1) := by decide +kernel
theorem dX9_carriesAll_243 : decode cX9_carriesAll 243 = .ok (.getfield 192, 3) := by decide +kernel
theorem dX9_carriesAll_246 : decode cX9_carriesAll 246 = .ok (.iastore, 1) := by decide +kernel
theorem dX9_carriesAll_247 : decode cX9_carriesAll 247 = .ok (.aload_n 1, 1) := by decide +kernel
theorem dX9_carriesAll_248 : decode cX9_carriesAll 248 = .ok (.iload_n 3, 1) := by decide +kernel
theorem dX9_carriesAll_249 : decode cX9_carriesAll 249 = .ok (.bipush 6, 2) := by decide +kernel
theorem dX9_carriesAll_251 : decode cX9_carriesAll 251 = .ok (.iadd, 1) := by decide +kernel
theorem dX9_carriesAll_252 : decode cX9_carriesAll 252 = .ok (.aload_n 0, 1) := by decide +kernel
theorem dX9_carriesAll_253 : decode cX9_carriesAll 253 = .ok (.getfield 16, 3) := by decide +kernel
theorem dX9_carriesAll_256 : decode cX9_carriesAll 256 = .ok (.iastore, 1) := by decide +kernel
theorem dX9_carriesAll_257 : decode cX9_carriesAll 257 = .ok (.return_, 1) := by decide +kernel
theorem dX9_town_0 : decode cX9_town 0 = .ok (.aload_n 0, 1) := by decide +kernel
theorem dX9_town_1 : decode cX9_town 1 = .ok (.iload_n 1, 1) := by decide +kernel
theorem dX9_town_2 : decode cX9_town 2 = .ok (.invokevirtual 195, 3) := by decide +kernel
theorem dX9_town_5 : decode cX9_town 5 = .ok (.istore_n 2, 1) := by decide +kernel
theorem dX9_town_6 : decode cX9_town 6 = .ok (.iload_n 2, 1) := by decide +kernel
theorem dX9_town_7 : decode cX9_town 7 = .ok (.ifCond .eq 9, 3) := by decide +kernel
theorem dX9_town_10 : decode cX9_town 10 = .ok (.aload_n 0, 1) := by decide +kernel
theorem dX9_town_11 : decode cX9_town 11 = .ok (.iload_n 2, 1) := by decide +kernel
theorem dX9_town_12 : decode cX9_town 12 = .ok (.invokevirtual 115, 3) := by decide +kernel
theorem dX9_town_15 : decode cX9_town 15 = .ok (.ireturn, 1) := by decide +kernel
theorem dX9_town_16 : decode cX9_town 16 = .ok (.aload_n 0, 1) := by decide +kernel
theorem dX9_town_17 : decode cX9_town 17 = .ok (.aload_n 0, 1) := by decide +kernel
theorem dX9_town_18 : decode cX9_town 18 = .ok (.getfield 84, 3) := by decide +kernel
theorem dX9_town_21 : decode cX9_town 21 = .ok (.iconst 0, 1) := by decide +kernel
theorem dX9_town_22 : decode cX9_town 22 = .ok (.invokevirtual 198, 3) := by decide +kernel
theorem dX9_town_25 : decode cX9_town 25 = .ok (.aload_n 0, 1) := by decide +kernel
theorem dX9_town_26 : decode cX9_town 26 = .ok (.sipush 160, 3) := by decide +kernel
theorem dX9_town_29 : decode cX9_town 29 = .ok (.iload_n 1, 1) := by decide +kernel
theorem dX9_town_30 : decode cX9_town 30 = .ok (.imul, 1) := by decide +kernel
theorem dX9_town_31 : decode cX9_town 31 = .ok (.putfield 159, 3) := by decide +kernel
theorem dX9_town_34 : decode cX9_town 34 = .ok (.aload_n 0, 1) := by decide +kernel
theorem dX9_town_35 : decode cX9_town 35 = .ok (.iconst 0, 1) := by decide +kernel
theorem dX9_town_36 : decode cX9_town 36 = .ok (.putfield 153, 3) := by decide +kernel
theorem dX9_town_39 : decode cX9_town 39 = .ok (.aload_n 0, 1) := by decide +kernel
theorem dX9_town_40 : decode cX9_town 40 = .ok (.aload_n 0, 1) := by decide +kernel
theorem dX9_town_41 : decode cX9_town 41 = .ok (.getfield 59, 3) := by decide +kernel
theorem dX9_town_44 : decode cX9_town 44 = .ok (.iload_n 1, 1) := by decide +kernel
theorem dX9_town_45 : decode cX9_town 45 = .ok (.iaload, 1) := by decide +kernel
theorem dX9_town_46 : decode cX9_town 46 = .ok (.putfield 156, 3) := by decide +kernel
theorem dX9_town_49 : decode cX9_town 49 = .ok (.aload_n 0, 1) := by decide +kernel
theorem dX9_town_50 : decode cX9_town 50 = .ok (.iconst (-1), 1) := by decide +kernel
theorem dX9_town_51 : decode cX9_town 51 = .ok (.putfield 19, 3) := by decide +kernel
theorem dX9_town_54 : decode cX9_town 54 = .ok (.iconst 1, 1) := by decide +kernel
theorem dX9_town_55 : decode cX9_town 55 = .ok (.istore_n 3, 1) := by decide +kernel
theorem dX9_town_56 : decode cX9_town 56 = .ok (.aload_n 0, 1) := by decide +kernel
theorem dX9_town_57 : decode cX9_town 57 = .ok (.invokevirtual 202, 3) := by decide +kernel
theorem dX9_town_60 : decode cX9_town 60 = .ok (.istore 4, 2) := by decide +kernel
theorem dX9_town_62 : decode cX9_town 62 = .ok (.iload 4, 2) := by decide +kernel
theorem dX9_town_64 : decode cX9_town 64 = .ok (.ifCond .eq 69, 3) := by decide +kernel
theorem dX9_town_67 : decode cX9_town 67 = .ok (.aload_n 0, 1) := by decide +kernel
theorem dX9_town_68 : decode cX9_town 68 = .ok (.getfield 153, 3) := by decide +kernel
theorem dX9_town_71 : decode cX9_town 71 = .ok (.aload_n 0, 1) := by decide +kernel
theorem dX9_town_72 : decode cX9_town 72 = .ok (.getfield 156, 3) := by decide +kernel
theorem dX9_town_75 : decode cX9_town 75 = .ok (.if_icmp .ge 58, 3) := by decide +kernel
theorem dX9_town_78 : decode cX9_town 78 = .ok (.aload_n 0, 1) := by decide +kernel
theorem dX9_town_79 : decode cX9_town 79 = .ok (.getfield 65, 3) := by decide +kernel
theorem dX9_town_82 : decode cX9_town 82 = .ok (.aload_n 0, 1) := by decide +kernel
theorem dX9_town_83 : decode cX9_town 83 = .ok (.getfield 159, 3) := by decide +kernel
theorem dX9_town_86 : decode cX9_town 86 = .ok (.aload_n 0, 1) := by decide +kernel
theorem dX9_town_87 : decode cX9_town 87 = .ok (.getfield 153, 3) := by decide +kernel
theorem dX9_town_90 : decode cX9_town 90 = .ok (.iadd, 1) := by decide +kernel
theorem dX9_town_91 : decode cX9_town 91 = .ok (.laload, 1) := by decide +kernel
theorem dX9_town_92 : decode cX9_town 92 = .ok (.l2i, 1) := by decide +kernel
theorem dX9_town_93 : decode cX9_town 93 = .ok (.bipush 59, 2) := by decide +kernel
theorem dX9_town_95 : decode cX9_town 95 = .ok (.if_icmp .eq 16, 3) := by decide +kernel
theorem dX9_town_98 : decode cX9_town 98 = .ok (.aload_n 0, 1) := by decide +kernel
theorem dX9_town_99 : decode cX9_town 99 = .ok (.aload_n 0, 1) := by decide +kernel
theorem dX9_town_100 : decode cX9_town 100 = .ok (.getfield 153, 3) := by decide +kernel
theorem dX9_town_103 : decode cX9_town 103 = .ok (.invokevirtual 169, 3) := by decide +kernel
theorem dX9_town_106 : decode cX9_town 106 = .ok (.istore 4, 2) := by decide +kernel
theorem dX9_town_108 : decode cX9_town 108 = .ok (.goto (-46), 3) := by decide +kernel
theorem dX9_town_111 : decode cX9_town 111 = .ok (.aload_n 0, 1) := by decide +kernel
theorem dX9_town_112 : decode cX9_town 112 = .ok (.dup, 1) := by decide +kernel
theorem dX9_town_113 : decode cX9_town 113 = .ok (.getfield 153, 3) := by decide +kernel
theorem dX9_town_116 : decode cX9_town 116 = .ok (.iconst 1, 1) := by decide +kernel
theorem dX9_town_117 : decode cX9_town 117 = .ok (.iadd, 1) := by decide +kernel
theorem dX9_town_118 : decode cX9_town 118 = .ok (.putfield 153, 3) := by decide +kernel
theorem dX9_town_121 : decode cX9_town 121 = .ok (.iinc 3 1, 3) := by decide +kernel
theorem dX9_town_124 : decode cX9_town 124 = .ok (.aload_n 0, 1) := by decide +kernel
theorem dX9_town_125 : decode cX9_town 125 = .ok (.invokevirtual 202, 3) := by decide +kernel
theorem dX9_town_128 : decode cX9_town 128 = .ok (.istore 4, 2) := by decide +kernel
theorem dX9_town_130 : decode cX9_town 130 = .ok (.goto (-68), 3) := by decide +kernel
theorem dX9_town_133 : decode cX9_town 133 = .ok (.iload 4, 2) := by decide +kernel
theorem dX9_town_135 : decode cX9_town 135 = .ok (.ifCond .eq 5, 3) := by decide +kernel
theorem dX9_town_138 : decode cX9_town 138 = .ok (.iload_n 3, 1) := by decide +kernel
theorem dX9_town_139 : decode cX9_town 139 = .ok (.ireturn, 1) := by decide +kernel
theorem dX9_town_140 : decode cX9_town 140 = .ok (.aload_n 0, 1) := by decide +kernel
theorem dX9_town_141 : decode cX9_town 141 = .ok (.aload_n 0, 1) := by decide +kernel
theorem dX9_town_142 : decode cX9_town 142 = .ok (.getfield 84, 3) := by decide +kernel
theorem dX9_town_145 : decode cX9_town 145 = .ok (.iconst 1, 1) := by decide +kernel
theorem dX9_town_146 : decode cX9_town 146 = .ok (.invokevirtual 198, 3) := by decide +kernel
theorem dX9_town_149 : decode cX9_town 149 = .ok (.aload_n 0, 1) := by decide +kernel
theorem dX9_town_150 : decode cX9_town 150 = .ok (.aload_n 0, 1) := by decide +kernel
theorem dX9_town_151 : decode cX9_town 151 = .ok (.getfield 150, 3) := by decide +kernel
theorem dX9_town_154 : decode cX9_town 154 = .ok (.putfield 19, 3) := by decide +kernel
theorem dX9_town_157 : decode cX9_town 157 = .ok (.aload_n 0, 1) := by decide +kernel
theorem dX9_town_158 : decode cX9_town 158 = .ok (.bipush (-6), 2) := by decide +kernel
theorem dX9_town_160 : decode cX9_town 160 = .ok (.invokevirtual 115, 3) := by decide +kernel
theorem dX9_town_163 : decode cX9_town 163 = .ok (.ireturn, 1) := by decide +kernel
theorem dX9_fault_0 : decode cX9_fault 0 = .ok (.aload_n 0, 1) := by decide +kernel
theorem dX9_fault_1 : decode cX9_fault 1 = .ok (.getfield 19, 3) := by decide +kernel
theorem dX9_fault_4 : decode cX9_fault 4 = .ok (.ireturn, 1) := by decide +kernel
theorem dX9_distance_0 : decode cX9_distance 0 = .ok (.iload_n 1, 1) := by decide +kernel
theorem dX9_distance_1 : decode cX9_distance 1 = .ok (.bipush 6, 2) := by decide +kernel
theorem dX9_distance_3 : decode cX9_distance 3 = .ok (.idiv, 1) := by decide +kernel
theorem dX9_distance_4 : decode cX9_distance 4 = .ok (.iload_n 2, 1) := by decide +kernel
theorem dX9_distance_5 : decode cX9_distance 5 = .ok (.bipush 6, 2) := by decide +kernel
theorem dX9_distance_7 : decode cX9_distance 7 = .ok (.idiv, 1) := by decide +kernel
theorem dX9_distance_8 : decode cX9_distance 8 = .ok (.isub, 1) := by decide +kernel
theorem dX9_distance_9 : decode cX9_distance 9 = .ok (.istore_n 3, 1) := by decide +kernel
theorem dX9_distance_10 : decode cX9_distance 10 = .ok (.iload_n 1, 1) := by decide +kernel
theorem dX9_distance_11 : decode cX9_distance 11 = .ok (.bipush 6, 2) := by decide +kernel
theorem dX9_distance_13 : decode cX9_distance 13 = .ok (.irem, 1) := by decide +kernel
theorem dX9_distance_14 : decode cX9_distance 14 = .ok (.iload_n 2, 1) := by decide +kernel
theorem dX9_distance_15 : decode cX9_distance 15 = .ok (.bipush 6, 2) := by decide +kernel
theorem dX9_distance_17 : decode cX9_distance 17 = .ok (.irem, 1) := by decide +kernel
theorem dX9_distance_18 : decode cX9_distance 18 = .ok (.isub, 1) := by decide +kernel
theorem dX9_distance_19 : decode cX9_distance 19 = .ok (.istore 4, 2) := by decide +kernel
theorem dX9_distance_21 : decode cX9_distance 21 = .ok (.iload_n 3, 1) := by decide +kernel
theorem dX9_distance_22 : decode cX9_distance 22 = .ok (.iload 4, 2) := by decide +kernel
theorem dX9_distance_24 : decode cX9_distance 24 = .ok (.iadd, 1) := by decide +kernel
theorem dX9_distance_25 : decode cX9_distance 25 = .ok (.istore 5, 2) := by decide +kernel
theorem dX9_distance_27 : decode cX9_distance 27 = .ok (.iload 5, 2) := by decide +kernel
theorem dX9_distance_29 : decode cX9_distance 29 = .ok (.ifCond .ge 9, 3) := by decide +kernel
theorem dX9_distance_32 : decode cX9_distance 32 = .ok (.iload 5, 2) := by decide +kernel
theorem dX9_distance_34 : decode cX9_distance 34 = .ok (.ineg, 1) := by decide +kernel
theorem dX9_distance_35 : decode cX9_distance 35 = .ok (.goto 5, 3) := by decide +kernel
theorem dX9_distance_38 : decode cX9_distance 38 = .ok (.iload 5, 2) := by decide +kernel
theorem dX9_distance_40 : decode cX9_distance 40 = .ok (.ireturn, 1) := by decide +kernel
theorem dX9_sees_0 : decode cX9_sees 0 = .ok (.iload_n 1, 1) := by decide +kernel
theorem dX9_sees_1 : decode cX9_sees 1 = .ok (.iload_n 2, 1) := by decide +kernel
theorem dX9_sees_2 : decode cX9_sees 2 = .ok (.if_icmp .ne 5, 3) := by decide +kernel
theorem dX9_sees_5 : decode cX9_sees 5 = .ok (.iconst 1, 1) := by decide +kernel
theorem dX9_sees_6 : decode cX9_sees 6 = .ok (.ireturn, 1) := by decide +kernel
theorem dX9_sees_7 : decode cX9_sees 7 = .ok (.iload_n 1, 1) := by decide +kernel
theorem dX9_sees_8 : decode cX9_sees 8 = .ok (.bipush 6, 2) := by decide +kernel
theorem dX9_sees_10 : decode cX9_sees 10 = .ok (.idiv, 1) := by decide +kernel
theorem dX9_sees_11 : decode cX9_sees 11 = .ok (.iload_n 2, 1) := by decide +kernel
theorem dX9_sees_12 : decode cX9_sees 12 = .ok (.bipush 6, 2) := by decide +kernel
theorem dX9_sees_14 : decode cX9_sees 14 = .ok (.idiv, 1) := by decide +kernel
theorem dX9_sees_15 : decode cX9_sees 15 = .ok (.if_icmp .eq 14, 3) := by decide +kernel
theorem dX9_sees_18 : decode cX9_sees 18 = .ok (.iload_n 1, 1) := by decide +kernel
theorem dX9_sees_19 : decode cX9_sees 19 = .ok (.bipush 6, 2) := by decide +kernel
theorem dX9_sees_21 : decode cX9_sees 21 = .ok (.irem, 1) := by decide +kernel
theorem dX9_sees_22 : decode cX9_sees 22 = .ok (.iload_n 2, 1) := by decide +kernel
theorem dX9_sees_23 : decode cX9_sees 23 = .ok (.bipush 6, 2) := by decide +kernel
theorem dX9_sees_25 : decode cX9_sees 25 = .ok (.irem, 1) := by decide +kernel
theorem dX9_sees_26 : decode cX9_sees 26 = .ok (.if_icmp .ne 16, 3) := by decide +kernel
theorem dX9_sees_29 : decode cX9_sees 29 = .ok (.aload_n 0, 1) := by decide +kernel
theorem dX9_sees_30 : decode cX9_sees 30 = .ok (.iload_n 1, 1) := by decide +kernel
theorem dX9_sees_31 : decode cX9_sees 31 = .ok (.iload_n 2, 1) := by decide +kernel
theorem dX9_sees_32 : decode cX9_sees 32 = .ok (.invokevirtual 205, 3) := by decide +kernel
theorem dX9_sees_35 : decode cX9_sees 35 = .ok (.aload_n 0, 1) := by decide +kernel
theorem dX9_sees_36 : decode cX9_sees 36 = .ok (.getfield 13, 3) := by decide +kernel
theorem dX9_sees_39 : decode cX9_sees 39 = .ok (.if_icmp .le 5, 3) := by decide +kernel
theorem dX9_sees_42 : decode cX9_sees 42 = .ok (.iconst 0, 1) := by decide +kernel
theorem dX9_sees_43 : decode cX9_sees 43 = .ok (.ireturn, 1) := by decide +kernel
theorem dX9_sees_44 : decode cX9_sees 44 = .ok (.iload_n 1, 1) := by decide +kernel
theorem dX9_sees_45 : decode cX9_sees 45 = .ok (.iload_n 2, 1) := by decide +kernel
theorem dX9_sees_46 : decode cX9_sees 46 = .ok (.if_icmp .ge 7, 3) := by decide +kernel
theorem dX9_sees_49 : decode cX9_sees 49 = .ok (.iload_n 1, 1) := by decide +kernel
theorem dX9_sees_50 : decode cX9_sees 50 = .ok (.goto 4, 3) := by decide +kernel
theorem dX9_sees_53 : decode cX9_sees 53 = .ok (.iload_n 2, 1) := by decide +kernel
theorem dX9_sees_54 : decode cX9_sees 54 = .ok (.istore_n 3, 1) := by decide +kernel
theorem dX9_sees_55 : decode cX9_sees 55 = .ok (.iload_n 1, 1) := by decide +kernel
theorem dX9_sees_56 : decode cX9_sees 56 = .ok (.iload_n 2, 1) := by decide +kernel
theorem dX9_sees_57 : decode cX9_sees 57 = .ok (.if_icmp .ge 7, 3) := by decide +kernel
theorem dX9_sees_60 : decode cX9_sees 60 = .ok (.iload_n 2, 1) := by decide +kernel
theorem dX9_sees_61 : decode cX9_sees 61 = .ok (.goto 4, 3) := by decide +kernel
theorem dX9_sees_64 : decode cX9_sees 64 = .ok (.iload_n 1, 1) := by decide +kernel
theorem dX9_sees_65 : decode cX9_sees 65 = .ok (.istore 4, 2) := by decide +kernel
theorem dX9_sees_67 : decode cX9_sees 67 = .ok (.iload_n 3, 1) := by decide +kernel
theorem dX9_sees_68 : decode cX9_sees 68 = .ok (.bipush 6, 2) := by decide +kernel
theorem dX9_sees_70 : decode cX9_sees 70 = .ok (.idiv, 1) := by decide +kernel
theorem dX9_sees_71 : decode cX9_sees 71 = .ok (.iload 4, 2) := by decide +kernel
theorem dX9_sees_73 : decode cX9_sees 73 = .ok (.bipush 6, 2) := by decide +kernel
theorem dX9_sees_75 : decode cX9_sees 75 = .ok (.idiv, 1) := by decide +kernel
theorem dX9_sees_76 : decode cX9_sees 76 = .ok (.if_icmp .ne 7, 3) := by decide +kernel
theorem dX9_sees_79 : decode cX9_sees 79 = .ok (.iconst 1, 1) := by decide +kernel
theorem dX9_sees_80 : decode cX9_sees 80 = .ok (.goto 5, 3) := by decide +kernel
theorem dX9_sees_83 : decode cX9_sees 83 = .ok (.bipush 6, 2) := by decide +kernel
theorem dX9_sees_85 : decode cX9_sees 85 = .ok (.istore 5, 2) := by decide +kernel
theorem dX9_sees_87 : decode cX9_sees 87 = .ok (.iload_n 3, 1) := by decide +kernel
theorem dX9_sees_88 : decode cX9_sees 88 = .ok (.iload 5, 2) := by decide +kernel
theorem dX9_sees_90 : decode cX9_sees 90 = .ok (.iadd, 1) := by decide +kernel
theorem dX9_sees_91 : decode cX9_sees 91 = .ok (.istore 6, 2) := by decide +kernel
theorem dX9_sees_93 : decode cX9_sees 93 = .ok (.iload 6, 2) := by decide +kernel
theorem dX9_sees_95 : decode cX9_sees 95 = .ok (.iload 4, 2) := by decide +kernel
theorem dX9_sees_97 : decode cX9_sees 97 = .ok (.if_icmp .ge 26, 3) := by decide +kernel
theorem dX9_sees_100 : decode cX9_sees 100 = .ok (.aload_n 0, 1) := by decide +kernel
theorem dX9_sees_101 : decode cX9_sees 101 = .ok (.getfield 47, 3) := by decide +kernel
theorem dX9_sees_104 : decode cX9_sees 104 = .ok (.iload 6, 2) := by decide +kernel
theorem dX9_sees_106 : decode cX9_sees 106 = .ok (.iaload, 1) := by decide +kernel
theorem dX9_sees_107 : decode cX9_sees 107 = .ok (.iconst 1, 1) := by decide +kernel
theorem dX9_sees_108 : decode cX9_sees 108 = .ok (.if_icmp .ne 5, 3) := by decide +kernel
theorem dX9_sees_111 : decode cX9_sees 111 = .ok (.iconst 0, 1) := by decide +kernel
theorem dX9_sees_112 : decode cX9_sees 112 = .ok (.ireturn, 1) := by decide +kernel
theorem dX9_sees_113 : decode cX9_sees 113 = .ok (.iload 6, 2) := by decide +kernel
theorem dX9_sees_115 : decode cX9_sees 115 = .ok (.iload 5, 2) := by decide +kernel
theorem dX9_sees_117 : decode cX9_sees 117 = .ok (.iadd, 1) := by decide +kernel
theorem dX9_sees_118 : decode cX9_sees 118 = .ok (.istore 6, 2) := by decide +kernel
theorem dX9_sees_120 : decode cX9_sees 120 = .ok (.goto (-27), 3) := by decide +kernel
theorem dX9_sees_123 : decode cX9_sees 123 = .ok (.iconst 1, 1) := by decide +kernel
theorem dX9_sees_124 : decode cX9_sees 124 = .ok (.ireturn, 1) := by decide +kernel
theorem dX9_isLit_0 : decode cX9_isLit 0 = .ok (.iconst 0, 1) := by decide +kernel
theorem dX9_isLit_1 : decode cX9_isLit 1 = .ok (.istore_n 2, 1) := by decide +kernel
theorem dX9_isLit_2 : decode cX9_isLit 2 = .ok (.iload_n 2, 1) := by decide +kernel
theorem dX9_isLit_3 : decode cX9_isLit 3 = .ok (.bipush 36, 2) := by decide +kernel
theorem dX9_isLit_5 : decode cX9_isLit 5 = .ok (.if_icmp .ge 30, 3) := by decide +kernel
theorem dX9_isLit_8 : decode cX9_isLit 8 = .ok (.aload_n 0, 1) := by decide +kernel
theorem dX9_isLit_9 : decode cX9_isLit 9 = .ok (.getfield 50, 3) := by decide +kernel
theorem dX9_isLit_12 : decode cX9_isLit 12 = .ok (.iload_n 2, 1) := by decide +kernel
theorem dX9_isLit_13 : decode cX9_isLit 13 = .ok (.iaload, 1) := by decide +kernel
theorem dX9_isLit_14 : decode cX9_isLit 14 = .ok (.iconst 1, 1) := by decide +kernel
theorem dX9_isLit_15 : decode cX9_isLit 15 = .ok (.if_icmp .ne 14, 3) := by decide +kernel
theorem dX9_isLit_18 : decode cX9_isLit 18 = .ok (.aload_n 0, 1) := by decide +kernel
theorem dX9_isLit_19 : decode cX9_isLit 19 = .ok (.iload_n 2, 1) := by decide +kernel
theorem dX9_isLit_20 : decode cX9_isLit 20 = .ok (.iload_n 1, 1) := by decide +kernel
theorem dX9_isLit_21 : decode cX9_isLit 21 = .ok (.invokevirtual 209, 3) := by decide +kernel
theorem dX9_isLit_24 : decode cX9_isLit 24 = .ok (.ifCond .eq 5, 3) := by decide +kernel
theorem dX9_isLit_27 : decode cX9_isLit 27 = .ok (.iconst 1, 1) := by decide +kernel
theorem dX9_isLit_28 : decode cX9_isLit 28 = .ok (.ireturn, 1) := by decide +kernel
theorem dX9_isLit_29 : decode cX9_isLit 29 = .ok (.iinc 2 1, 3) := by decide +kernel
theorem dX9_isLit_32 : decode cX9_isLit 32 = .ok (.goto (-30), 3) := by decide +kernel
theorem dX9_isLit_35 : decode cX9_isLit 35 = .ok (.iconst 0, 1) := by decide +kernel
theorem dX9_isLit_36 : decode cX9_isLit 36 = .ok (.ireturn, 1) := by decide +kernel
theorem dX9_shows_0 : decode cX9_shows 0 = .ok (.aload_n 0, 1) := by decide +kernel
theorem dX9_shows_1 : decode cX9_shows 1 = .ok (.getfield 44, 3) := by decide +kernel
theorem dX9_shows_4 : decode cX9_shows 4 = .ok (.iload_n 1, 1) := by decide +kernel
theorem dX9_shows_5 : decode cX9_shows 5 = .ok (.iaload, 1) := by decide +kernel
theorem dX9_shows_6 : decode cX9_shows 6 = .ok (.iconst 1, 1) := by decide +kernel
theorem dX9_shows_7 : decode cX9_shows 7 = .ok (.if_icmp .ne 5, 3) := by decide +kernel
theorem dX9_shows_10 : decode cX9_shows 10 = .ok (.iconst 0, 1) := by decide +kernel
theorem dX9_shows_11 : decode cX9_shows 11 = .ok (.ireturn, 1) := by decide +kernel
theorem dX9_shows_12 : decode cX9_shows 12 = .ok (.aload_n 0, 1) := by decide +kernel
theorem dX9_shows_13 : decode cX9_shows 13 = .ok (.getfield 32, 3) := by decide +kernel
theorem dX9_shows_16 : decode cX9_shows 16 = .ok (.iload_n 1, 1) := by decide +kernel
theorem dX9_shows_17 : decode cX9_shows 17 = .ok (.iaload, 1) := by decide +kernel
theorem dX9_shows_18 : decode cX9_shows 18 = .ok (.istore_n 2, 1) := by decide +kernel
theorem dX9_shows_19 : decode cX9_shows 19 = .ok (.aload_n 0, 1) := by decide +kernel
theorem dX9_shows_20 : decode cX9_shows 20 = .ok (.getfield 26, 3) := by decide +kernel
theorem dX9_shows_23 : decode cX9_shows 23 = .ok (.iload_n 1, 1) := by decide +kernel
theorem dX9_shows_24 : decode cX9_shows 24 = .ok (.iaload, 1) := by decide +kernel
theorem dX9_shows_25 : decode cX9_shows 25 = .ok (.iconst 1, 1) := by decide +kernel
theorem dX9_shows_26 : decode cX9_shows 26 = .ok (.if_icmp .eq 13, 3) := by decide +kernel
theorem dX9_shows_29 : decode cX9_shows 29 = .ok (.aload_n 0, 1) := by decide +kernel
theorem dX9_shows_30 : decode cX9_shows 30 = .ok (.getfield 26, 3) := by decide +kernel
theorem dX9_shows_33 : decode cX9_shows 33 = .ok (.iload_n 1, 1) := by decide +kernel
theorem dX9_shows_34 : decode cX9_shows 34 = .ok (.iaload, 1) := by decide +kernel
theorem dX9_shows_35 : decode cX9_shows 35 = .ok (.iconst 2, 1) := by decide +kernel
theorem dX9_shows_36 : decode cX9_shows 36 = .ok (.if_icmp .ne 7, 3) := by decide +kernel
theorem dX9_shows_39 : decode cX9_shows 39 = .ok (.iload_n 2, 1) := by decide +kernel
theorem dX9_shows_40 : decode cX9_shows 40 = .ok (.iconst 2, 1) := by decide +kernel
theorem dX9_shows_41 : decode cX9_shows 41 = .ok (.imul, 1) := by decide +kernel
theorem dX9_shows_42 : decode cX9_shows 42 = .ok (.istore_n 2, 1) := by decide +kernel
theorem dX9_shows_43 : decode cX9_shows 43 = .ok (.aload_n 0, 1) := by decide +kernel
theorem dX9_shows_44 : decode cX9_shows 44 = .ok (.getfield 26, 3) := by decide +kernel
theorem dX9_shows_47 : decode cX9_shows 47 = .ok (.iload_n 1, 1) := by decide +kernel
theorem dX9_shows_48 : decode cX9_shows 48 = .ok (.iaload, 1) := by decide +kernel
theorem dX9_shows_49 : decode cX9_shows 49 = .ok (.iconst 2, 1) := by decide +kernel
theorem dX9_shows_50 : decode cX9_shows 50 = .ok (.if_icmp .ne 12, 3) := by decide +kernel
theorem dX9_shows_53 : decode cX9_shows 53 = .ok (.iload_n 2, 1) := by decide +kernel
theorem dX9_shows_54 : decode cX9_shows 54 = .ok (.aload_n 0, 1) := by decide +kernel
theorem dX9_shows_55 : decode cX9_shows 55 = .ok (.getfield 29, 3) := by decide +kernel
theorem dX9_shows_58 : decode cX9_shows 58 = .ok (.iload_n 1, 1) := by decide +kernel
theorem dX9_shows_59 : decode cX9_shows 59 = .ok (.iaload, 1) := by decide +kernel
theorem dX9_shows_60 : decode cX9_shows 60 = .ok (.iadd, 1) := by decide +kernel
theorem dX9_shows_61 : decode cX9_shows 61 = .ok (.istore_n 2, 1) := by decide +kernel
theorem dX9_shows_62 : decode cX9_shows 62 = .ok (.aload_n 0, 1) := by decide +kernel
theorem dX9_shows_63 : decode cX9_shows 63 = .ok (.getfield 26, 3) := by decide +kernel
theorem dX9_shows_66 : decode cX9_shows 66 = .ok (.iload_n 1, 1) := by decide +kernel
theorem dX9_shows_67 : decode cX9_shows 67 = .ok (.iaload, 1) := by decide +kernel
theorem dX9_shows_68 : decode cX9_shows 68 = .ok (.bipush 6, 2) := by decide +kernel
theorem dX9_shows_70 : decode cX9_shows 70 = .ok (.if_icmp .ne 26, 3) := by decide +kernel
theorem dX9_shows_73 : decode cX9_shows 73 = .ok (.iload_n 2, 1) := by decide +kernel
theorem dX9_shows_74 : decode cX9_shows 74 = .ok (.aload_n 0, 1) := by decide +kernel
theorem dX9_shows_75 : decode cX9_shows 75 = .ok (.getfield 35, 3) := by decide +kernel
theorem dX9_shows_78 : decode cX9_shows 78 = .ok (.iload_n 1, 1) := by decide +kernel
theorem dX9_shows_79 : decode cX9_shows 79 = .ok (.iaload, 1) := by decide +kernel
theorem dX9_shows_80 : decode cX9_shows 80 = .ok (.if_icmp .le 14, 3) := by decide +kernel
theorem dX9_shows_83 : decode cX9_shows 83 = .ok (.iload_n 2, 1) := by decide +kernel
theorem dX9_shows_84 : decode cX9_shows 84 = .ok (.aload_n 0, 1) := by decide +kernel
theorem dX9_shows_85 : decode cX9_shows 85 = .ok (.getfield 35, 3) := by decide +kernel
theorem dX9_shows_88 : decode cX9_shows 88 = .ok (.iload_n 1, 1) := by decide +kernel
theorem dX9_shows_89 : decode cX9_shows 89 = .ok (.iaload, 1) := by decide +kernel
theorem dX9_shows_90 : decode cX9_shows 90 = .ok (.isub, 1) := by decide +kernel
theorem dX9_shows_91 : decode cX9_shows 91 = .ok (.goto 4, 3) := by decide +kernel
theorem dX9_shows_94 : decode cX9_shows 94 = .ok (.iconst 0, 1) := by decide +kernel
theorem dX9_shows_95 : decode cX9_shows 95 = .ok (.istore_n 2, 1) := by decide +kernel
theorem dX9_shows_96 : decode cX9_shows 96 = .ok (.aload_n 0, 1) := by decide +kernel
theorem dX9_shows_97 : decode cX9_shows 97 = .ok (.getfield 139, 3) := by decide +kernel
theorem dX9_shows_100 : decode cX9_shows 100 = .ok (.iconst 1, 1) := by decide +kernel
theorem dX9_shows_101 : decode cX9_shows 101 = .ok (.if_icmp .ne 9, 3) := by decide +kernel
theorem dX9_shows_104 : decode cX9_shows 104 = .ok (.iload_n 2, 1) := by decide +kernel
theorem dX9_shows_105 : decode cX9_shows 105 = .ok (.iconst 2, 1) := by decide +kernel
theorem dX9_shows_106 : decode cX9_shows 106 = .ok (.idiv, 1) := by decide +kernel
theorem dX9_shows_107 : decode cX9_shows 107 = .ok (.goto 4, 3) := by decide +kernel
theorem dX9_shows_110 : decode cX9_shows 110 = .ok (.iload_n 2, 1) := by decide +kernel
theorem dX9_shows_111 : decode cX9_shows 111 = .ok (.ireturn, 1) := by decide +kernel
theorem dX9_would_0 : decode cX9_would 0 = .ok (.iload_n 1, 1) := by decide +kernel
theorem dX9_would_1 : decode cX9_would 1 = .ok (.iload_n 2, 1) := by decide +kernel
theorem dX9_would_2 : decode cX9_would 2 = .ok (.if_icmp .eq 39, 3) := by decide +kernel
theorem dX9_would_5 : decode cX9_would 5 = .ok (.iload_n 1, 1) := by decide +kernel
theorem dX9_would_6 : decode cX9_would 6 = .ok (.aload_n 0, 1) := by decide +kernel
theorem dX9_would_7 : decode cX9_would 7 = .ok (.getfield 93, 3) := by decide +kernel
theorem dX9_would_10 : decode cX9_would 10 = .ok (.if_icmp .eq 31, 3) := by decide +kernel
theorem dX9_would_13 : decode cX9_would 13 = .ok (.iload_n 2, 1) := by decide +kernel
theorem dX9_would_14 : decode cX9_would 14 = .ok (.aload_n 0, 1) := by decide +kernel
theorem dX9_would_15 : decode cX9_would 15 = .ok (.getfield 93, 3) := by decide +kernel
theorem dX9_would_18 : decode cX9_would 18 = .ok (.if_icmp .eq 23, 3) := by decide +kernel
theorem dX9_would_21 : decode cX9_would 21 = .ok (.aload_n 0, 1) := by decide +kernel
theorem dX9_would_22 : decode cX9_would 22 = .ok (.getfield 26, 3) := by decide +kernel
theorem dX9_would_25 : decode cX9_would 25 = .ok (.iload_n 1, 1) := by decide +kernel
theorem dX9_would_26 : decode cX9_would 26 = .ok (.iaload, 1) := by decide +kernel
theorem dX9_would_27 : decode cX9_would 27 = .ok (.iconst 3, 1) := by decide +kernel
theorem dX9_would_28 : decode cX9_would 28 = .ok (.if_icmp .eq 13, 3) := by decide +kernel
theorem dX9_would_31 : decode cX9_would 31 = .ok (.aload_n 0, 1) := by decide +kernel
theorem dX9_would_32 : decode cX9_would 32 = .ok (.getfield 26, 3) := by decide +kernel
theorem dX9_would_35 : decode cX9_would 35 = .ok (.iload_n 1, 1) := by decide +kernel
theorem dX9_would_36 : decode cX9_would 36 = .ok (.iaload, 1) := by decide +kernel
theorem dX9_would_37 : decode cX9_would 37 = .ok (.iconst 5, 1) := by decide +kernel
theorem dX9_would_38 : decode cX9_would 38 = .ok (.if_icmp .ne 5, 3) := by decide +kernel
theorem dX9_would_41 : decode cX9_would 41 = .ok (.iconst 0, 1) := by decide +kernel
theorem dX9_would_42 : decode cX9_would 42 = .ok (.ireturn, 1) := by decide +kernel
theorem dX9_would_43 : decode cX9_would 43 = .ok (.aload_n 0, 1) := by decide +kernel
theorem dX9_would_44 : decode cX9_would 44 = .ok (.aload_n 0, 1) := by decide +kernel
theorem dX9_would_45 : decode cX9_would 45 = .ok (.getfield 41, 3) := by decide +kernel
theorem dX9_would_48 : decode cX9_would 48 = .ok (.iload_n 1, 1) := by decide +kernel
theorem dX9_would_49 : decode cX9_would 49 = .ok (.iaload, 1) := by decide +kernel
theorem dX9_would_50 : decode cX9_would 50 = .ok (.aload_n 0, 1) := by decide +kernel
theorem dX9_would_51 : decode cX9_would 51 = .ok (.getfield 41, 3) := by decide +kernel
theorem dX9_would_54 : decode cX9_would 54 = .ok (.iload_n 2, 1) := by decide +kernel
theorem dX9_would_55 : decode cX9_would 55 = .ok (.iaload, 1) := by decide +kernel
theorem dX9_would_56 : decode cX9_would 56 = .ok (.invokevirtual 209, 3) := by decide +kernel
theorem dX9_would_59 : decode cX9_would 59 = .ok (.ifCond .eq 38, 3) := by decide +kernel
theorem dX9_would_62 : decode cX9_would 62 = .ok (.aload_n 0, 1) := by decide +kernel
theorem dX9_would_63 : decode cX9_would 63 = .ok (.iload_n 2, 1) := by decide +kernel
theorem dX9_would_64 : decode cX9_would 64 = .ok (.invokevirtual 122, 3) := by decide +kernel
theorem dX9_would_67 : decode cX9_would 67 = .ok (.aload_n 0, 1) := by decide +kernel
theorem dX9_would_68 : decode cX9_would 68 = .ok (.getfield 35, 3) := by decide +kernel
theorem dX9_would_71 : decode cX9_would 71 = .ok (.iload_n 1, 1) := by decide +kernel
theorem dX9_would_72 : decode cX9_would 72 = .ok (.iaload, 1) := by decide +kernel
theorem dX9_would_73 : decode cX9_would 73 = .ok (.aload_n 0, 1) := by decide +kernel
theorem dX9_would_74 : decode cX9_would 74 = .ok (.aload_n 0, 1) := by decide +kernel
theorem dX9_would_75 : decode cX9_would 75 = .ok (.getfield 41, 3) := by decide +kernel
theorem dX9_would_78 : decode cX9_would 78 = .ok (.iload_n 1, 1) := by decide +kernel
theorem dX9_would_79 : decode cX9_would 79 = .ok (.iaload, 1) := by decide +kernel
theorem dX9_would_80 : decode cX9_would 80 = .ok (.aload_n 0, 1) := by decide +kernel
theorem dX9_would_81 : decode cX9_would 81 = .ok (.getfield 41, 3) := by decide +kernel
theorem dX9_would_84 : decode cX9_would 84 = .ok (.iload_n 2, 1) := by decide +kernel
theorem dX9_would_85 : decode cX9_would 85 = .ok (.iaload, 1) := by decide +kernel
theorem dX9_would_86 : decode cX9_would 86 = .ok (.invokevirtual 205, 3) := by decide +kernel
theorem dX9_would_89 : decode cX9_would 89 = .ok (.iadd, 1) := by decide +kernel
theorem dX9_would_90 : decode cX9_would 90 = .ok (.if_icmp .le 7, 3) := by decide +kernel
theorem dX9_would_93 : decode cX9_would 93 = .ok (.iconst 1, 1) := by decide +kernel
theorem dX9_would_94 : decode cX9_would 94 = .ok (.goto 4, 3) := by decide +kernel
theorem dX9_would_97 : decode cX9_would 97 = .ok (.iconst 0, 1) := by decide +kernel
theorem dX9_would_98 : decode cX9_would 98 = .ok (.ireturn, 1) := by decide +kernel
theorem dX9_lookedAt_0 : decode cX9_lookedAt 0 = .ok (.iconst 0, 1) := by decide +kernel
theorem dX9_lookedAt_1 : decode cX9_lookedAt 1 = .ok (.istore_n 2, 1) := by decide +kernel
theorem dX9_lookedAt_2 : decode cX9_lookedAt 2 = .ok (.iconst (-1), 1) := by decide +kernel
theorem dX9_lookedAt_3 : decode cX9_lookedAt 3 = .ok (.istore_n 3, 1) := by decide +kernel
theorem dX9_lookedAt_4 : decode cX9_lookedAt 4 = .ok (.iconst 0, 1) := by decide +kernel
theorem dX9_lookedAt_5 : decode cX9_lookedAt 5 = .ok (.istore 4, 2) := by decide +kernel
theorem dX9_lookedAt_7 : decode cX9_lookedAt 7 = .ok (.iload 4, 2) := by decide +kernel
theorem dX9_lookedAt_9 : decode cX9_lookedAt 9 = .ok (.aload_n 0, 1) := by decide +kernel
theorem dX9_lookedAt_10 : decode cX9_lookedAt 10 = .ok (.getfield 108, 3) := by decide +kernel
theorem dX9_lookedAt_13 : decode cX9_lookedAt 13 = .ok (.if_icmp .ge 101, 3) := by decide +kernel
theorem dX9_lookedAt_16 : decode cX9_lookedAt 16 = .ok (.aload_n 0, 1) := by decide +kernel
theorem dX9_lookedAt_17 : decode cX9_lookedAt 17 = .ok (.iload_n 1, 1) := by decide +kernel
theorem dX9_lookedAt_18 : decode cX9_lookedAt 18 = .ok (.iload 4, 2) := by decide +kernel
theorem dX9_lookedAt_20 : decode cX9_lookedAt 20 = .ok (.invokevirtual 212, 3) := by decide +kernel
theorem dX9_lookedAt_23 : decode cX9_lookedAt 23 = .ok (.ifCond .ne 6, 3) := by decide +kernel
theorem dX9_lookedAt_26 : decode cX9_lookedAt 26 = .ok (.goto 82, 3) := by decide +kernel
theorem dX9_lookedAt_29 : decode cX9_lookedAt 29 = .ok (.iload_n 2, 1) := by decide +kernel
theorem dX9_lookedAt_30 : decode cX9_lookedAt 30 = .ok (.iconst 1, 1) := by decide +kernel
theorem dX9_lookedAt_31 : decode cX9_lookedAt 31 = .ok (.iload 4, 2) := by decide +kernel
theorem dX9_lookedAt_33 : decode cX9_lookedAt 33 = .ok (.ishl, 1) := by decide +kernel
theorem dX9_lookedAt_34 : decode cX9_lookedAt 34 = .ok (.iadd, 1) := by decide +kernel
theorem dX9_lookedAt_35 : decode cX9_lookedAt 35 = .ok (.istore_n 2, 1) := by decide +kernel
theorem dX9_lookedAt_36 : decode cX9_lookedAt 36 = .ok (.iload_n 3, 1) := by decide +kernel
theorem dX9_lookedAt_37 : decode cX9_lookedAt 37 = .ok (.iconst (-1), 1) := by decide +kernel
theorem dX9_lookedAt_38 : decode cX9_lookedAt 38 = .ok (.if_icmp .ne 7, 3) := by decide +kernel
theorem dX9_lookedAt_41 : decode cX9_lookedAt 41 = .ok (.iconst 1, 1) := by decide +kernel
theorem dX9_lookedAt_42 : decode cX9_lookedAt 42 = .ok (.goto 37, 3) := by decide +kernel
theorem dX9_lookedAt_45 : decode cX9_lookedAt 45 = .ok (.aload_n 0, 1) := by decide +kernel
theorem dX9_lookedAt_46 : decode cX9_lookedAt 46 = .ok (.aload_n 0, 1) := by decide +kernel
theorem dX9_lookedAt_47 : decode cX9_lookedAt 47 = .ok (.getfield 41, 3) := by decide +kernel
theorem dX9_lookedAt_50 : decode cX9_lookedAt 50 = .ok (.iload_n 1, 1) := by decide +kernel
theorem dX9_lookedAt_51 : decode cX9_lookedAt 51 = .ok (.iaload, 1) := by decide +kernel
theorem dX9_lookedAt_52 : decode cX9_lookedAt 52 = .ok (.aload_n 0, 1) := by decide +kernel
theorem dX9_lookedAt_53 : decode cX9_lookedAt 53 = .ok (.getfield 41, 3) := by decide +kernel
theorem dX9_lookedAt_56 : decode cX9_lookedAt 56 = .ok (.iload_n 3, 1) := by decide +kernel
theorem dX9_lookedAt_57 : decode cX9_lookedAt 57 = .ok (.iaload, 1) := by decide +kernel
theorem dX9_lookedAt_58 : decode cX9_lookedAt 58 = .ok (.invokevirtual 205, 3) := by decide +kernel
theorem dX9_lookedAt_61 : decode cX9_lookedAt 61 = .ok (.aload_n 0, 1) := by decide +kernel
theorem dX9_lookedAt_62 : decode cX9_lookedAt 62 = .ok (.aload_n 0, 1) := by decide +kernel
theorem dX9_lookedAt_63 : decode cX9_lookedAt 63 = .ok (.getfield 41, 3) := by decide +kernel
theorem dX9_lookedAt_66 : decode cX9_lookedAt 66 = .ok (.iload_n 1, 1) := by decide +kernel
theorem dX9_lookedAt_67 : decode cX9_lookedAt 67 = .ok (.iaload, 1) := by decide +kernel
theorem dX9_lookedAt_68 : decode cX9_lookedAt 68 = .ok (.aload_n 0, 1) := by decide +kernel
theorem dX9_lookedAt_69 : decode cX9_lookedAt 69 = .ok (.getfield 41, 3) := by decide +kernel
theorem dX9_lookedAt_72 : decode cX9_lookedAt 72 = .ok (.iload 4, 2) := by decide +kernel
theorem dX9_lookedAt_74 : decode cX9_lookedAt 74 = .ok (.iaload, 1) := by decide +kernel
theorem dX9_lookedAt_75 : decode cX9_lookedAt 75 = .ok (.invokevirtual 205, 3) := by decide +kernel
theorem dX9_lookedAt_78 : decode cX9_lookedAt 78 = .ok (.isub, 1) := by decide +kernel
theorem dX9_lookedAt_79 : decode cX9_lookedAt 79 = .ok (.istore 5, 2) := by decide +kernel
theorem dX9_lookedAt_81 : decode cX9_lookedAt 81 = .ok (.iload 5, 2) := by decide +kernel
theorem dX9_lookedAt_83 : decode cX9_lookedAt 83 = .ok (.ifCond .gt 22, 3) := by decide +kernel
theorem dX9_lookedAt_86 : decode cX9_lookedAt 86 = .ok (.iload 5, 2) := by decide +kernel
theorem dX9_lookedAt_88 : decode cX9_lookedAt 88 = .ok (.ifCond .ne 20, 3) := by decide +kernel
theorem dX9_lookedAt_91 : decode cX9_lookedAt 91 = .ok (.aload_n 0, 1) := by decide +kernel
theorem dX9_lookedAt_92 : decode cX9_lookedAt 92 = .ok (.iload 4, 2) := by decide +kernel
theorem dX9_lookedAt_94 : decode cX9_lookedAt 94 = .ok (.invokevirtual 122, 3) := by decide +kernel
theorem dX9_lookedAt_97 : decode cX9_lookedAt 97 = .ok (.aload_n 0, 1) := by decide +kernel
theorem dX9_lookedAt_98 : decode cX9_lookedAt 98 = .ok (.iload_n 3, 1) := by decide +kernel
theorem dX9_lookedAt_99 : decode cX9_lookedAt 99 = .ok (.invokevirtual 122, 3) := by decide +kernel
theorem dX9_lookedAt_102 : decode cX9_lookedAt 102 = .ok (.if_icmp .le 6, 3) := by decide +kernel
theorem dX9_lookedAt_105 : decode cX9_lookedAt 105 = .ok (.iload 4, 2) := by decide +kernel
theorem dX9_lookedAt_107 : decode cX9_lookedAt 107 = .ok (.istore_n 3, 1) := by decide +kernel
theorem dX9_lookedAt_108 : decode cX9_lookedAt 108 = .ok (.iinc 4 1, 3) := by decide +kernel
theorem dX9_lookedAt_111 : decode cX9_lookedAt 111 = .ok (.goto (-104), 3) := by decide +kernel
theorem dX9_lookedAt_114 : decode cX9_lookedAt 114 = .ok (.aload_n 0, 1) := by decide +kernel
theorem dX9_lookedAt_115 : decode cX9_lookedAt 115 = .ok (.getfield 26, 3) := by decide +kernel
theorem dX9_lookedAt_118 : decode cX9_lookedAt 118 = .ok (.iload_n 1, 1) := by decide +kernel
theorem dX9_lookedAt_119 : decode cX9_lookedAt 119 = .ok (.iaload, 1) := by decide +kernel
theorem dX9_lookedAt_120 : decode cX9_lookedAt 120 = .ok (.iconst 4, 1) := by decide +kernel
theorem dX9_lookedAt_121 : decode cX9_lookedAt 121 = .ok (.if_icmp .eq 16, 3) := by decide +kernel
theorem dX9_lookedAt_124 : decode cX9_lookedAt 124 = .ok (.aload_n 0, 1) := by decide +kernel
theorem dX9_lookedAt_125 : decode cX9_lookedAt 125 = .ok (.getfield 26, 3) := by decide +kernel
theorem dX9_lookedAt_128 : decode cX9_lookedAt 128 = .ok (.iload_n 1, 1) := by decide +kernel
theorem dX9_lookedAt_129 : decode cX9_lookedAt 129 = .ok (.iaload, 1) := by decide +kernel
theorem dX9_lookedAt_130 : decode cX9_lookedAt 130 = .ok (.bipush 6, 2) := by decide +kernel
theorem dX9_lookedAt_132 : decode cX9_lookedAt 132 = .ok (.if_icmp .eq 5, 3) := by decide +kernel
theorem dX9_lookedAt_135 : decode cX9_lookedAt 135 = .ok (.iload_n 2, 1) := by decide +kernel
theorem dX9_lookedAt_136 : decode cX9_lookedAt 136 = .ok (.ireturn, 1) := by decide +kernel
theorem dX9_lookedAt_137 : decode cX9_lookedAt 137 = .ok (.iload_n 3, 1) := by decide +kernel
theorem dX9_lookedAt_138 : decode cX9_lookedAt 138 = .ok (.iconst (-1), 1) := by decide +kernel
theorem dX9_lookedAt_139 : decode cX9_lookedAt 139 = .ok (.if_icmp .ne 7, 3) := by decide +kernel
theorem dX9_lookedAt_142 : decode cX9_lookedAt 142 = .ok (.iconst 0, 1) := by decide +kernel
theorem dX9_lookedAt_143 : decode cX9_lookedAt 143 = .ok (.goto 6, 3) := by decide +kernel
theorem dX9_lookedAt_146 : decode cX9_lookedAt 146 = .ok (.iconst 1, 1) := by decide +kernel
theorem dX9_lookedAt_147 : decode cX9_lookedAt 147 = .ok (.iload_n 3, 1) := by decide +kernel
theorem dX9_lookedAt_148 : decode cX9_lookedAt 148 = .ok (.ishl, 1) := by decide +kernel
theorem dX9_lookedAt_149 : decode cX9_lookedAt 149 = .ok (.ireturn, 1) := by decide +kernel
theorem dX9_lookers_0 : decode cX9_lookers 0 = .ok (.iconst 0, 1) := by decide +kernel
theorem dX9_lookers_1 : decode cX9_lookers 1 = .ok (.istore_n 2, 1) := by decide +kernel
theorem dX9_lookers_2 : decode cX9_lookers 2 = .ok (.iconst 0, 1) := by decide +kernel
theorem dX9_lookers_3 : decode cX9_lookers 3 = .ok (.istore_n 3, 1) := by decide +kernel
theorem dX9_lookers_4 : decode cX9_lookers 4 = .ok (.iload_n 3, 1) := by decide +kernel
theorem dX9_lookers_5 : decode cX9_lookers 5 = .ok (.aload_n 0, 1) := by decide +kernel
theorem dX9_lookers_6 : decode cX9_lookers 6 = .ok (.getfield 108, 3) := by decide +kernel
theorem dX9_lookers_9 : decode cX9_lookers 9 = .ok (.if_icmp .ge 28, 3) := by decide +kernel
theorem dX9_lookers_12 : decode cX9_lookers 12 = .ok (.aload_n 0, 1) := by decide +kernel
theorem dX9_lookers_13 : decode cX9_lookers 13 = .ok (.iload_n 3, 1) := by decide +kernel
theorem dX9_lookers_14 : decode cX9_lookers 14 = .ok (.invokevirtual 215, 3) := by decide +kernel
theorem dX9_lookers_17 : decode cX9_lookers 17 = .ok (.iload_n 1, 1) := by decide +kernel
theorem dX9_lookers_18 : decode cX9_lookers 18 = .ok (.ishr, 1) := by decide +kernel
theorem dX9_lookers_19 : decode cX9_lookers 19 = .ok (.iconst 1, 1) := by decide +kernel
theorem dX9_lookers_20 : decode cX9_lookers 20 = .ok (.iand, 1) := by decide +kernel
theorem dX9_lookers_21 : decode cX9_lookers 21 = .ok (.iconst 1, 1) := by decide +kernel
theorem dX9_lookers_22 : decode cX9_lookers 22 = .ok (.if_icmp .ne 9, 3) := by decide +kernel
theorem dX9_lookers_25 : decode cX9_lookers 25 = .ok (.iload_n 2, 1) := by decide +kernel
theorem dX9_lookers_26 : decode cX9_lookers 26 = .ok (.iconst 1, 1) := by decide +kernel
theorem dX9_lookers_27 : decode cX9_lookers 27 = .ok (.iload_n 3, 1) := by decide +kernel
theorem dX9_lookers_28 : decode cX9_lookers 28 = .ok (.ishl, 1) := by decide +kernel
theorem dX9_lookers_29 : decode cX9_lookers 29 = .ok (.iadd, 1) := by decide +kernel
theorem dX9_lookers_30 : decode cX9_lookers 30 = .ok (.istore_n 2, 1) := by decide +kernel
theorem dX9_lookers_31 : decode cX9_lookers 31 = .ok (.iinc 3 1, 3) := by decide +kernel
theorem dX9_lookers_34 : decode cX9_lookers 34 = .ok (.goto (-30), 3) := by decide +kernel
theorem dX9_lookers_37 : decode cX9_lookers 37 = .ok (.iload_n 2, 1) := by decide +kernel
theorem dX9_lookers_38 : decode cX9_lookers 38 = .ok (.ireturn, 1) := by decide +kernel
theorem dX9_many_0 : decode cX9_many 0 = .ok (.iconst 0, 1) := by decide +kernel
theorem dX9_many_1 : decode cX9_many 1 = .ok (.istore_n 2, 1) := by decide +kernel
theorem dX9_many_2 : decode cX9_many 2 = .ok (.iconst 0, 1) := by decide +kernel
theorem dX9_many_3 : decode cX9_many 3 = .ok (.istore_n 3, 1) := by decide +kernel
theorem dX9_many_4 : decode cX9_many 4 = .ok (.iload_n 3, 1) := by decide +kernel
theorem dX9_many_5 : decode cX9_many 5 = .ok (.bipush 7, 2) := by decide +kernel
theorem dX9_many_7 : decode cX9_many 7 = .ok (.if_icmp .ge 17, 3) := by decide +kernel
theorem dX9_many_10 : decode cX9_many 10 = .ok (.iload_n 2, 1) := by decide +kernel
theorem dX9_many_11 : decode cX9_many 11 = .ok (.iload_n 1, 1) := by decide +kernel
theorem dX9_many_12 : decode cX9_many 12 = .ok (.iload_n 3, 1) := by decide +kernel
theorem dX9_many_13 : decode cX9_many 13 = .ok (.ishr, 1) := by decide +kernel
theorem dX9_many_14 : decode cX9_many 14 = .ok (.iconst 1, 1) := by decide +kernel
theorem dX9_many_15 : decode cX9_many 15 = .ok (.iand, 1) := by decide +kernel
theorem dX9_many_16 : decode cX9_many 16 = .ok (.iadd, 1) := by decide +kernel
theorem dX9_many_17 : decode cX9_many 17 = .ok (.istore_n 2, 1) := by decide +kernel
theorem dX9_many_18 : decode cX9_many 18 = .ok (.iinc 3 1, 3) := by decide +kernel
theorem dX9_many_21 : decode cX9_many 21 = .ok (.goto (-17), 3) := by decide +kernel
theorem dX9_many_24 : decode cX9_many 24 = .ok (.iload_n 2, 1) := by decide +kernel
theorem dX9_many_25 : decode cX9_many 25 = .ok (.ireturn, 1) := by decide +kernel
theorem dX9_owes_0 : decode cX9_owes 0 = .ok (.aload_n 0, 1) := by decide +kernel
theorem dX9_owes_1 : decode cX9_owes 1 = .ok (.getfield 26, 3) := by decide +kernel
theorem dX9_owes_4 : decode cX9_owes 4 = .ok (.iload_n 1, 1) := by decide +kernel
theorem dX9_owes_5 : decode cX9_owes 5 = .ok (.iaload, 1) := by decide +kernel
theorem dX9_owes_6 : decode cX9_owes 6 = .ok (.iconst 5, 1) := by decide +kernel
theorem dX9_owes_7 : decode cX9_owes 7 = .ok (.if_icmp .eq 24, 3) := by decide +kernel
theorem dX9_owes_10 : decode cX9_owes 10 = .ok (.iload_n 1, 1) := by decide +kernel
theorem dX9_owes_11 : decode cX9_owes 11 = .ok (.aload_n 0, 1) := by decide +kernel
theorem dX9_owes_12 : decode cX9_owes 12 = .ok (.getfield 93, 3) := by decide +kernel
theorem dX9_owes_15 : decode cX9_owes 15 = .ok (.if_icmp .eq 16, 3) := by decide +kernel
theorem dX9_owes_18 : decode cX9_owes 18 = .ok (.aload_n 0, 1) := by decide +kernel
theorem dX9_owes_19 : decode cX9_owes 19 = .ok (.aload_n 0, 1) := by decide +kernel
theorem dX9_owes_20 : decode cX9_owes 20 = .ok (.getfield 41, 3) := by decide +kernel
theorem dX9_owes_23 : decode cX9_owes 23 = .ok (.iload_n 1, 1) := by decide +kernel
theorem dX9_owes_24 : decode cX9_owes 24 = .ok (.iaload, 1) := by decide +kernel
theorem dX9_owes_25 : decode cX9_owes 25 = .ok (.invokevirtual 218, 3) := by decide +kernel
theorem dX9_owes_28 : decode cX9_owes 28 = .ok (.ifCond .ne 5, 3) := by decide +kernel
theorem dX9_owes_31 : decode cX9_owes 31 = .ok (.iconst 0, 1) := by decide +kernel
theorem dX9_owes_32 : decode cX9_owes 32 = .ok (.ireturn, 1) := by decide +kernel
theorem dX9_owes_33 : decode cX9_owes 33 = .ok (.aload_n 0, 1) := by decide +kernel
theorem dX9_owes_34 : decode cX9_owes 34 = .ok (.getfield 7, 3) := by decide +kernel
theorem dX9_owes_37 : decode cX9_owes 37 = .ok (.aload_n 0, 1) := by decide +kernel
theorem dX9_owes_38 : decode cX9_owes 38 = .ok (.aload_n 0, 1) := by decide +kernel
theorem dX9_owes_39 : decode cX9_owes 39 = .ok (.iload_n 1, 1) := by decide +kernel
theorem dX9_owes_40 : decode cX9_owes 40 = .ok (.invokevirtual 221, 3) := by decide +kernel
theorem dX9_owes_43 : decode cX9_owes 43 = .ok (.invokevirtual 224, 3) := by decide +kernel
theorem dX9_owes_46 : decode cX9_owes 46 = .ok (.imul, 1) := by decide +kernel
theorem dX9_owes_47 : decode cX9_owes 47 = .ok (.istore_n 2, 1) := by decide +kernel
theorem dX9_owes_48 : decode cX9_owes 48 = .ok (.aload_n 0, 1) := by decide +kernel
theorem dX9_owes_49 : decode cX9_owes 49 = .ok (.getfield 26, 3) := by decide +kernel
theorem dX9_owes_52 : decode cX9_owes 52 = .ok (.iload_n 1, 1) := by decide +kernel
theorem dX9_owes_53 : decode cX9_owes 53 = .ok (.iaload, 1) := by decide +kernel
theorem dX9_owes_54 : decode cX9_owes 54 = .ok (.iconst 2, 1) := by decide +kernel
theorem dX9_owes_55 : decode cX9_owes 55 = .ok (.if_icmp .ne 12, 3) := by decide +kernel
theorem dX9_owes_58 : decode cX9_owes 58 = .ok (.iload_n 2, 1) := by decide +kernel
theorem dX9_owes_59 : decode cX9_owes 59 = .ok (.iload_n 2, 1) := by decide +kernel
theorem dX9_owes_60 : decode cX9_owes 60 = .ok (.bipush 9, 2) := by decide +kernel
theorem dX9_owes_62 : decode cX9_owes 62 = .ok (.idiv, 1) := by decide +kernel
theorem dX9_owes_63 : decode cX9_owes 63 = .ok (.isub, 1) := by decide +kernel
theorem dX9_owes_64 : decode cX9_owes 64 = .ok (.goto 4, 3) := by decide +kernel
theorem dX9_owes_67 : decode cX9_owes 67 = .ok (.iload_n 2, 1) := by decide +kernel
theorem dX9_owes_68 : decode cX9_owes 68 = .ok (.ireturn, 1) := by decide +kernel
theorem dX9_wouldPay_0 : decode cX9_wouldPay 0 = .ok (.aload_n 0, 1) := by decide +kernel
theorem dX9_wouldPay_1 : decode cX9_wouldPay 1 = .ok (.iload_n 1, 1) := by decide +kernel
theorem dX9_wouldPay_2 : decode cX9_wouldPay 2 = .ok (.invokevirtual 215, 3) := by decide +kernel
theorem dX9_wouldPay_5 : decode cX9_wouldPay 5 = .ok (.istore_n 2, 1) := by decide +kernel
theorem dX9_wouldPay_6 : decode cX9_wouldPay 6 = .ok (.iconst 0, 1) := by decide +kernel
theorem dX9_wouldPay_7 : decode cX9_wouldPay 7 = .ok (.istore_n 3, 1) := by decide +kernel
theorem dX9_wouldPay_8 : decode cX9_wouldPay 8 = .ok (.iconst 0, 1) := by decide +kernel
theorem dX9_wouldPay_9 : decode cX9_wouldPay 9 = .ok (.istore 4, 2) := by decide +kernel
theorem dX9_wouldPay_11 : decode cX9_wouldPay 11 = .ok (.iload 4, 2) := by decide +kernel
theorem dX9_wouldPay_13 : decode cX9_wouldPay 13 = .ok (.aload_n 0, 1) := by decide +kernel
theorem dX9_wouldPay_14 : decode cX9_wouldPay 14 = .ok (.getfield 108, 3) := by decide +kernel
theorem dX9_wouldPay_17 : decode cX9_wouldPay 17 = .ok (.if_icmp .ge 36, 3) := by decide +kernel
theorem dX9_wouldPay_20 : decode cX9_wouldPay 20 = .ok (.iload_n 2, 1) := by decide +kernel
theorem dX9_wouldPay_21 : decode cX9_wouldPay 21 = .ok (.iload 4, 2) := by decide +kernel
theorem dX9_wouldPay_23 : decode cX9_wouldPay 23 = .ok (.ishr, 1) := by decide +kernel
theorem dX9_wouldPay_24 : decode cX9_wouldPay 24 = .ok (.iconst 1, 1) := by decide +kernel
theorem dX9_wouldPay_25 : decode cX9_wouldPay 25 = .ok (.iand, 1) := by decide +kernel
theorem dX9_wouldPay_26 : decode cX9_wouldPay 26 = .ok (.iconst 1, 1) := by decide +kernel
theorem dX9_wouldPay_27 : decode cX9_wouldPay 27 = .ok (.if_icmp .ne 20, 3) := by decide +kernel
theorem dX9_wouldPay_30 : decode cX9_wouldPay 30 = .ok (.aload_n 0, 1) := by decide +kernel
theorem dX9_wouldPay_31 : decode cX9_wouldPay 31 = .ok (.aload_n 0, 1) := by decide +kernel
theorem dX9_wouldPay_32 : decode cX9_wouldPay 32 = .ok (.getfield 41, 3) := by decide +kernel
theorem dX9_wouldPay_35 : decode cX9_wouldPay 35 = .ok (.iload 4, 2) := by decide +kernel
theorem dX9_wouldPay_37 : decode cX9_wouldPay 37 = .ok (.iaload, 1) := by decide +kernel
theorem dX9_wouldPay_38 : decode cX9_wouldPay 38 = .ok (.invokevirtual 218, 3) := by decide +kernel
theorem dX9_wouldPay_41 : decode cX9_wouldPay 41 = .ok (.ifCond .eq 6, 3) := by decide +kernel
theorem dX9_wouldPay_44 : decode cX9_wouldPay 44 = .ok (.iinc 3 1, 3) := by decide +kernel
theorem dX9_wouldPay_47 : decode cX9_wouldPay 47 = .ok (.iinc 4 1, 3) := by decide +kernel
theorem dX9_wouldPay_50 : decode cX9_wouldPay 50 = .ok (.goto (-39), 3) := by decide +kernel
theorem dX9_wouldPay_53 : decode cX9_wouldPay 53 = .ok (.aload_n 0, 1) := by decide +kernel
theorem dX9_wouldPay_54 : decode cX9_wouldPay 54 = .ok (.getfield 7, 3) := by decide +kernel
theorem dX9_wouldPay_57 : decode cX9_wouldPay 57 = .ok (.iload_n 3, 1) := by decide +kernel
theorem dX9_wouldPay_58 : decode cX9_wouldPay 58 = .ok (.imul, 1) := by decide +kernel
theorem dX9_wouldPay_59 : decode cX9_wouldPay 59 = .ok (.ireturn, 1) := by decide +kernel
theorem dX9_allDuties_0 : decode cX9_allDuties 0 = .ok (.iconst 0, 1) := by decide +kernel
theorem dX9_allDuties_1 : decode cX9_allDuties 1 = .ok (.istore_n 1, 1) := by decide +kernel
theorem dX9_allDuties_2 : decode cX9_allDuties 2 = .ok (.iconst 0, 1) := by decide +kernel
theorem dX9_allDuties_3 : decode cX9_allDuties 3 = .ok (.istore_n 2, 1) := by decide +kernel
theorem dX9_allDuties_4 : decode cX9_allDuties 4 = .ok (.iload_n 2, 1) := by decide +kernel
theorem dX9_allDuties_5 : decode cX9_allDuties 5 = .ok (.aload_n 0, 1) := by decide +kernel
theorem dX9_allDuties_6 : decode cX9_allDuties 6 = .ok (.getfield 108, 3) := by decide +kernel
theorem dX9_allDuties_9 : decode cX9_allDuties 9 = .ok (.if_icmp .ge 17, 3) := by decide +kernel
theorem dX9_allDuties_12 : decode cX9_allDuties 12 = .ok (.iload_n 1, 1) := by decide +kernel
theorem dX9_allDuties_13 : decode cX9_allDuties 13 = .ok (.aload_n 0, 1) := by decide +kernel
theorem dX9_allDuties_14 : decode cX9_allDuties 14 = .ok (.iload_n 2, 1) := by decide +kernel
theorem dX9_allDuties_15 : decode cX9_allDuties 15 = .ok (.invokevirtual 227, 3) := by decide +kernel
theorem dX9_allDuties_18 : decode cX9_allDuties 18 = .ok (.iadd, 1) := by decide +kernel
theorem dX9_allDuties_19 : decode cX9_allDuties 19 = .ok (.istore_n 1, 1) := by decide +kernel
theorem dX9_allDuties_20 : decode cX9_allDuties 20 = .ok (.iinc 2 1, 3) := by decide +kernel
theorem dX9_allDuties_23 : decode cX9_allDuties 23 = .ok (.goto (-19), 3) := by decide +kernel
theorem dX9_allDuties_26 : decode cX9_allDuties 26 = .ok (.iload_n 1, 1) := by decide +kernel
theorem dX9_allDuties_27 : decode cX9_allDuties 27 = .ok (.ireturn, 1) := by decide +kernel
theorem dX9_view_0 : decode cX9_view 0 = .ok (.aload_n 0, 1) := by decide +kernel
theorem dX9_view_1 : decode cX9_view 1 = .ok (.iload_n 1, 1) := by decide +kernel
theorem dX9_view_2 : decode cX9_view 2 = .ok (.invokevirtual 129, 3) := by decide +kernel
theorem dX9_view_5 : decode cX9_view 5 = .ok (.ifCond .eq 11, 3) := by decide +kernel
theorem dX9_view_8 : decode cX9_view 8 = .ok (.aload_n 0, 1) := by decide +kernel
theorem dX9_view_9 : decode cX9_view 9 = .ok (.iload_n 2, 1) := by decide +kernel
theorem dX9_view_10 : decode cX9_view 10 = .ok (.invokevirtual 129, 3) := by decide +kernel
theorem dX9_view_13 : decode cX9_view 13 = .ok (.ifCond .ne 10, 3) := by decide +kernel
theorem dX9_view_16 : decode cX9_view 16 = .ok (.aload_n 0, 1) := by decide +kernel
theorem dX9_view_17 : decode cX9_view 17 = .ok (.bipush (-6), 2) := by decide +kernel
theorem dX9_view_19 : decode cX9_view 19 = .ok (.invokevirtual 115, 3) := by decide +kernel
theorem dX9_view_22 : decode cX9_view 22 = .ok (.ireturn, 1) := by decide +kernel
theorem dX9_view_23 : decode cX9_view 23 = .ok (.aload_n 0, 1) := by decide +kernel
theorem dX9_view_24 : decode cX9_view 24 = .ok (.iload_n 1, 1) := by decide +kernel
theorem dX9_view_25 : decode cX9_view 25 = .ok (.iload_n 2, 1) := by decide +kernel
theorem dX9_view_26 : decode cX9_view 26 = .ok (.invokevirtual 209, 3) := by decide +kernel
theorem dX9_view_29 : decode cX9_view 29 = .ok (.ifCond .eq 7, 3) := by decide +kernel
theorem dX9_view_32 : decode cX9_view 32 = .ok (.iconst 1, 1) := by decide +kernel
theorem dX9_view_33 : decode cX9_view 33 = .ok (.goto 4, 3) := by decide +kernel
theorem dX9_view_36 : decode cX9_view 36 = .ok (.iconst 0, 1) := by decide +kernel
theorem dX9_view_37 : decode cX9_view 37 = .ok (.ireturn, 1) := by decide +kernel
theorem dX9_glances_0 : decode cX9_glances 0 = .ok (.aload_n 0, 1) := by decide +kernel
theorem dX9_glances_1 : decode cX9_glances 1 = .ok (.iload_n 1, 1) := by decide +kernel
theorem dX9_glances_2 : decode cX9_glances 2 = .ok (.invokevirtual 119, 3) := by decide +kernel
theorem dX9_glances_5 : decode cX9_glances 5 = .ok (.ifCond .ne 9, 3) := by decide +kernel
theorem dX9_glances_8 : decode cX9_glances 8 = .ok (.aload_n 0, 1) := by decide +kernel
theorem dX9_glances_9 : decode cX9_glances 9 = .ok (.iconst (-1), 1) := by decide +kernel
theorem dX9_glances_10 : decode cX9_glances 10 = .ok (.invokevirtual 115, 3) := by decide +kernel
theorem dX9_glances_13 : decode cX9_glances 13 = .ok (.ireturn, 1) := by decide +kernel
theorem dX9_glances_14 : decode cX9_glances 14 = .ok (.iload_n 2, 1) := by decide +kernel
theorem dX9_glances_15 : decode cX9_glances 15 = .ok (.ifCond .lt 8, 3) := by decide +kernel
theorem dX9_glances_18 : decode cX9_glances 18 = .ok (.iload_n 2, 1) := by decide +kernel
theorem dX9_glances_19 : decode cX9_glances 19 = .ok (.iconst 1, 1) := by decide +kernel
theorem dX9_glances_20 : decode cX9_glances 20 = .ok (.if_icmp .le 10, 3) := by decide +kernel
theorem dX9_glances_23 : decode cX9_glances 23 = .ok (.aload_n 0, 1) := by decide +kernel
theorem dX9_glances_24 : decode cX9_glances 24 = .ok (.bipush (-5), 2) := by decide +kernel
theorem dX9_glances_26 : decode cX9_glances 26 = .ok (.invokevirtual 115, 3) := by decide +kernel
theorem dX9_glances_29 : decode cX9_glances 29 = .ok (.ireturn, 1) := by decide +kernel
theorem dX9_glances_30 : decode cX9_glances 30 = .ok (.iload_n 2, 1) := by decide +kernel
theorem dX9_glances_31 : decode cX9_glances 31 = .ok (.ifCond .ne 11, 3) := by decide +kernel
theorem dX9_glances_34 : decode cX9_glances 34 = .ok (.aload_n 0, 1) := by decide +kernel
theorem dX9_glances_35 : decode cX9_glances 35 = .ok (.iload_n 1, 1) := by decide +kernel
theorem dX9_glances_36 : decode cX9_glances 36 = .ok (.invokevirtual 221, 3) := by decide +kernel
theorem dX9_glances_39 : decode cX9_glances 39 = .ok (.goto 8, 3) := by decide +kernel
theorem dX9_glances_42 : decode cX9_glances 42 = .ok (.aload_n 0, 1) := by decide +kernel
theorem dX9_glances_43 : decode cX9_glances 43 = .ok (.iload_n 1, 1) := by decide +kernel
theorem dX9_glances_44 : decode cX9_glances 44 = .ok (.invokevirtual 215, 3) := by decide +kernel
theorem dX9_glances_47 : decode cX9_glances 47 = .ok (.ireturn, 1) := by decide +kernel
theorem dX9_duty_0 : decode cX9_duty 0 = .ok (.aload_n 0, 1) := by decide +kernel
theorem dX9_duty_1 : decode cX9_duty 1 = .ok (.iload_n 1, 1) := by decide +kernel
theorem dX9_duty_2 : decode cX9_duty 2 = .ok (.invokevirtual 119, 3) := by decide +kernel
theorem dX9_duty_5 : decode cX9_duty 5 = .ok (.ifCond .ne 9, 3) := by decide +kernel
theorem dX9_duty_8 : decode cX9_duty 8 = .ok (.aload_n 0, 1) := by decide +kernel
theorem dX9_duty_9 : decode cX9_duty 9 = .ok (.iconst (-1), 1) := by decide +kernel
theorem dX9_duty_10 : decode cX9_duty 10 = .ok (.invokevirtual 115, 3) := by decide +kernel
theorem dX9_duty_13 : decode cX9_duty 13 = .ok (.ireturn, 1) := by decide +kernel
theorem dX9_duty_14 : decode cX9_duty 14 = .ok (.iload_n 2, 1) := by decide +kernel
theorem dX9_duty_15 : decode cX9_duty 15 = .ok (.ifCond .lt 8, 3) := by decide +kernel
theorem dX9_duty_18 : decode cX9_duty 18 = .ok (.iload_n 2, 1) := by decide +kernel
theorem dX9_duty_19 : decode cX9_duty 19 = .ok (.iconst 1, 1) := by decide +kernel
theorem dX9_duty_20 : decode cX9_duty 20 = .ok (.if_icmp .le 10, 3) := by decide +kernel
theorem dX9_duty_23 : decode cX9_duty 23 = .ok (.aload_n 0, 1) := by decide +kernel
theorem dX9_duty_24 : decode cX9_duty 24 = .ok (.bipush (-5), 2) := by decide +kernel
theorem dX9_duty_26 : decode cX9_duty 26 = .ok (.invokevirtual 115, 3) := by decide +kernel
theorem dX9_duty_29 : decode cX9_duty 29 = .ok (.ireturn, 1) := by decide +kernel
theorem dX9_duty_30 : decode cX9_duty 30 = .ok (.iload_n 2, 1) := by decide +kernel
theorem dX9_duty_31 : decode cX9_duty 31 = .ok (.ifCond .ne 11, 3) := by decide +kernel
theorem dX9_duty_34 : decode cX9_duty 34 = .ok (.aload_n 0, 1) := by decide +kernel
theorem dX9_duty_35 : decode cX9_duty 35 = .ok (.iload_n 1, 1) := by decide +kernel
theorem dX9_duty_36 : decode cX9_duty 36 = .ok (.invokevirtual 227, 3) := by decide +kernel
theorem dX9_duty_39 : decode cX9_duty 39 = .ok (.goto 8, 3) := by decide +kernel
theorem dX9_duty_42 : decode cX9_duty 42 = .ok (.aload_n 0, 1) := by decide +kernel
theorem dX9_duty_43 : decode cX9_duty 43 = .ok (.iload_n 1, 1) := by decide +kernel
theorem dX9_duty_44 : decode cX9_duty 44 = .ok (.invokevirtual 230, 3) := by decide +kernel
theorem dX9_duty_47 : decode cX9_duty 47 = .ok (.ireturn, 1) := by decide +kernel
theorem dX9_all_0 : decode cX9_all 0 = .ok (.iload_n 1, 1) := by decide +kernel
theorem dX9_all_1 : decode cX9_all 1 = .ok (.ifCond .lt 8, 3) := by decide +kernel
theorem dX9_all_4 : decode cX9_all 4 = .ok (.iload_n 1, 1) := by decide +kernel
theorem dX9_all_5 : decode cX9_all 5 = .ok (.iconst 3, 1) := by decide +kernel
theorem dX9_all_6 : decode cX9_all 6 = .ok (.if_icmp .le 10, 3) := by decide +kernel
theorem dX9_all_9 : decode cX9_all 9 = .ok (.aload_n 0, 1) := by decide +kernel
theorem dX9_all_10 : decode cX9_all 10 = .ok (.bipush (-5), 2) := by decide +kernel
theorem dX9_all_12 : decode cX9_all 12 = .ok (.invokevirtual 115, 3) := by decide +kernel
theorem dX9_all_15 : decode cX9_all 15 = .ok (.ireturn, 1) := by decide +kernel
theorem dX9_all_16 : decode cX9_all 16 = .ok (.iconst 0, 1) := by decide +kernel
theorem dX9_all_17 : decode cX9_all 17 = .ok (.istore_n 2, 1) := by decide +kernel
theorem dX9_all_18 : decode cX9_all 18 = .ok (.iconst 0, 1) := by decide +kernel
theorem dX9_all_19 : decode cX9_all 19 = .ok (.istore_n 3, 1) := by decide +kernel
theorem dX9_all_20 : decode cX9_all 20 = .ok (.iload_n 3, 1) := by decide +kernel
theorem dX9_all_21 : decode cX9_all 21 = .ok (.aload_n 0, 1) := by decide +kernel
theorem dX9_all_22 : decode cX9_all 22 = .ok (.getfield 108, 3) := by decide +kernel
theorem dX9_all_25 : decode cX9_all 25 = .ok (.if_icmp .ge 86, 3) := by decide +kernel
theorem dX9_all_28 : decode cX9_all 28 = .ok (.aload_n 0, 1) := by decide +kernel
theorem dX9_all_29 : decode cX9_all 29 = .ok (.iload_n 3, 1) := by decide +kernel
theorem dX9_all_30 : decode cX9_all 30 = .ok (.invokevirtual 227, 3) := by decide +kernel
theorem dX9_all_33 : decode cX9_all 33 = .ok (.istore 4, 2) := by decide +kernel
theorem dX9_all_35 : decode cX9_all 35 = .ok (.iload_n 1, 1) := by decide +kernel
theorem dX9_all_36 : decode cX9_all 36 = .ok (.ifCond .ne 11, 3) := by decide +kernel
theorem dX9_all_39 : decode cX9_all 39 = .ok (.iload_n 2, 1) := by decide +kernel
theorem dX9_all_40 : decode cX9_all 40 = .ok (.iload 4, 2) := by decide +kernel
theorem dX9_all_42 : decode cX9_all 42 = .ok (.iadd, 1) := by decide +kernel
theorem dX9_all_43 : decode cX9_all 43 = .ok (.istore_n 2, 1) := by decide +kernel
theorem dX9_all_44 : decode cX9_all 44 = .ok (.goto 61, 3) := by decide +kernel
theorem dX9_all_47 : decode cX9_all 47 = .ok (.iload_n 1, 1) := by decide +kernel
theorem dX9_all_48 : decode cX9_all 48 = .ok (.iconst 1, 1) := by decide +kernel
theorem dX9_all_49 : decode cX9_all 49 = .ok (.if_icmp .ne 14, 3) := by decide +kernel
theorem dX9_all_52 : decode cX9_all 52 = .ok (.iload_n 2, 1) := by decide +kernel
theorem dX9_all_53 : decode cX9_all 53 = .ok (.aload_n 0, 1) := by decide +kernel
theorem dX9_all_54 : decode cX9_all 54 = .ok (.iload_n 3, 1) := by decide +kernel
theorem dX9_all_55 : decode cX9_all 55 = .ok (.invokevirtual 230, 3) := by decide +kernel
theorem dX9_all_58 : decode cX9_all 58 = .ok (.iadd, 1) := by decide +kernel
theorem dX9_all_59 : decode cX9_all 59 = .ok (.istore_n 2, 1) := by decide +kernel
theorem dX9_all_60 : decode cX9_all 60 = .ok (.goto 45, 3) := by decide +kernel
theorem dX9_all_63 : decode cX9_all 63 = .ok (.iload_n 1, 1) := by decide +kernel
theorem dX9_all_64 : decode cX9_all 64 = .ok (.iconst 2, 1) := by decide +kernel
theorem dX9_all_65 : decode cX9_all 65 = .ok (.if_icmp .ne 27, 3) := by decide +kernel
theorem dX9_all_68 : decode cX9_all 68 = .ok (.iload_n 2, 1) := by decide +kernel
theorem dX9_all_69 : decode cX9_all 69 = .ok (.iload 4, 2) := by decide +kernel
theorem dX9_all_71 : decode cX9_all 71 = .ok (.aload_n 0, 1) := by decide +kernel
theorem dX9_all_72 : decode cX9_all 72 = .ok (.getfield 38, 3) := by decide +kernel
theorem dX9_all_75 : decode cX9_all 75 = .ok (.iload_n 3, 1) := by decide +kernel
theorem dX9_all_76 : decode cX9_all 76 = .ok (.iaload, 1) := by decide +kernel
theorem dX9_all_77 : decode cX9_all 77 = .ok (.if_icmp .le 9, 3) := by decide +kernel
theorem dX9_all_80 : decode cX9_all 80 = .ok (.iconst 1, 1) := by decide +kernel
theorem dX9_all_81 : decode cX9_all 81 = .ok (.iload_n 3, 1) := by decide +kernel
theorem dX9_all_82 : decode cX9_all 82 = .ok (.ishl, 1) := by decide +kernel
theorem dX9_all_83 : decode cX9_all 83 = .ok (.goto 4, 3) := by decide +kernel
theorem dX9_all_86 : decode cX9_all 86 = .ok (.iconst 0, 1) := by decide +kernel
theorem dX9_all_87 : decode cX9_all 87 = .ok (.iadd, 1) := by decide +kernel
theorem dX9_all_88 : decode cX9_all 88 = .ok (.istore_n 2, 1) := by decide +kernel
theorem dX9_all_89 : decode cX9_all 89 = .ok (.goto 16, 3) := by decide +kernel
theorem dX9_all_92 : decode cX9_all 92 = .ok (.iload_n 2, 1) := by decide +kernel
theorem dX9_all_93 : decode cX9_all 93 = .ok (.iload 4, 2) := by decide +kernel
theorem dX9_all_95 : decode cX9_all 95 = .ok (.ifCond .ne 7, 3) := by decide +kernel
theorem dX9_all_98 : decode cX9_all 98 = .ok (.iconst 1, 1) := by decide +kernel
theorem dX9_all_99 : decode cX9_all 99 = .ok (.goto 4, 3) := by decide +kernel
theorem dX9_all_102 : decode cX9_all 102 = .ok (.iconst 0, 1) := by decide +kernel
theorem dX9_all_103 : decode cX9_all 103 = .ok (.iadd, 1) := by decide +kernel
theorem dX9_all_104 : decode cX9_all 104 = .ok (.istore_n 2, 1) := by decide +kernel
theorem dX9_all_105 : decode cX9_all 105 = .ok (.iinc 3 1, 3) := by decide +kernel
theorem dX9_all_108 : decode cX9_all 108 = .ok (.goto (-88), 3) := by decide +kernel
theorem dX9_all_111 : decode cX9_all 111 = .ok (.iload_n 2, 1) := by decide +kernel
theorem dX9_all_112 : decode cX9_all 112 = .ok (.ireturn, 1) := by decide +kernel
theorem dX9_beside_0 : decode cX9_beside 0 = .ok (.iload_n 1, 1) := by decide +kernel
theorem dX9_beside_1 : decode cX9_beside 1 = .ok (.bipush 6, 2) := by decide +kernel
theorem dX9_beside_3 : decode cX9_beside 3 = .ok (.idiv, 1) := by decide +kernel
theorem dX9_beside_4 : decode cX9_beside 4 = .ok (.istore_n 3, 1) := by decide +kernel
theorem dX9_beside_5 : decode cX9_beside 5 = .ok (.iload_n 1, 1) := by decide +kernel
theorem dX9_beside_6 : decode cX9_beside 6 = .ok (.bipush 6, 2) := by decide +kernel
theorem dX9_beside_8 : decode cX9_beside 8 = .ok (.irem, 1) := by decide +kernel
theorem dX9_beside_9 : decode cX9_beside 9 = .ok (.istore 4, 2) := by decide +kernel
theorem dX9_beside_11 : decode cX9_beside 11 = .ok (.iload_n 2, 1) := by decide +kernel
theorem dX9_beside_12 : decode cX9_beside 12 = .ok (.ifCond .ne 16, 3) := by decide +kernel
theorem dX9_beside_15 : decode cX9_beside 15 = .ok (.iload_n 3, 1) := by decide +kernel
theorem dX9_beside_16 : decode cX9_beside 16 = .ok (.ifCond .ne 7, 3) := by decide +kernel
theorem dX9_beside_19 : decode cX9_beside 19 = .ok (.iconst (-1), 1) := by decide +kernel
theorem dX9_beside_20 : decode cX9_beside 20 = .ok (.goto 7, 3) := by decide +kernel
theorem dX9_beside_23 : decode cX9_beside 23 = .ok (.iload_n 1, 1) := by decide +kernel
theorem dX9_beside_24 : decode cX9_beside 24 = .ok (.bipush 6, 2) := by decide +kernel
theorem dX9_beside_26 : decode cX9_beside 26 = .ok (.isub, 1) := by decide +kernel
theorem dX9_beside_27 : decode cX9_beside 27 = .ok (.ireturn, 1) := by decide +kernel
theorem dX9_beside_28 : decode cX9_beside 28 = .ok (.iload_n 2, 1) := by decide +kernel
theorem dX9_beside_29 : decode cX9_beside 29 = .ok (.iconst 1, 1) := by decide +kernel
theorem dX9_beside_30 : decode cX9_beside 30 = .ok (.if_icmp .ne 17, 3) := by decide +kernel
theorem dX9_beside_33 : decode cX9_beside 33 = .ok (.iload 4, 2) := by decide +kernel
theorem dX9_beside_35 : decode cX9_beside 35 = .ok (.iconst 5, 1) := by decide +kernel
theorem dX9_beside_36 : decode cX9_beside 36 = .ok (.if_icmp .ne 7, 3) := by decide +kernel
theorem dX9_beside_39 : decode cX9_beside 39 = .ok (.iconst (-1), 1) := by decide +kernel
theorem dX9_beside_40 : decode cX9_beside 40 = .ok (.goto 6, 3) := by decide +kernel
theorem dX9_beside_43 : decode cX9_beside 43 = .ok (.iload_n 1, 1) := by decide +kernel
theorem dX9_beside_44 : decode cX9_beside 44 = .ok (.iconst 1, 1) := by decide +kernel
theorem dX9_beside_45 : decode cX9_beside 45 = .ok (.iadd, 1) := by decide +kernel
theorem dX9_beside_46 : decode cX9_beside 46 = .ok (.ireturn, 1) := by decide +kernel
theorem dX9_beside_47 : decode cX9_beside 47 = .ok (.iload_n 2, 1) := by decide +kernel
theorem dX9_beside_48 : decode cX9_beside 48 = .ok (.iconst 2, 1) := by decide +kernel
theorem dX9_beside_49 : decode cX9_beside 49 = .ok (.if_icmp .ne 17, 3) := by decide +kernel
theorem dX9_beside_52 : decode cX9_beside 52 = .ok (.iload_n 3, 1) := by decide +kernel
theorem dX9_beside_53 : decode cX9_beside 53 = .ok (.iconst 5, 1) := by decide +kernel
theorem dX9_beside_54 : decode cX9_beside 54 = .ok (.if_icmp .ne 7, 3) := by decide +kernel
theorem dX9_beside_57 : decode cX9_beside 57 = .ok (.iconst (-1), 1) := by decide +kernel
theorem dX9_beside_58 : decode cX9_beside 58 = .ok (.goto 7, 3) := by decide +kernel
theorem dX9_beside_61 : decode cX9_beside 61 = .ok (.iload_n 1, 1) := by decide +kernel
theorem dX9_beside_62 : decode cX9_beside 62 = .ok (.bipush 6, 2) := by decide +kernel
theorem dX9_beside_64 : decode cX9_beside 64 = .ok (.iadd, 1) := by decide +kernel
theorem dX9_beside_65 : decode cX9_beside 65 = .ok (.ireturn, 1) := by decide +kernel
theorem dX9_beside_66 : decode cX9_beside 66 = .ok (.iload 4, 2) := by decide +kernel
theorem dX9_beside_68 : decode cX9_beside 68 = .ok (.ifCond .ne 7, 3) := by decide +kernel
theorem dX9_beside_71 : decode cX9_beside 71 = .ok (.iconst (-1), 1) := by decide +kernel
theorem dX9_beside_72 : decode cX9_beside 72 = .ok (.goto 6, 3) := by decide +kernel
theorem dX9_beside_75 : decode cX9_beside 75 = .ok (.iload_n 1, 1) := by decide +kernel
theorem dX9_beside_76 : decode cX9_beside 76 = .ok (.iconst 1, 1) := by decide +kernel
theorem dX9_beside_77 : decode cX9_beside 77 = .ok (.isub, 1) := by decide +kernel
theorem dX9_beside_78 : decode cX9_beside 78 = .ok (.ireturn, 1) := by decide +kernel
theorem dX9_tellsDuties_0 : decode cX9_tellsDuties 0 = .ok (.aload_n 0, 1) := by decide +kernel
theorem dX9_tellsDuties_1 : decode cX9_tellsDuties 1 = .ok (.getfield 41, 3) := by decide +kernel
theorem dX9_tellsDuties_4 : decode cX9_tellsDuties 4 = .ok (.iload_n 1, 1) := by decide +kernel
theorem dX9_tellsDuties_5 : decode cX9_tellsDuties 5 = .ok (.iaload, 1) := by decide +kernel
theorem dX9_tellsDuties_6 : decode cX9_tellsDuties 6 = .ok (.istore_n 2, 1) := by decide +kernel
theorem dX9_tellsDuties_7 : decode cX9_tellsDuties 7 = .ok (.iconst 0, 1) := by decide +kernel
theorem dX9_tellsDuties_8 : decode cX9_tellsDuties 8 = .ok (.istore_n 3, 1) := by decide +kernel
theorem dX9_tellsDuties_9 : decode cX9_tellsDuties 9 = .ok (.iload_n 3, 1) := by decide +kernel
theorem dX9_tellsDuties_10 : decode cX9_tellsDuties 10 = .ok (.bipush 36, 2) := by decide +kernel
theorem dX9_tellsDuties_12 : decode cX9_tellsDuties 12 = .ok (.if_icmp .ge 42, 3) := by decide +kernel
theorem dX9_tellsDuties_15 : decode cX9_tellsDuties 15 = .ok (.aload_n 0, 1) := by decide +kernel
theorem dX9_tellsDuties_16 : decode cX9_tellsDuties 16 = .ok (.getfield 41, 3) := by decide +kernel
theorem dX9_tellsDuties_19 : decode cX9_tellsDuties 19 = .ok (.iload_n 1, 1) := by decide +kernel
theorem dX9_tellsDuties_20 : decode cX9_tellsDuties 20 = .ok (.iload_n 3, 1) := by decide +kernel
theorem dX9_tellsDuties_21 : decode cX9_tellsDuties 21 = .ok (.iastore, 1) := by decide +kernel
theorem dX9_tellsDuties_22 : decode cX9_tellsDuties 22 = .ok (.aload_n 0, 1) := by decide +kernel
theorem dX9_tellsDuties_23 : decode cX9_tellsDuties 23 = .ok (.getfield 96, 3) := by decide +kernel
theorem dX9_tellsDuties_26 : decode cX9_tellsDuties 26 = .ok (.iload_n 3, 1) := by decide +kernel
theorem dX9_tellsDuties_27 : decode cX9_tellsDuties 27 = .ok (.aload_n 0, 1) := by decide +kernel
theorem dX9_tellsDuties_28 : decode cX9_tellsDuties 28 = .ok (.getfield 47, 3) := by decide +kernel
theorem dX9_tellsDuties_31 : decode cX9_tellsDuties 31 = .ok (.iload_n 3, 1) := by decide +kernel
theorem dX9_tellsDuties_32 : decode cX9_tellsDuties 32 = .ok (.iaload, 1) := by decide +kernel
theorem dX9_tellsDuties_33 : decode cX9_tellsDuties 33 = .ok (.iconst 1, 1) := by decide +kernel
theorem dX9_tellsDuties_34 : decode cX9_tellsDuties 34 = .ok (.if_icmp .ne 8, 3) := by decide +kernel
theorem dX9_tellsDuties_37 : decode cX9_tellsDuties 37 = .ok (.ldc 233, 2) := by decide +kernel
theorem dX9_tellsDuties_39 : decode cX9_tellsDuties 39 = .ok (.goto 8, 3) := by decide +kernel
theorem dX9_tellsDuties_42 : decode cX9_tellsDuties 42 = .ok (.aload_n 0, 1) := by decide +kernel
theorem dX9_tellsDuties_43 : decode cX9_tellsDuties 43 = .ok (.iload_n 1, 1) := by decide +kernel
theorem dX9_tellsDuties_44 : decode cX9_tellsDuties 44 = .ok (.invokevirtual 227, 3) := by decide +kernel
theorem dX9_tellsDuties_47 : decode cX9_tellsDuties 47 = .ok (.iastore, 1) := by decide +kernel
theorem dX9_tellsDuties_48 : decode cX9_tellsDuties 48 = .ok (.iinc 3 1, 3) := by decide +kernel
theorem dX9_tellsDuties_51 : decode cX9_tellsDuties 51 = .ok (.goto (-42), 3) := by decide +kernel
theorem dX9_tellsDuties_54 : decode cX9_tellsDuties 54 = .ok (.aload_n 0, 1) := by decide +kernel
theorem dX9_tellsDuties_55 : decode cX9_tellsDuties 55 = .ok (.getfield 41, 3) := by decide +kernel
theorem dX9_tellsDuties_58 : decode cX9_tellsDuties 58 = .ok (.iload_n 1, 1) := by decide +kernel
theorem dX9_tellsDuties_59 : decode cX9_tellsDuties 59 = .ok (.iload_n 2, 1) := by decide +kernel
theorem dX9_tellsDuties_60 : decode cX9_tellsDuties 60 = .ok (.iastore, 1) := by decide +kernel
theorem dX9_tellsDuties_61 : decode cX9_tellsDuties 61 = .ok (.return_, 1) := by decide +kernel
theorem dX9_tellsWays_0 : decode cX9_tellsWays 0 = .ok (.iconst 0, 1) := by decide +kernel
theorem dX9_tellsWays_1 : decode cX9_tellsWays 1 = .ok (.istore_n 2, 1) := by decide +kernel
theorem dX9_tellsWays_2 : decode cX9_tellsWays 2 = .ok (.iload_n 2, 1) := by decide +kernel
theorem dX9_tellsWays_3 : decode cX9_tellsWays 3 = .ok (.bipush 36, 2) := by decide +kernel
theorem dX9_tellsWays_5 : decode cX9_tellsWays 5 = .ok (.if_icmp .ge 35, 3) := by decide +kernel
theorem dX9_tellsWays_8 : decode cX9_tellsWays 8 = .ok (.aload_n 0, 1) := by decide +kernel
theorem dX9_tellsWays_9 : decode cX9_tellsWays 9 = .ok (.getfield 99, 3) := by decide +kernel
theorem dX9_tellsWays_12 : decode cX9_tellsWays 12 = .ok (.iload_n 2, 1) := by decide +kernel
theorem dX9_tellsWays_13 : decode cX9_tellsWays 13 = .ok (.iload_n 2, 1) := by decide +kernel
theorem dX9_tellsWays_14 : decode cX9_tellsWays 14 = .ok (.iload_n 1, 1) := by decide +kernel
theorem dX9_tellsWays_15 : decode cX9_tellsWays 15 = .ok (.if_icmp .ne 16, 3) := by decide +kernel
theorem dX9_tellsWays_18 : decode cX9_tellsWays 18 = .ok (.aload_n 0, 1) := by decide +kernel
theorem dX9_tellsWays_19 : decode cX9_tellsWays 19 = .ok (.getfield 47, 3) := by decide +kernel
theorem dX9_tellsWays_22 : decode cX9_tellsWays 22 = .ok (.iload_n 2, 1) := by decide +kernel
theorem dX9_tellsWays_23 : decode cX9_tellsWays 23 = .ok (.iaload, 1) := by decide +kernel
theorem dX9_tellsWays_24 : decode cX9_tellsWays 24 = .ok (.ifCond .ne 7, 3) := by decide +kernel
theorem dX9_tellsWays_27 : decode cX9_tellsWays 27 = .ok (.iconst 0, 1) := by decide +kernel
theorem dX9_tellsWays_28 : decode cX9_tellsWays 28 = .ok (.goto 5, 3) := by decide +kernel
theorem dX9_tellsWays_31 : decode cX9_tellsWays 31 = .ok (.ldc 233, 2) := by decide +kernel
theorem dX9_tellsWays_33 : decode cX9_tellsWays 33 = .ok (.iastore, 1) := by decide +kernel
theorem dX9_tellsWays_34 : decode cX9_tellsWays 34 = .ok (.iinc 2 1, 3) := by decide +kernel
theorem dX9_tellsWays_37 : decode cX9_tellsWays 37 = .ok (.goto (-35), 3) := by decide +kernel
theorem dX9_tellsWays_40 : decode cX9_tellsWays 40 = .ok (.iconst 1, 1) := by decide +kernel
theorem dX9_tellsWays_41 : decode cX9_tellsWays 41 = .ok (.istore_n 2, 1) := by decide +kernel
theorem dX9_tellsWays_42 : decode cX9_tellsWays 42 = .ok (.iload_n 2, 1) := by decide +kernel
theorem dX9_tellsWays_43 : decode cX9_tellsWays 43 = .ok (.ifCond .eq 150, 3) := by decide +kernel
theorem dX9_tellsWays_46 : decode cX9_tellsWays 46 = .ok (.iconst 0, 1) := by decide +kernel
theorem dX9_tellsWays_47 : decode cX9_tellsWays 47 = .ok (.istore_n 2, 1) := by decide +kernel
theorem dX9_tellsWays_48 : decode cX9_tellsWays 48 = .ok (.iconst 0, 1) := by decide +kernel
theorem dX9_tellsWays_49 : decode cX9_tellsWays 49 = .ok (.istore_n 3, 1) := by decide +kernel
theorem dX9_tellsWays_50 : decode cX9_tellsWays 50 = .ok (.iload_n 3, 1) := by decide +kernel
theorem dX9_tellsWays_51 : decode cX9_tellsWays 51 = .ok (.bipush 36, 2) := by decide +kernel
theorem dX9_tellsWays_53 : decode cX9_tellsWays 53 = .ok (.if_icmp .ge 137, 3) := by decide +kernel
theorem dX9_tellsWays_56 : decode cX9_tellsWays 56 = .ok (.aload_n 0, 1) := by decide +kernel
theorem dX9_tellsWays_57 : decode cX9_tellsWays 57 = .ok (.getfield 47, 3) := by decide +kernel
theorem dX9_tellsWays_60 : decode cX9_tellsWays 60 = .ok (.iload_n 3, 1) := by decide +kernel
theorem dX9_tellsWays_61 : decode cX9_tellsWays 61 = .ok (.iaload, 1) := by decide +kernel
theorem dX9_tellsWays_62 : decode cX9_tellsWays 62 = .ok (.iconst 1, 1) := by decide +kernel
theorem dX9_tellsWays_63 : decode cX9_tellsWays 63 = .ok (.if_icmp .ne 6, 3) := by decide +kernel
theorem dX9_tellsWays_66 : decode cX9_tellsWays 66 = .ok (.goto 118, 3) := by decide +kernel
theorem dX9_tellsWays_69 : decode cX9_tellsWays 69 = .ok (.iconst 0, 1) := by decide +kernel
theorem dX9_tellsWays_70 : decode cX9_tellsWays 70 = .ok (.istore 4, 2) := by decide +kernel
theorem dX9_tellsWays_72 : decode cX9_tellsWays 72 = .ok (.iload 4, 2) := by decide +kernel
theorem dX9_tellsWays_74 : decode cX9_tellsWays 74 = .ok (.iconst 4, 1) := by decide +kernel
theorem dX9_tellsWays_75 : decode cX9_tellsWays 75 = .ok (.if_icmp .ge 109, 3) := by decide +kernel
theorem dX9_tellsWays_78 : decode cX9_tellsWays 78 = .ok (.aload_n 0, 1) := by decide +kernel
theorem dX9_tellsWays_79 : decode cX9_tellsWays 79 = .ok (.iload_n 3, 1) := by decide +kernel
theorem dX9_tellsWays_80 : decode cX9_tellsWays 80 = .ok (.iload 4, 2) := by decide +kernel
theorem dX9_tellsWays_82 : decode cX9_tellsWays 82 = .ok (.invokevirtual 234, 3) := by decide +kernel
theorem dX9_tellsWays_85 : decode cX9_tellsWays 85 = .ok (.istore 5, 2) := by decide +kernel
theorem dX9_tellsWays_87 : decode cX9_tellsWays 87 = .ok (.iload 5, 2) := by decide +kernel
theorem dX9_tellsWays_89 : decode cX9_tellsWays 89 = .ok (.iconst (-1), 1) := by decide +kernel
theorem dX9_tellsWays_90 : decode cX9_tellsWays 90 = .ok (.if_icmp .eq 88, 3) := by decide +kernel
theorem dX9_tellsWays_93 : decode cX9_tellsWays 93 = .ok (.aload_n 0, 1) := by decide +kernel
theorem dX9_tellsWays_94 : decode cX9_tellsWays 94 = .ok (.getfield 47, 3) := by decide +kernel
theorem dX9_tellsWays_97 : decode cX9_tellsWays 97 = .ok (.iload 5, 2) := by decide +kernel
theorem dX9_tellsWays_99 : decode cX9_tellsWays 99 = .ok (.iaload, 1) := by decide +kernel
theorem dX9_tellsWays_100 : decode cX9_tellsWays 100 = .ok (.iconst 1, 1) := by decide +kernel
theorem dX9_tellsWays_101 : decode cX9_tellsWays 101 = .ok (.if_icmp .eq 77, 3) := by decide +kernel
theorem dX9_tellsWays_104 : decode cX9_tellsWays 104 = .ok (.aload_n 0, 1) := by decide +kernel
theorem dX9_tellsWays_105 : decode cX9_tellsWays 105 = .ok (.getfield 99, 3) := by decide +kernel
theorem dX9_tellsWays_108 : decode cX9_tellsWays 108 = .ok (.iload 5, 2) := by decide +kernel
theorem dX9_tellsWays_110 : decode cX9_tellsWays 110 = .ok (.iaload, 1) := by decide +kernel
theorem dX9_tellsWays_111 : decode cX9_tellsWays 111 = .ok (.ldc 233, 2) := by decide +kernel
theorem dX9_tellsWays_113 : decode cX9_tellsWays 113 = .ok (.if_icmp .eq 65, 3) := by decide +kernel
theorem dX9_tellsWays_116 : decode cX9_tellsWays 116 = .ok (.aload_n 0, 1) := by decide +kernel
theorem dX9_tellsWays_117 : decode cX9_tellsWays 117 = .ok (.getfield 99, 3) := by decide +kernel
theorem dX9_tellsWays_120 : decode cX9_tellsWays 120 = .ok (.iload 5, 2) := by decide +kernel
theorem dX9_tellsWays_122 : decode cX9_tellsWays 122 = .ok (.iaload, 1) := by decide +kernel
theorem dX9_tellsWays_123 : decode cX9_tellsWays 123 = .ok (.sipush 1000, 3) := by decide +kernel
theorem dX9_tellsWays_126 : decode cX9_tellsWays 126 = .ok (.aload_n 0, 1) := by decide +kernel
theorem dX9_tellsWays_127 : decode cX9_tellsWays 127 = .ok (.getfield 96, 3) := by decide +kernel
theorem dX9_tellsWays_130 : decode cX9_tellsWays 130 = .ok (.iload 5, 2) := by decide +kernel
theorem dX9_tellsWays_132 : decode cX9_tellsWays 132 = .ok (.iaload, 1) := by decide +kernel
theorem dX9_tellsWays_133 : decode cX9_tellsWays 133 = .ok (.imul, 1) := by decide +kernel
theorem dX9_tellsWays_134 : decode cX9_tellsWays 134 = .ok (.iadd, 1) := by decide +kernel
theorem dX9_tellsWays_135 : decode cX9_tellsWays 135 = .ok (.iconst 1, 1) := by decide +kernel
theorem dX9_tellsWays_136 : decode cX9_tellsWays 136 = .ok (.iadd, 1) := by decide +kernel
theorem dX9_tellsWays_137 : decode cX9_tellsWays 137 = .ok (.aload_n 0, 1) := by decide +kernel
theorem dX9_tellsWays_138 : decode cX9_tellsWays 138 = .ok (.getfield 99, 3) := by decide +kernel
theorem dX9_tellsWays_141 : decode cX9_tellsWays 141 = .ok (.iload_n 3, 1) := by decide +kernel
theorem dX9_tellsWays_142 : decode cX9_tellsWays 142 = .ok (.iaload, 1) := by decide +kernel
theorem dX9_tellsWays_143 : decode cX9_tellsWays 143 = .ok (.if_icmp .lt 6, 3) := by decide +kernel
theorem dX9_tellsWays_146 : decode cX9_tellsWays 146 = .ok (.goto 32, 3) := by decide +kernel
theorem dX9_tellsWays_149 : decode cX9_tellsWays 149 = .ok (.aload_n 0, 1) := by decide +kernel
theorem dX9_tellsWays_150 : decode cX9_tellsWays 150 = .ok (.getfield 99, 3) := by decide +kernel
theorem dX9_tellsWays_153 : decode cX9_tellsWays 153 = .ok (.iload_n 3, 1) := by decide +kernel
theorem dX9_tellsWays_154 : decode cX9_tellsWays 154 = .ok (.aload_n 0, 1) := by decide +kernel
theorem dX9_tellsWays_155 : decode cX9_tellsWays 155 = .ok (.getfield 99, 3) := by decide +kernel
theorem dX9_tellsWays_158 : decode cX9_tellsWays 158 = .ok (.iload 5, 2) := by decide +kernel
theorem dX9_tellsWays_160 : decode cX9_tellsWays 160 = .ok (.iaload, 1) := by decide +kernel
theorem dX9_tellsWays_161 : decode cX9_tellsWays 161 = .ok (.sipush 1000, 3) := by decide +kernel
theorem dX9_tellsWays_164 : decode cX9_tellsWays 164 = .ok (.aload_n 0, 1) := by decide +kernel
theorem dX9_tellsWays_165 : decode cX9_tellsWays 165 = .ok (.getfield 96, 3) := by decide +kernel
theorem dX9_tellsWays_168 : decode cX9_tellsWays 168 = .ok (.iload 5, 2) := by decide +kernel
theorem dX9_tellsWays_170 : decode cX9_tellsWays 170 = .ok (.iaload, 1) := by decide +kernel
theorem dX9_tellsWays_171 : decode cX9_tellsWays 171 = .ok (.imul, 1) := by decide +kernel
theorem dX9_tellsWays_172 : decode cX9_tellsWays 172 = .ok (.iadd, 1) := by decide +kernel
theorem dX9_tellsWays_173 : decode cX9_tellsWays 173 = .ok (.iconst 1, 1) := by decide +kernel
theorem dX9_tellsWays_174 : decode cX9_tellsWays 174 = .ok (.iadd, 1) := by decide +kernel
theorem dX9_tellsWays_175 : decode cX9_tellsWays 175 = .ok (.iastore, 1) := by decide +kernel
theorem dX9_tellsWays_176 : decode cX9_tellsWays 176 = .ok (.iconst 1, 1) := by decide +kernel
theorem dX9_tellsWays_177 : decode cX9_tellsWays 177 = .ok (.istore_n 2, 1) := by decide +kernel
theorem dX9_tellsWays_178 : decode cX9_tellsWays 178 = .ok (.iinc 4 1, 3) := by decide +kernel
theorem dX9_tellsWays_181 : decode cX9_tellsWays 181 = .ok (.goto (-109), 3) := by decide +kernel
theorem dX9_tellsWays_184 : decode cX9_tellsWays 184 = .ok (.iinc 3 1, 3) := by decide +kernel
theorem dX9_tellsWays_187 : decode cX9_tellsWays 187 = .ok (.goto (-137), 3) := by decide +kernel
theorem dX9_tellsWays_190 : decode cX9_tellsWays 190 = .ok (.goto (-148), 3) := by decide +kernel
theorem dX9_tellsWays_193 : decode cX9_tellsWays 193 = .ok (.return_, 1) := by decide +kernel
theorem dX9_firstOn_0 : decode cX9_firstOn 0 = .ok (.aload_n 0, 1) := by decide +kernel
theorem dX9_firstOn_1 : decode cX9_firstOn 1 = .ok (.getfield 99, 3) := by decide +kernel
theorem dX9_firstOn_4 : decode cX9_firstOn 4 = .ok (.iload_n 1, 1) := by decide +kernel
theorem dX9_firstOn_5 : decode cX9_firstOn 5 = .ok (.iaload, 1) := by decide +kernel
theorem dX9_firstOn_6 : decode cX9_firstOn 6 = .ok (.ifCond .ne 5, 3) := by decide +kernel
theorem dX9_firstOn_9 : decode cX9_firstOn 9 = .ok (.iload_n 1, 1) := by decide +kernel
theorem dX9_firstOn_10 : decode cX9_firstOn 10 = .ok (.ireturn, 1) := by decide +kernel
theorem dX9_firstOn_11 : decode cX9_firstOn 11 = .ok (.iconst (-1), 1) := by decide +kernel
theorem dX9_firstOn_12 : decode cX9_firstOn 12 = .ok (.istore_n 2, 1) := by decide +kernel
theorem dX9_firstOn_13 : decode cX9_firstOn 13 = .ok (.iconst 0, 1) := by decide +kernel
theorem dX9_firstOn_14 : decode cX9_firstOn 14 = .ok (.istore_n 3, 1) := by decide +kernel
theorem dX9_firstOn_15 : decode cX9_firstOn 15 = .ok (.iload_n 3, 1) := by decide +kernel
theorem dX9_firstOn_16 : decode cX9_firstOn 16 = .ok (.iconst 4, 1) := by decide +kernel
theorem dX9_firstOn_17 : decode cX9_firstOn 17 = .ok (.if_icmp .ge 93, 3) := by decide +kernel
theorem dX9_firstOn_20 : decode cX9_firstOn 20 = .ok (.aload_n 0, 1) := by decide +kernel
theorem dX9_firstOn_21 : decode cX9_firstOn 21 = .ok (.iload_n 1, 1) := by decide +kernel
theorem dX9_firstOn_22 : decode cX9_firstOn 22 = .ok (.iload_n 3, 1) := by decide +kernel
theorem dX9_firstOn_23 : decode cX9_firstOn 23 = .ok (.invokevirtual 234, 3) := by decide +kernel
theorem dX9_firstOn_26 : decode cX9_firstOn 26 = .ok (.istore 4, 2) := by decide +kernel
theorem dX9_firstOn_28 : decode cX9_firstOn 28 = .ok (.iload 4, 2) := by decide +kernel
theorem dX9_firstOn_30 : decode cX9_firstOn 30 = .ok (.iconst (-1), 1) := by decide +kernel
theorem dX9_firstOn_31 : decode cX9_firstOn 31 = .ok (.if_icmp .eq 73, 3) := by decide +kernel
theorem dX9_firstOn_34 : decode cX9_firstOn 34 = .ok (.aload_n 0, 1) := by decide +kernel
theorem dX9_firstOn_35 : decode cX9_firstOn 35 = .ok (.getfield 47, 3) := by decide +kernel
theorem dX9_firstOn_38 : decode cX9_firstOn 38 = .ok (.iload 4, 2) := by decide +kernel
theorem dX9_firstOn_40 : decode cX9_firstOn 40 = .ok (.iaload, 1) := by decide +kernel
theorem dX9_firstOn_41 : decode cX9_firstOn 41 = .ok (.iconst 1, 1) := by decide +kernel
theorem dX9_firstOn_42 : decode cX9_firstOn 42 = .ok (.if_icmp .eq 62, 3) := by decide +kernel
theorem dX9_firstOn_45 : decode cX9_firstOn 45 = .ok (.aload_n 0, 1) := by decide +kernel
theorem dX9_firstOn_46 : decode cX9_firstOn 46 = .ok (.getfield 99, 3) := by decide +kernel
theorem dX9_firstOn_49 : decode cX9_firstOn 49 = .ok (.iload 4, 2) := by decide +kernel
theorem dX9_firstOn_51 : decode cX9_firstOn 51 = .ok (.iaload, 1) := by decide +kernel
theorem dX9_firstOn_52 : decode cX9_firstOn 52 = .ok (.ldc 233, 2) := by decide +kernel
theorem dX9_firstOn_54 : decode cX9_firstOn 54 = .ok (.if_icmp .eq 50, 3) := by decide +kernel
theorem dX9_firstOn_57 : decode cX9_firstOn 57 = .ok (.aload_n 0, 1) := by decide +kernel
theorem dX9_firstOn_58 : decode cX9_firstOn 58 = .ok (.getfield 99, 3) := by decide +kernel
theorem dX9_firstOn_61 : decode cX9_firstOn 61 = .ok (.iload 4, 2) := by decide +kernel
theorem dX9_firstOn_63 : decode cX9_firstOn 63 = .ok (.iaload, 1) := by decide +kernel
theorem dX9_firstOn_64 : decode cX9_firstOn 64 = .ok (.sipush 1000, 3) := by decide +kernel
theorem dX9_firstOn_67 : decode cX9_firstOn 67 = .ok (.aload_n 0, 1) := by decide +kernel
theorem dX9_firstOn_68 : decode cX9_firstOn 68 = .ok (.getfield 96, 3) := by decide +kernel
theorem dX9_firstOn_71 : decode cX9_firstOn 71 = .ok (.iload 4, 2) := by decide +kernel
theorem dX9_firstOn_73 : decode cX9_firstOn 73 = .ok (.iaload, 1) := by decide +kernel
theorem dX9_firstOn_74 : decode cX9_firstOn 74 = .ok (.imul, 1) := by decide +kernel
theorem dX9_firstOn_75 : decode cX9_firstOn 75 = .ok (.iadd, 1) := by decide +kernel
theorem dX9_firstOn_76 : decode cX9_firstOn 76 = .ok (.iconst 1, 1) := by decide +kernel
theorem dX9_firstOn_77 : decode cX9_firstOn 77 = .ok (.iadd, 1) := by decide +kernel
theorem dX9_firstOn_78 : decode cX9_firstOn 78 = .ok (.aload_n 0, 1) := by decide +kernel
theorem dX9_firstOn_79 : decode cX9_firstOn 79 = .ok (.getfield 99, 3) := by decide +kernel
theorem dX9_firstOn_82 : decode cX9_firstOn 82 = .ok (.iload_n 1, 1) := by decide +kernel
theorem dX9_firstOn_83 : decode cX9_firstOn 83 = .ok (.iaload, 1) := by decide +kernel
theorem dX9_firstOn_84 : decode cX9_firstOn 84 = .ok (.if_icmp .eq 6, 3) := by decide +kernel
theorem dX9_firstOn_87 : decode cX9_firstOn 87 = .ok (.goto 17, 3) := by decide +kernel
theorem dX9_firstOn_90 : decode cX9_firstOn 90 = .ok (.iload_n 2, 1) := by decide +kernel
theorem dX9_firstOn_91 : decode cX9_firstOn 91 = .ok (.iconst (-1), 1) := by decide +kernel
theorem dX9_firstOn_92 : decode cX9_firstOn 92 = .ok (.if_icmp .eq 9, 3) := by decide +kernel
theorem dX9_firstOn_95 : decode cX9_firstOn 95 = .ok (.iload 4, 2) := by decide +kernel
theorem dX9_firstOn_97 : decode cX9_firstOn 97 = .ok (.iload_n 2, 1) := by decide +kernel
theorem dX9_firstOn_98 : decode cX9_firstOn 98 = .ok (.if_icmp .ge 6, 3) := by decide +kernel
theorem dX9_firstOn_101 : decode cX9_firstOn 101 = .ok (.iload 4, 2) := by decide +kernel
theorem dX9_firstOn_103 : decode cX9_firstOn 103 = .ok (.istore_n 2, 1) := by decide +kernel
theorem dX9_firstOn_104 : decode cX9_firstOn 104 = .ok (.iinc 3 1, 3) := by decide +kernel
theorem dX9_firstOn_107 : decode cX9_firstOn 107 = .ok (.goto (-92), 3) := by decide +kernel
theorem dX9_firstOn_110 : decode cX9_firstOn 110 = .ok (.iload_n 2, 1) := by decide +kernel
theorem dX9_firstOn_111 : decode cX9_firstOn 111 = .ok (.ireturn, 1) := by decide +kernel
theorem dX9_walk_0 : decode cX9_walk 0 = .ok (.aload_n 0, 1) := by decide +kernel
theorem dX9_walk_1 : decode cX9_walk 1 = .ok (.iload_n 1, 1) := by decide +kernel
theorem dX9_walk_2 : decode cX9_walk 2 = .ok (.invokevirtual 119, 3) := by decide +kernel
theorem dX9_walk_5 : decode cX9_walk 5 = .ok (.ifCond .ne 9, 3) := by decide +kernel
theorem dX9_walk_8 : decode cX9_walk 8 = .ok (.aload_n 0, 1) := by decide +kernel
theorem dX9_walk_9 : decode cX9_walk 9 = .ok (.iconst (-1), 1) := by decide +kernel
theorem dX9_walk_10 : decode cX9_walk 10 = .ok (.invokevirtual 237, 3) := by decide +kernel
theorem dX9_walk_13 : decode cX9_walk 13 = .ok (.ireturn, 1) := by decide +kernel
theorem dX9_walk_14 : decode cX9_walk 14 = .ok (.iload_n 3, 1) := by decide +kernel
theorem dX9_walk_15 : decode cX9_walk 15 = .ok (.ifCond .lt 8, 3) := by decide +kernel
theorem dX9_walk_18 : decode cX9_walk 18 = .ok (.iload_n 3, 1) := by decide +kernel
theorem dX9_walk_19 : decode cX9_walk 19 = .ok (.iconst 2, 1) := by decide +kernel
theorem dX9_walk_20 : decode cX9_walk 20 = .ok (.if_icmp .le 10, 3) := by decide +kernel
theorem dX9_walk_23 : decode cX9_walk 23 = .ok (.aload_n 0, 1) := by decide +kernel
theorem dX9_walk_24 : decode cX9_walk 24 = .ok (.bipush (-5), 2) := by decide +kernel
theorem dX9_walk_26 : decode cX9_walk 26 = .ok (.invokevirtual 237, 3) := by decide +kernel
theorem dX9_walk_29 : decode cX9_walk 29 = .ok (.ireturn, 1) := by decide +kernel
theorem dX9_walk_30 : decode cX9_walk 30 = .ok (.aload_n 0, 1) := by decide +kernel
theorem dX9_walk_31 : decode cX9_walk 31 = .ok (.iload_n 2, 1) := by decide +kernel
theorem dX9_walk_32 : decode cX9_walk 32 = .ok (.invokevirtual 129, 3) := by decide +kernel
theorem dX9_walk_35 : decode cX9_walk 35 = .ok (.ifCond .eq 13, 3) := by decide +kernel
theorem dX9_walk_38 : decode cX9_walk 38 = .ok (.aload_n 0, 1) := by decide +kernel
theorem dX9_walk_39 : decode cX9_walk 39 = .ok (.getfield 47, 3) := by decide +kernel
theorem dX9_walk_42 : decode cX9_walk 42 = .ok (.iload_n 2, 1) := by decide +kernel
theorem dX9_walk_43 : decode cX9_walk 43 = .ok (.iaload, 1) := by decide +kernel
theorem dX9_walk_44 : decode cX9_walk 44 = .ok (.iconst 1, 1) := by decide +kernel
theorem dX9_walk_45 : decode cX9_walk 45 = .ok (.if_icmp .ne 10, 3) := by decide +kernel
theorem dX9_walk_48 : decode cX9_walk 48 = .ok (.aload_n 0, 1) := by decide +kernel
theorem dX9_walk_49 : decode cX9_walk 49 = .ok (.bipush (-6), 2) := by decide +kernel
theorem dX9_walk_51 : decode cX9_walk 51 = .ok (.invokevirtual 237, 3) := by decide +kernel
theorem dX9_walk_54 : decode cX9_walk 54 = .ok (.ireturn, 1) := by decide +kernel
theorem dX9_walk_55 : decode cX9_walk 55 = .ok (.aload_n 0, 1) := by decide +kernel
theorem dX9_walk_56 : decode cX9_walk 56 = .ok (.iload_n 1, 1) := by decide +kernel
theorem dX9_walk_57 : decode cX9_walk 57 = .ok (.invokevirtual 240, 3) := by decide +kernel
theorem dX9_walk_60 : decode cX9_walk 60 = .ok (.aload_n 0, 1) := by decide +kernel
theorem dX9_walk_61 : decode cX9_walk 61 = .ok (.iload_n 2, 1) := by decide +kernel
theorem dX9_walk_62 : decode cX9_walk 62 = .ok (.invokevirtual 244, 3) := by decide +kernel
theorem dX9_walk_65 : decode cX9_walk 65 = .ok (.aload_n 0, 1) := by decide +kernel
theorem dX9_walk_66 : decode cX9_walk 66 = .ok (.getfield 99, 3) := by decide +kernel
theorem dX9_walk_69 : decode cX9_walk 69 = .ok (.aload_n 0, 1) := by decide +kernel
theorem dX9_walk_70 : decode cX9_walk 70 = .ok (.getfield 41, 3) := by decide +kernel
theorem dX9_walk_73 : decode cX9_walk 73 = .ok (.iload_n 1, 1) := by decide +kernel
theorem dX9_walk_74 : decode cX9_walk 74 = .ok (.iaload, 1) := by decide +kernel
theorem dX9_walk_75 : decode cX9_walk 75 = .ok (.iaload, 1) := by decide +kernel
theorem dX9_walk_76 : decode cX9_walk 76 = .ok (.istore 4, 2) := by decide +kernel
theorem dX9_walk_78 : decode cX9_walk 78 = .ok (.iload 4, 2) := by decide +kernel
theorem dX9_walk_80 : decode cX9_walk 80 = .ok (.ldc 233, 2) := by decide +kernel
theorem dX9_walk_82 : decode cX9_walk 82 = .ok (.if_icmp .ne 5, 3) := by decide +kernel
theorem dX9_walk_85 : decode cX9_walk 85 = .ok (.iconst (-1), 1) := by decide +kernel
theorem dX9_walk_86 : decode cX9_walk 86 = .ok (.ireturn, 1) := by decide +kernel
theorem dX9_walk_87 : decode cX9_walk 87 = .ok (.iload_n 3, 1) := by decide +kernel
theorem dX9_walk_88 : decode cX9_walk 88 = .ok (.ifCond .ne 12, 3) := by decide +kernel
theorem dX9_walk_91 : decode cX9_walk 91 = .ok (.iload 4, 2) := by decide +kernel
theorem dX9_walk_93 : decode cX9_walk 93 = .ok (.sipush 1000, 3) := by decide +kernel
theorem dX9_walk_96 : decode cX9_walk 96 = .ok (.idiv, 1) := by decide +kernel
theorem dX9_walk_97 : decode cX9_walk 97 = .ok (.goto 27, 3) := by decide +kernel
theorem dX9_walk_100 : decode cX9_walk 100 = .ok (.iload_n 3, 1) := by decide +kernel
theorem dX9_walk_101 : decode cX9_walk 101 = .ok (.iconst 1, 1) := by decide +kernel
theorem dX9_walk_102 : decode cX9_walk 102 = .ok (.if_icmp .ne 12, 3) := by decide +kernel
theorem dX9_walk_105 : decode cX9_walk 105 = .ok (.iload 4, 2) := by decide +kernel
theorem dX9_walk_107 : decode cX9_walk 107 = .ok (.sipush 1000, 3) := by decide +kernel
theorem dX9_walk_110 : decode cX9_walk 110 = .ok (.irem, 1) := by decide +kernel
theorem dX9_walk_111 : decode cX9_walk 111 = .ok (.goto 13, 3) := by decide +kernel
theorem dX9_walk_114 : decode cX9_walk 114 = .ok (.aload_n 0, 1) := by decide +kernel
theorem dX9_walk_115 : decode cX9_walk 115 = .ok (.aload_n 0, 1) := by decide +kernel
theorem dX9_walk_116 : decode cX9_walk 116 = .ok (.getfield 41, 3) := by decide +kernel
theorem dX9_walk_119 : decode cX9_walk 119 = .ok (.iload_n 1, 1) := by decide +kernel
theorem dX9_walk_120 : decode cX9_walk 120 = .ok (.iaload, 1) := by decide +kernel
theorem dX9_walk_121 : decode cX9_walk 121 = .ok (.invokevirtual 247, 3) := by decide +kernel
theorem dX9_walk_124 : decode cX9_walk 124 = .ok (.ireturn, 1) := by decide +kernel
theorem dX9_stand_0 : decode cX9_stand 0 = .ok (.aload_n 0, 1) := by decide +kernel
theorem dX9_stand_1 : decode cX9_stand 1 = .ok (.iload_n 1, 1) := by decide +kernel
theorem dX9_stand_2 : decode cX9_stand 2 = .ok (.invokevirtual 119, 3) := by decide +kernel
theorem dX9_stand_5 : decode cX9_stand 5 = .ok (.ifCond .ne 9, 3) := by decide +kernel
theorem dX9_stand_8 : decode cX9_stand 8 = .ok (.aload_n 0, 1) := by decide +kernel
theorem dX9_stand_9 : decode cX9_stand 9 = .ok (.iconst (-1), 1) := by decide +kernel
theorem dX9_stand_10 : decode cX9_stand 10 = .ok (.invokevirtual 115, 3) := by decide +kernel
theorem dX9_stand_13 : decode cX9_stand 13 = .ok (.ireturn, 1) := by decide +kernel
theorem dX9_stand_14 : decode cX9_stand 14 = .ok (.iload_n 2, 1) := by decide +kernel
theorem dX9_stand_15 : decode cX9_stand 15 = .ok (.ifCond .lt 8, 3) := by decide +kernel
theorem dX9_stand_18 : decode cX9_stand 18 = .ok (.iload_n 2, 1) := by decide +kernel
theorem dX9_stand_19 : decode cX9_stand 19 = .ok (.iconst 1, 1) := by decide +kernel
theorem dX9_stand_20 : decode cX9_stand 20 = .ok (.if_icmp .le 10, 3) := by decide +kernel
theorem dX9_stand_23 : decode cX9_stand 23 = .ok (.aload_n 0, 1) := by decide +kernel
theorem dX9_stand_24 : decode cX9_stand 24 = .ok (.bipush (-5), 2) := by decide +kernel
theorem dX9_stand_26 : decode cX9_stand 26 = .ok (.invokevirtual 115, 3) := by decide +kernel
theorem dX9_stand_29 : decode cX9_stand 29 = .ok (.ireturn, 1) := by decide +kernel
theorem dX9_stand_30 : decode cX9_stand 30 = .ok (.aload_n 0, 1) := by decide +kernel
theorem dX9_stand_31 : decode cX9_stand 31 = .ok (.iload_n 1, 1) := by decide +kernel
theorem dX9_stand_32 : decode cX9_stand 32 = .ok (.invokevirtual 240, 3) := by decide +kernel
theorem dX9_stand_35 : decode cX9_stand 35 = .ok (.iconst 0, 1) := by decide +kernel
theorem dX9_stand_36 : decode cX9_stand 36 = .ok (.istore_n 3, 1) := by decide +kernel
theorem dX9_stand_37 : decode cX9_stand 37 = .ok (.iconst 1, 1) := by decide +kernel
theorem dX9_stand_38 : decode cX9_stand 38 = .ok (.istore 4, 2) := by decide +kernel
theorem dX9_stand_40 : decode cX9_stand 40 = .ok (.iload 4, 2) := by decide +kernel
theorem dX9_stand_42 : decode cX9_stand 42 = .ok (.bipush 36, 2) := by decide +kernel
theorem dX9_stand_44 : decode cX9_stand 44 = .ok (.if_icmp .ge 28, 3) := by decide +kernel
theorem dX9_stand_47 : decode cX9_stand 47 = .ok (.aload_n 0, 1) := by decide +kernel
theorem dX9_stand_48 : decode cX9_stand 48 = .ok (.getfield 96, 3) := by decide +kernel
theorem dX9_stand_51 : decode cX9_stand 51 = .ok (.iload 4, 2) := by decide +kernel
theorem dX9_stand_53 : decode cX9_stand 53 = .ok (.iaload, 1) := by decide +kernel
theorem dX9_stand_54 : decode cX9_stand 54 = .ok (.aload_n 0, 1) := by decide +kernel
theorem dX9_stand_55 : decode cX9_stand 55 = .ok (.getfield 96, 3) := by decide +kernel
theorem dX9_stand_58 : decode cX9_stand 58 = .ok (.iload_n 3, 1) := by decide +kernel
theorem dX9_stand_59 : decode cX9_stand 59 = .ok (.iaload, 1) := by decide +kernel
theorem dX9_stand_60 : decode cX9_stand 60 = .ok (.if_icmp .ge 6, 3) := by decide +kernel
theorem dX9_stand_63 : decode cX9_stand 63 = .ok (.iload 4, 2) := by decide +kernel
theorem dX9_stand_65 : decode cX9_stand 65 = .ok (.istore_n 3, 1) := by decide +kernel
theorem dX9_stand_66 : decode cX9_stand 66 = .ok (.iinc 4 1, 3) := by decide +kernel
theorem dX9_stand_69 : decode cX9_stand 69 = .ok (.goto (-29), 3) := by decide +kernel
theorem dX9_stand_72 : decode cX9_stand 72 = .ok (.iload_n 2, 1) := by decide +kernel
theorem dX9_stand_73 : decode cX9_stand 73 = .ok (.ifCond .ne 7, 3) := by decide +kernel
theorem dX9_stand_76 : decode cX9_stand 76 = .ok (.iload_n 3, 1) := by decide +kernel
theorem dX9_stand_77 : decode cX9_stand 77 = .ok (.goto 9, 3) := by decide +kernel
theorem dX9_stand_80 : decode cX9_stand 80 = .ok (.aload_n 0, 1) := by decide +kernel
theorem dX9_stand_81 : decode cX9_stand 81 = .ok (.getfield 96, 3) := by decide +kernel
theorem dX9_stand_84 : decode cX9_stand 84 = .ok (.iload_n 3, 1) := by decide +kernel
theorem dX9_stand_85 : decode cX9_stand 85 = .ok (.iaload, 1) := by decide +kernel
theorem dX9_stand_86 : decode cX9_stand 86 = .ok (.ireturn, 1) := by decide +kernel
theorem dX9_sacks_0 : decode cX9_sacks 0 = .ok (.iload_n 2, 1) := by decide +kernel
theorem dX9_sacks_1 : decode cX9_sacks 1 = .ok (.ifCond .lt 8, 3) := by decide +kernel
theorem dX9_sacks_4 : decode cX9_sacks 4 = .ok (.iload_n 2, 1) := by decide +kernel
theorem dX9_sacks_5 : decode cX9_sacks 5 = .ok (.iconst 1, 1) := by decide +kernel
theorem dX9_sacks_6 : decode cX9_sacks 6 = .ok (.if_icmp .le 10, 3) := by decide +kernel
theorem dX9_sacks_9 : decode cX9_sacks 9 = .ok (.aload_n 0, 1) := by decide +kernel
theorem dX9_sacks_10 : decode cX9_sacks 10 = .ok (.bipush (-5), 2) := by decide +kernel
theorem dX9_sacks_12 : decode cX9_sacks 12 = .ok (.invokevirtual 237, 3) := by decide +kernel
theorem dX9_sacks_15 : decode cX9_sacks 15 = .ok (.ireturn, 1) := by decide +kernel
theorem dX9_sacks_16 : decode cX9_sacks 16 = .ok (.aload_n 0, 1) := by decide +kernel
theorem dX9_sacks_17 : decode cX9_sacks 17 = .ok (.iload_n 1, 1) := by decide +kernel
theorem dX9_sacks_18 : decode cX9_sacks 18 = .ok (.iconst 0, 1) := by decide +kernel
theorem dX9_sacks_19 : decode cX9_sacks 19 = .ok (.iconst 3, 1) := by decide +kernel
theorem dX9_sacks_20 : decode cX9_sacks 20 = .ok (.invokevirtual 125, 3) := by decide +kernel
theorem dX9_sacks_23 : decode cX9_sacks 23 = .ok (.ifCond .ne 10, 3) := by decide +kernel
theorem dX9_sacks_26 : decode cX9_sacks 26 = .ok (.aload_n 0, 1) := by decide +kernel
theorem dX9_sacks_27 : decode cX9_sacks 27 = .ok (.bipush (-6), 2) := by decide +kernel
theorem dX9_sacks_29 : decode cX9_sacks 29 = .ok (.invokevirtual 237, 3) := by decide +kernel
theorem dX9_sacks_32 : decode cX9_sacks 32 = .ok (.ireturn, 1) := by decide +kernel
theorem dX9_sacks_33 : decode cX9_sacks 33 = .ok (.iconst (-1), 1) := by decide +kernel
theorem dX9_sacks_34 : decode cX9_sacks 34 = .ok (.istore_n 3, 1) := by decide +kernel
theorem dX9_sacks_35 : decode cX9_sacks 35 = .ok (.iconst (-1), 1) := by decide +kernel
theorem dX9_sacks_36 : decode cX9_sacks 36 = .ok (.istore 4, 2) := by decide +kernel
theorem dX9_sacks_38 : decode cX9_sacks 38 = .ok (.iconst 0, 1) := by decide +kernel
theorem dX9_sacks_39 : decode cX9_sacks 39 = .ok (.istore 5, 2) := by decide +kernel
theorem dX9_sacks_41 : decode cX9_sacks 41 = .ok (.iload 5, 2) := by decide +kernel
theorem dX9_sacks_43 : decode cX9_sacks 43 = .ok (.aload_n 0, 1) := by decide +kernel
theorem dX9_sacks_44 : decode cX9_sacks 44 = .ok (.getfield 108, 3) := by decide +kernel
theorem dX9_sacks_47 : decode cX9_sacks 47 = .ok (.if_icmp .ge 23, 3) := by decide +kernel
theorem dX9_sacks_50 : decode cX9_sacks 50 = .ok (.aload_n 0, 1) := by decide +kernel
theorem dX9_sacks_51 : decode cX9_sacks 51 = .ok (.getfield 102, 3) := by decide +kernel
theorem dX9_sacks_54 : decode cX9_sacks 54 = .ok (.iload 5, 2) := by decide +kernel
theorem dX9_sacks_56 : decode cX9_sacks 56 = .ok (.aload_n 0, 1) := by decide +kernel
theorem dX9_sacks_57 : decode cX9_sacks 57 = .ok (.getfield 44, 3) := by decide +kernel
theorem dX9_sacks_60 : decode cX9_sacks 60 = .ok (.iload 5, 2) := by decide +kernel
theorem dX9_sacks_62 : decode cX9_sacks 62 = .ok (.iaload, 1) := by decide +kernel
theorem dX9_sacks_63 : decode cX9_sacks 63 = .ok (.iastore, 1) := by decide +kernel
theorem dX9_sacks_64 : decode cX9_sacks 64 = .ok (.iinc 5 1, 3) := by decide +kernel
theorem dX9_sacks_67 : decode cX9_sacks 67 = .ok (.goto (-26), 3) := by decide +kernel
theorem dX9_sacks_70 : decode cX9_sacks 70 = .ok (.iconst 0, 1) := by decide +kernel
theorem dX9_sacks_71 : decode cX9_sacks 71 = .ok (.istore 5, 2) := by decide +kernel
theorem dX9_sacks_73 : decode cX9_sacks 73 = .ok (.iload 5, 2) := by decide +kernel
theorem dX9_sacks_75 : decode cX9_sacks 75 = .ok (.iconst 1, 1) := by decide +kernel
theorem dX9_sacks_76 : decode cX9_sacks 76 = .ok (.aload_n 0, 1) := by decide +kernel
theorem dX9_sacks_77 : decode cX9_sacks 77 = .ok (.getfield 108, 3) := by decide +kernel
theorem dX9_sacks_80 : decode cX9_sacks 80 = .ok (.ishl, 1) := by decide +kernel
theorem dX9_sacks_81 : decode cX9_sacks 81 = .ok (.if_icmp .ge 97, 3) := by decide +kernel
theorem dX9_sacks_84 : decode cX9_sacks 84 = .ok (.aload_n 0, 1) := by decide +kernel
theorem dX9_sacks_85 : decode cX9_sacks 85 = .ok (.iload 5, 2) := by decide +kernel
theorem dX9_sacks_87 : decode cX9_sacks 87 = .ok (.invokevirtual 224, 3) := by decide +kernel
theorem dX9_sacks_90 : decode cX9_sacks 90 = .ok (.iload_n 1, 1) := by decide +kernel
theorem dX9_sacks_91 : decode cX9_sacks 91 = .ok (.if_icmp .eq 6, 3) := by decide +kernel
theorem dX9_sacks_94 : decode cX9_sacks 94 = .ok (.goto 78, 3) := by decide +kernel
theorem dX9_sacks_97 : decode cX9_sacks 97 = .ok (.iconst 0, 1) := by decide +kernel
theorem dX9_sacks_98 : decode cX9_sacks 98 = .ok (.istore 6, 2) := by decide +kernel
theorem dX9_sacks_100 : decode cX9_sacks 100 = .ok (.iload 6, 2) := by decide +kernel
theorem dX9_sacks_102 : decode cX9_sacks 102 = .ok (.aload_n 0, 1) := by decide +kernel
theorem dX9_sacks_103 : decode cX9_sacks 103 = .ok (.getfield 108, 3) := by decide +kernel
theorem dX9_sacks_106 : decode cX9_sacks 106 = .ok (.if_icmp .ge 38, 3) := by decide +kernel
theorem dX9_sacks_109 : decode cX9_sacks 109 = .ok (.aload_n 0, 1) := by decide +kernel
theorem dX9_sacks_110 : decode cX9_sacks 110 = .ok (.getfield 44, 3) := by decide +kernel
theorem dX9_sacks_113 : decode cX9_sacks 113 = .ok (.iload 6, 2) := by decide +kernel
theorem dX9_sacks_115 : decode cX9_sacks 115 = .ok (.iload 5, 2) := by decide +kernel
theorem dX9_sacks_117 : decode cX9_sacks 117 = .ok (.iload 6, 2) := by decide +kernel
theorem dX9_sacks_119 : decode cX9_sacks 119 = .ok (.ishr, 1) := by decide +kernel
theorem dX9_sacks_120 : decode cX9_sacks 120 = .ok (.iconst 1, 1) := by decide +kernel
theorem dX9_sacks_121 : decode cX9_sacks 121 = .ok (.iand, 1) := by decide +kernel
theorem dX9_sacks_122 : decode cX9_sacks 122 = .ok (.iconst 1, 1) := by decide +kernel
theorem dX9_sacks_123 : decode cX9_sacks 123 = .ok (.if_icmp .ne 7, 3) := by decide +kernel
theorem dX9_sacks_126 : decode cX9_sacks 126 = .ok (.iconst 1, 1) := by decide +kernel
theorem dX9_sacks_127 : decode cX9_sacks 127 = .ok (.goto 10, 3) := by decide +kernel
theorem dX9_sacks_130 : decode cX9_sacks 130 = .ok (.aload_n 0, 1) := by decide +kernel
theorem dX9_sacks_131 : decode cX9_sacks 131 = .ok (.getfield 102, 3) := by decide +kernel
theorem dX9_sacks_134 : decode cX9_sacks 134 = .ok (.iload 6, 2) := by decide +kernel
theorem dX9_sacks_136 : decode cX9_sacks 136 = .ok (.iaload, 1) := by decide +kernel
theorem dX9_sacks_137 : decode cX9_sacks 137 = .ok (.iastore, 1) := by decide +kernel
theorem dX9_sacks_138 : decode cX9_sacks 138 = .ok (.iinc 6 1, 3) := by decide +kernel
theorem dX9_sacks_141 : decode cX9_sacks 141 = .ok (.goto (-41), 3) := by decide +kernel
theorem dX9_sacks_144 : decode cX9_sacks 144 = .ok (.aload_n 0, 1) := by decide +kernel
theorem dX9_sacks_145 : decode cX9_sacks 145 = .ok (.invokevirtual 250, 3) := by decide +kernel
theorem dX9_sacks_148 : decode cX9_sacks 148 = .ok (.istore 6, 2) := by decide +kernel
theorem dX9_sacks_150 : decode cX9_sacks 150 = .ok (.iload_n 3, 1) := by decide +kernel
theorem dX9_sacks_151 : decode cX9_sacks 151 = .ok (.iconst (-1), 1) := by decide +kernel
theorem dX9_sacks_152 : decode cX9_sacks 152 = .ok (.if_icmp .eq 13, 3) := by decide +kernel
theorem dX9_sacks_155 : decode cX9_sacks 155 = .ok (.iload 6, 2) := by decide +kernel
theorem dX9_sacks_157 : decode cX9_sacks 157 = .ok (.iload 4, 2) := by decide +kernel
theorem dX9_sacks_159 : decode cX9_sacks 159 = .ok (.if_icmp .lt 6, 3) := by decide +kernel
theorem dX9_sacks_162 : decode cX9_sacks 162 = .ok (.goto 10, 3) := by decide +kernel
theorem dX9_sacks_165 : decode cX9_sacks 165 = .ok (.iload 5, 2) := by decide +kernel
theorem dX9_sacks_167 : decode cX9_sacks 167 = .ok (.istore_n 3, 1) := by decide +kernel
theorem dX9_sacks_168 : decode cX9_sacks 168 = .ok (.iload 6, 2) := by decide +kernel
theorem dX9_sacks_170 : decode cX9_sacks 170 = .ok (.istore 4, 2) := by decide +kernel
theorem dX9_sacks_172 : decode cX9_sacks 172 = .ok (.iinc 5 1, 3) := by decide +kernel
theorem dX9_sacks_175 : decode cX9_sacks 175 = .ok (.goto (-102), 3) := by decide +kernel
theorem dX9_sacks_178 : decode cX9_sacks 178 = .ok (.iconst 0, 1) := by decide +kernel
theorem dX9_sacks_179 : decode cX9_sacks 179 = .ok (.istore 5, 2) := by decide +kernel
theorem dX9_sacks_181 : decode cX9_sacks 181 = .ok (.iload 5, 2) := by decide +kernel
theorem dX9_sacks_183 : decode cX9_sacks 183 = .ok (.aload_n 0, 1) := by decide +kernel
theorem dX9_sacks_184 : decode cX9_sacks 184 = .ok (.getfield 108, 3) := by decide +kernel
theorem dX9_sacks_187 : decode cX9_sacks 187 = .ok (.if_icmp .ge 23, 3) := by decide +kernel
theorem dX9_sacks_190 : decode cX9_sacks 190 = .ok (.aload_n 0, 1) := by decide +kernel
theorem dX9_sacks_191 : decode cX9_sacks 191 = .ok (.getfield 44, 3) := by decide +kernel
theorem dX9_sacks_194 : decode cX9_sacks 194 = .ok (.iload 5, 2) := by decide +kernel
theorem dX9_sacks_196 : decode cX9_sacks 196 = .ok (.aload_n 0, 1) := by decide +kernel
theorem dX9_sacks_197 : decode cX9_sacks 197 = .ok (.getfield 102, 3) := by decide +kernel
theorem dX9_sacks_200 : decode cX9_sacks 200 = .ok (.iload 5, 2) := by decide +kernel
theorem dX9_sacks_202 : decode cX9_sacks 202 = .ok (.iaload, 1) := by decide +kernel
theorem dX9_sacks_203 : decode cX9_sacks 203 = .ok (.iastore, 1) := by decide +kernel
theorem dX9_sacks_204 : decode cX9_sacks 204 = .ok (.iinc 5 1, 3) := by decide +kernel
theorem dX9_sacks_207 : decode cX9_sacks 207 = .ok (.goto (-26), 3) := by decide +kernel
theorem dX9_sacks_210 : decode cX9_sacks 210 = .ok (.iload_n 2, 1) := by decide +kernel
theorem dX9_sacks_211 : decode cX9_sacks 211 = .ok (.ifCond .ne 7, 3) := by decide +kernel
theorem dX9_sacks_214 : decode cX9_sacks 214 = .ok (.iload_n 3, 1) := by decide +kernel
theorem dX9_sacks_215 : decode cX9_sacks 215 = .ok (.goto 5, 3) := by decide +kernel
theorem dX9_sacks_218 : decode cX9_sacks 218 = .ok (.iload 4, 2) := by decide +kernel
theorem dX9_sacks_220 : decode cX9_sacks 220 = .ok (.ireturn, 1) := by decide +kernel
theorem dX9_allEntered_0 : decode cX9_allEntered 0 = .ok (.iconst 0, 1) := by decide +kernel
theorem dX9_allEntered_1 : decode cX9_allEntered 1 = .ok (.istore_n 1, 1) := by decide +kernel
theorem dX9_allEntered_2 : decode cX9_allEntered 2 = .ok (.iconst 0, 1) := by decide +kernel
theorem dX9_allEntered_3 : decode cX9_allEntered 3 = .ok (.istore_n 2, 1) := by decide +kernel
theorem dX9_allEntered_4 : decode cX9_allEntered 4 = .ok (.iload_n 2, 1) := by decide +kernel
theorem dX9_allEntered_5 : decode cX9_allEntered 5 = .ok (.aload_n 0, 1) := by decide +kernel
theorem dX9_allEntered_6 : decode cX9_allEntered 6 = .ok (.getfield 108, 3) := by decide +kernel
theorem dX9_allEntered_9 : decode cX9_allEntered 9 = .ok (.if_icmp .ge 34, 3) := by decide +kernel
theorem dX9_allEntered_12 : decode cX9_allEntered 12 = .ok (.aload_n 0, 1) := by decide +kernel
theorem dX9_allEntered_13 : decode cX9_allEntered 13 = .ok (.aload_n 0, 1) := by decide +kernel
theorem dX9_allEntered_14 : decode cX9_allEntered 14 = .ok (.getfield 41, 3) := by decide +kernel
theorem dX9_allEntered_17 : decode cX9_allEntered 17 = .ok (.iload_n 2, 1) := by decide +kernel
