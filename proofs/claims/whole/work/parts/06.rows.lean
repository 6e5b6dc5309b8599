theorem dX9_allEntered_18 : decode cX9_allEntered 18 = .ok (.iaload, 1) := by decide +kernel
theorem dX9_allEntered_19 : decode cX9_allEntered 19 = .ok (.invokevirtual 218, 3) := by decide +kernel
theorem dX9_allEntered_22 : decode cX9_allEntered 22 = .ok (.ifCond .eq 15, 3) := by decide +kernel
theorem dX9_allEntered_25 : decode cX9_allEntered 25 = .ok (.iload_n 1, 1) := by decide +kernel
theorem dX9_allEntered_26 : decode cX9_allEntered 26 = .ok (.aload_n 0, 1) := by decide +kernel
theorem dX9_allEntered_27 : decode cX9_allEntered 27 = .ok (.aload_n 0, 1) := by decide +kernel
theorem dX9_allEntered_28 : decode cX9_allEntered 28 = .ok (.iload_n 2, 1) := by decide +kernel
theorem dX9_allEntered_29 : decode cX9_allEntered 29 = .ok (.invokevirtual 221, 3) := by decide +kernel
theorem dX9_allEntered_32 : decode cX9_allEntered 32 = .ok (.invokevirtual 224, 3) := by decide +kernel
theorem dX9_allEntered_35 : decode cX9_allEntered 35 = .ok (.iadd, 1) := by decide +kernel
theorem dX9_allEntered_36 : decode cX9_allEntered 36 = .ok (.istore_n 1, 1) := by decide +kernel
theorem dX9_allEntered_37 : decode cX9_allEntered 37 = .ok (.iinc 2 1, 3) := by decide +kernel
theorem dX9_allEntered_40 : decode cX9_allEntered 40 = .ok (.goto (-36), 3) := by decide +kernel
theorem dX9_allEntered_43 : decode cX9_allEntered 43 = .ok (.iload_n 1, 1) := by decide +kernel
theorem dX9_allEntered_44 : decode cX9_allEntered 44 = .ok (.ireturn, 1) := by decide +kernel
theorem dX9_balconies_0 : decode cX9_balconies 0 = .ok (.iload_n 1, 1) := by decide +kernel
theorem dX9_balconies_1 : decode cX9_balconies 1 = .ok (.ifCond .lt 8, 3) := by decide +kernel
theorem dX9_balconies_4 : decode cX9_balconies 4 = .ok (.iload_n 1, 1) := by decide +kernel
theorem dX9_balconies_5 : decode cX9_balconies 5 = .ok (.iconst 1, 1) := by decide +kernel
theorem dX9_balconies_6 : decode cX9_balconies 6 = .ok (.if_icmp .le 10, 3) := by decide +kernel
theorem dX9_balconies_9 : decode cX9_balconies 9 = .ok (.aload_n 0, 1) := by decide +kernel
theorem dX9_balconies_10 : decode cX9_balconies 10 = .ok (.bipush (-5), 2) := by decide +kernel
theorem dX9_balconies_12 : decode cX9_balconies 12 = .ok (.invokevirtual 115, 3) := by decide +kernel
theorem dX9_balconies_15 : decode cX9_balconies 15 = .ok (.ireturn, 1) := by decide +kernel
theorem dX9_balconies_16 : decode cX9_balconies 16 = .ok (.iconst (-1), 1) := by decide +kernel
theorem dX9_balconies_17 : decode cX9_balconies 17 = .ok (.istore_n 2, 1) := by decide +kernel
theorem dX9_balconies_18 : decode cX9_balconies 18 = .ok (.iconst (-1), 1) := by decide +kernel
theorem dX9_balconies_19 : decode cX9_balconies 19 = .ok (.istore_n 3, 1) := by decide +kernel
theorem dX9_balconies_20 : decode cX9_balconies 20 = .ok (.iconst 0, 1) := by decide +kernel
theorem dX9_balconies_21 : decode cX9_balconies 21 = .ok (.istore 4, 2) := by decide +kernel
theorem dX9_balconies_23 : decode cX9_balconies 23 = .ok (.iload 4, 2) := by decide +kernel
theorem dX9_balconies_25 : decode cX9_balconies 25 = .ok (.bipush 36, 2) := by decide +kernel
theorem dX9_balconies_27 : decode cX9_balconies 27 = .ok (.if_icmp .ge 56, 3) := by decide +kernel
theorem dX9_balconies_30 : decode cX9_balconies 30 = .ok (.aload_n 0, 1) := by decide +kernel
theorem dX9_balconies_31 : decode cX9_balconies 31 = .ok (.getfield 50, 3) := by decide +kernel
theorem dX9_balconies_34 : decode cX9_balconies 34 = .ok (.iload 4, 2) := by decide +kernel
theorem dX9_balconies_36 : decode cX9_balconies 36 = .ok (.iaload, 1) := by decide +kernel
theorem dX9_balconies_37 : decode cX9_balconies 37 = .ok (.istore 5, 2) := by decide +kernel
theorem dX9_balconies_39 : decode cX9_balconies 39 = .ok (.aload_n 0, 1) := by decide +kernel
theorem dX9_balconies_40 : decode cX9_balconies 40 = .ok (.getfield 50, 3) := by decide +kernel
theorem dX9_balconies_43 : decode cX9_balconies 43 = .ok (.iload 4, 2) := by decide +kernel
theorem dX9_balconies_45 : decode cX9_balconies 45 = .ok (.iconst 1, 1) := by decide +kernel
theorem dX9_balconies_46 : decode cX9_balconies 46 = .ok (.iastore, 1) := by decide +kernel
theorem dX9_balconies_47 : decode cX9_balconies 47 = .ok (.aload_n 0, 1) := by decide +kernel
theorem dX9_balconies_48 : decode cX9_balconies 48 = .ok (.invokevirtual 253, 3) := by decide +kernel
theorem dX9_balconies_51 : decode cX9_balconies 51 = .ok (.istore 6, 2) := by decide +kernel
theorem dX9_balconies_53 : decode cX9_balconies 53 = .ok (.aload_n 0, 1) := by decide +kernel
theorem dX9_balconies_54 : decode cX9_balconies 54 = .ok (.getfield 50, 3) := by decide +kernel
theorem dX9_balconies_57 : decode cX9_balconies 57 = .ok (.iload 4, 2) := by decide +kernel
theorem dX9_balconies_59 : decode cX9_balconies 59 = .ok (.iload 5, 2) := by decide +kernel
theorem dX9_balconies_61 : decode cX9_balconies 61 = .ok (.iastore, 1) := by decide +kernel
theorem dX9_balconies_62 : decode cX9_balconies 62 = .ok (.iload 6, 2) := by decide +kernel
theorem dX9_balconies_64 : decode cX9_balconies 64 = .ok (.iload_n 3, 1) := by decide +kernel
theorem dX9_balconies_65 : decode cX9_balconies 65 = .ok (.if_icmp .gt 6, 3) := by decide +kernel
theorem dX9_balconies_68 : decode cX9_balconies 68 = .ok (.goto 9, 3) := by decide +kernel
theorem dX9_balconies_71 : decode cX9_balconies 71 = .ok (.iload 4, 2) := by decide +kernel
theorem dX9_balconies_73 : decode cX9_balconies 73 = .ok (.istore_n 2, 1) := by decide +kernel
theorem dX9_balconies_74 : decode cX9_balconies 74 = .ok (.iload 6, 2) := by decide +kernel
theorem dX9_balconies_76 : decode cX9_balconies 76 = .ok (.istore_n 3, 1) := by decide +kernel
theorem dX9_balconies_77 : decode cX9_balconies 77 = .ok (.iinc 4 1, 3) := by decide +kernel
theorem dX9_balconies_80 : decode cX9_balconies 80 = .ok (.goto (-57), 3) := by decide +kernel
theorem dX9_balconies_83 : decode cX9_balconies 83 = .ok (.iload_n 1, 1) := by decide +kernel
theorem dX9_balconies_84 : decode cX9_balconies 84 = .ok (.ifCond .ne 7, 3) := by decide +kernel
theorem dX9_balconies_87 : decode cX9_balconies 87 = .ok (.iload_n 2, 1) := by decide +kernel
theorem dX9_balconies_88 : decode cX9_balconies 88 = .ok (.goto 4, 3) := by decide +kernel
theorem dX9_balconies_91 : decode cX9_balconies 91 = .ok (.iload_n 3, 1) := by decide +kernel
theorem dX9_balconies_92 : decode cX9_balconies 92 = .ok (.ireturn, 1) := by decide +kernel
theorem dX9_fits_0 : decode cX9_fits 0 = .ok (.aload_n 0, 1) := by decide +kernel
theorem dX9_fits_1 : decode cX9_fits 1 = .ok (.iload_n 2, 1) := by decide +kernel
theorem dX9_fits_2 : decode cX9_fits 2 = .ok (.invokevirtual 119, 3) := by decide +kernel
theorem dX9_fits_5 : decode cX9_fits 5 = .ok (.ifCond .ne 7, 3) := by decide +kernel
theorem dX9_fits_8 : decode cX9_fits 8 = .ok (.iconst (-1), 1) := by decide +kernel
theorem dX9_fits_9 : decode cX9_fits 9 = .ok (.goto 8, 3) := by decide +kernel
theorem dX9_fits_12 : decode cX9_fits 12 = .ok (.aload_n 0, 1) := by decide +kernel
theorem dX9_fits_13 : decode cX9_fits 13 = .ok (.iload_n 1, 1) := by decide +kernel
theorem dX9_fits_14 : decode cX9_fits 14 = .ok (.invokevirtual 195, 3) := by decide +kernel
theorem dX9_fits_17 : decode cX9_fits 17 = .ok (.istore_n 3, 1) := by decide +kernel
theorem dX9_fits_18 : decode cX9_fits 18 = .ok (.iload_n 3, 1) := by decide +kernel
theorem dX9_fits_19 : decode cX9_fits 19 = .ok (.ifCond .ne 19, 3) := by decide +kernel
theorem dX9_fits_22 : decode cX9_fits 22 = .ok (.aload_n 0, 1) := by decide +kernel
theorem dX9_fits_23 : decode cX9_fits 23 = .ok (.getfield 59, 3) := by decide +kernel
theorem dX9_fits_26 : decode cX9_fits 26 = .ok (.iload_n 1, 1) := by decide +kernel
theorem dX9_fits_27 : decode cX9_fits 27 = .ok (.iaload, 1) := by decide +kernel
theorem dX9_fits_28 : decode cX9_fits 28 = .ok (.aload_n 0, 1) := by decide +kernel
theorem dX9_fits_29 : decode cX9_fits 29 = .ok (.getfield 108, 3) := by decide +kernel
theorem dX9_fits_32 : decode cX9_fits 32 = .ok (.if_icmp .ge 6, 3) := by decide +kernel
theorem dX9_fits_35 : decode cX9_fits 35 = .ok (.bipush (-5), 2) := by decide +kernel
theorem dX9_fits_37 : decode cX9_fits 37 = .ok (.istore_n 3, 1) := by decide +kernel
theorem dX9_fits_38 : decode cX9_fits 38 = .ok (.iload_n 3, 1) := by decide +kernel
theorem dX9_fits_39 : decode cX9_fits 39 = .ok (.ifCond .eq 9, 3) := by decide +kernel
theorem dX9_fits_42 : decode cX9_fits 42 = .ok (.aload_n 0, 1) := by decide +kernel
theorem dX9_fits_43 : decode cX9_fits 43 = .ok (.iload_n 3, 1) := by decide +kernel
theorem dX9_fits_44 : decode cX9_fits 44 = .ok (.invokevirtual 115, 3) := by decide +kernel
theorem dX9_fits_47 : decode cX9_fits 47 = .ok (.ireturn, 1) := by decide +kernel
theorem dX9_fits_48 : decode cX9_fits 48 = .ok (.aload_n 0, 1) := by decide +kernel
theorem dX9_fits_49 : decode cX9_fits 49 = .ok (.getfield 32, 3) := by decide +kernel
theorem dX9_fits_52 : decode cX9_fits 52 = .ok (.iload_n 2, 1) := by decide +kernel
theorem dX9_fits_53 : decode cX9_fits 53 = .ok (.iaload, 1) := by decide +kernel
theorem dX9_fits_54 : decode cX9_fits 54 = .ok (.istore 4, 2) := by decide +kernel
theorem dX9_fits_56 : decode cX9_fits 56 = .ok (.iconst 0, 1) := by decide +kernel
theorem dX9_fits_57 : decode cX9_fits 57 = .ok (.istore 5, 2) := by decide +kernel
theorem dX9_fits_59 : decode cX9_fits 59 = .ok (.iconst 0, 1) := by decide +kernel
theorem dX9_fits_60 : decode cX9_fits 60 = .ok (.istore 6, 2) := by decide +kernel
theorem dX9_fits_62 : decode cX9_fits 62 = .ok (.iload 6, 2) := by decide +kernel
theorem dX9_fits_64 : decode cX9_fits 64 = .ok (.bipush 20, 2) := by decide +kernel
theorem dX9_fits_66 : decode cX9_fits 66 = .ok (.if_icmp .gt 80, 3) := by decide +kernel
theorem dX9_fits_69 : decode cX9_fits 69 = .ok (.aload_n 0, 1) := by decide +kernel
theorem dX9_fits_70 : decode cX9_fits 70 = .ok (.getfield 32, 3) := by decide +kernel
theorem dX9_fits_73 : decode cX9_fits 73 = .ok (.iload_n 2, 1) := by decide +kernel
theorem dX9_fits_74 : decode cX9_fits 74 = .ok (.iload 6, 2) := by decide +kernel
theorem dX9_fits_76 : decode cX9_fits 76 = .ok (.iastore, 1) := by decide +kernel
theorem dX9_fits_77 : decode cX9_fits 77 = .ok (.iconst 1, 1) := by decide +kernel
theorem dX9_fits_78 : decode cX9_fits 78 = .ok (.istore 7, 2) := by decide +kernel
theorem dX9_fits_80 : decode cX9_fits 80 = .ok (.iconst 0, 1) := by decide +kernel
theorem dX9_fits_81 : decode cX9_fits 81 = .ok (.istore 8, 2) := by decide +kernel
theorem dX9_fits_83 : decode cX9_fits 83 = .ok (.iload 8, 2) := by decide +kernel
theorem dX9_fits_85 : decode cX9_fits 85 = .ok (.aload_n 0, 1) := by decide +kernel
theorem dX9_fits_86 : decode cX9_fits 86 = .ok (.getfield 108, 3) := by decide +kernel
theorem dX9_fits_89 : decode cX9_fits 89 = .ok (.if_icmp .ge 37, 3) := by decide +kernel
theorem dX9_fits_92 : decode cX9_fits 92 = .ok (.iload 7, 2) := by decide +kernel
theorem dX9_fits_94 : decode cX9_fits 94 = .ok (.ifCond .eq 32, 3) := by decide +kernel
theorem dX9_fits_97 : decode cX9_fits 97 = .ok (.aload_n 0, 1) := by decide +kernel
theorem dX9_fits_98 : decode cX9_fits 98 = .ok (.iload 8, 2) := by decide +kernel
theorem dX9_fits_100 : decode cX9_fits 100 = .ok (.invokevirtual 227, 3) := by decide +kernel
theorem dX9_fits_103 : decode cX9_fits 103 = .ok (.aload_n 0, 1) := by decide +kernel
theorem dX9_fits_104 : decode cX9_fits 104 = .ok (.iload_n 1, 1) := by decide +kernel
theorem dX9_fits_105 : decode cX9_fits 105 = .ok (.iload 8, 2) := by decide +kernel
theorem dX9_fits_107 : decode cX9_fits 107 = .ok (.invokevirtual 256, 3) := by decide +kernel
theorem dX9_fits_110 : decode cX9_fits 110 = .ok (.if_icmp .ne 7, 3) := by decide +kernel
theorem dX9_fits_113 : decode cX9_fits 113 = .ok (.iconst 1, 1) := by decide +kernel
theorem dX9_fits_114 : decode cX9_fits 114 = .ok (.goto 4, 3) := by decide +kernel
theorem dX9_fits_117 : decode cX9_fits 117 = .ok (.iconst 0, 1) := by decide +kernel
theorem dX9_fits_118 : decode cX9_fits 118 = .ok (.istore 7, 2) := by decide +kernel
theorem dX9_fits_120 : decode cX9_fits 120 = .ok (.iinc 8 1, 3) := by decide +kernel
theorem dX9_fits_123 : decode cX9_fits 123 = .ok (.goto (-40), 3) := by decide +kernel
theorem dX9_fits_126 : decode cX9_fits 126 = .ok (.iload 7, 2) := by decide +kernel
theorem dX9_fits_128 : decode cX9_fits 128 = .ok (.ifCond .eq 12, 3) := by decide +kernel
theorem dX9_fits_131 : decode cX9_fits 131 = .ok (.iload 5, 2) := by decide +kernel
theorem dX9_fits_133 : decode cX9_fits 133 = .ok (.iconst 1, 1) := by decide +kernel
theorem dX9_fits_134 : decode cX9_fits 134 = .ok (.iload 6, 2) := by decide +kernel
theorem dX9_fits_136 : decode cX9_fits 136 = .ok (.ishl, 1) := by decide +kernel
theorem dX9_fits_137 : decode cX9_fits 137 = .ok (.iadd, 1) := by decide +kernel
theorem dX9_fits_138 : decode cX9_fits 138 = .ok (.istore 5, 2) := by decide +kernel
theorem dX9_fits_140 : decode cX9_fits 140 = .ok (.iinc 6 1, 3) := by decide +kernel
theorem dX9_fits_143 : decode cX9_fits 143 = .ok (.goto (-81), 3) := by decide +kernel
theorem dX9_fits_146 : decode cX9_fits 146 = .ok (.aload_n 0, 1) := by decide +kernel
theorem dX9_fits_147 : decode cX9_fits 147 = .ok (.getfield 32, 3) := by decide +kernel
theorem dX9_fits_150 : decode cX9_fits 150 = .ok (.iload_n 2, 1) := by decide +kernel
theorem dX9_fits_151 : decode cX9_fits 151 = .ok (.iload 4, 2) := by decide +kernel
theorem dX9_fits_153 : decode cX9_fits 153 = .ok (.iastore, 1) := by decide +kernel
theorem dX9_fits_154 : decode cX9_fits 154 = .ok (.iload 5, 2) := by decide +kernel
theorem dX9_fits_156 : decode cX9_fits 156 = .ok (.ireturn, 1) := by decide +kernel
theorem dX9_without_0 : decode cX9_without 0 = .ok (.iconst (-1), 1) := by decide +kernel
theorem dX9_without_1 : decode cX9_without 1 = .ok (.istore_n 1, 1) := by decide +kernel
theorem dX9_without_2 : decode cX9_without 2 = .ok (.iconst (-1), 1) := by decide +kernel
theorem dX9_without_3 : decode cX9_without 3 = .ok (.istore_n 2, 1) := by decide +kernel
theorem dX9_without_4 : decode cX9_without 4 = .ok (.iconst 0, 1) := by decide +kernel
theorem dX9_without_5 : decode cX9_without 5 = .ok (.istore_n 3, 1) := by decide +kernel
theorem dX9_without_6 : decode cX9_without 6 = .ok (.iload_n 3, 1) := by decide +kernel
theorem dX9_without_7 : decode cX9_without 7 = .ok (.aload_n 0, 1) := by decide +kernel
theorem dX9_without_8 : decode cX9_without 8 = .ok (.getfield 108, 3) := by decide +kernel
theorem dX9_without_11 : decode cX9_without 11 = .ok (.if_icmp .ge 39, 3) := by decide +kernel
theorem dX9_without_14 : decode cX9_without 14 = .ok (.aload_n 0, 1) := by decide +kernel
theorem dX9_without_15 : decode cX9_without 15 = .ok (.iload_n 3, 1) := by decide +kernel
theorem dX9_without_16 : decode cX9_without 16 = .ok (.putfield 93, 3) := by decide +kernel
theorem dX9_without_19 : decode cX9_without 19 = .ok (.aload_n 0, 1) := by decide +kernel
theorem dX9_without_20 : decode cX9_without 20 = .ok (.invokevirtual 250, 3) := by decide +kernel
theorem dX9_without_23 : decode cX9_without 23 = .ok (.istore 4, 2) := by decide +kernel
theorem dX9_without_25 : decode cX9_without 25 = .ok (.iload_n 1, 1) := by decide +kernel
theorem dX9_without_26 : decode cX9_without 26 = .ok (.iconst (-1), 1) := by decide +kernel
theorem dX9_without_27 : decode cX9_without 27 = .ok (.if_icmp .eq 12, 3) := by decide +kernel
theorem dX9_without_30 : decode cX9_without 30 = .ok (.iload 4, 2) := by decide +kernel
theorem dX9_without_32 : decode cX9_without 32 = .ok (.iload_n 2, 1) := by decide +kernel
theorem dX9_without_33 : decode cX9_without 33 = .ok (.if_icmp .lt 6, 3) := by decide +kernel
theorem dX9_without_36 : decode cX9_without 36 = .ok (.goto 8, 3) := by decide +kernel
theorem dX9_without_39 : decode cX9_without 39 = .ok (.iload_n 3, 1) := by decide +kernel
theorem dX9_without_40 : decode cX9_without 40 = .ok (.istore_n 1, 1) := by decide +kernel
theorem dX9_without_41 : decode cX9_without 41 = .ok (.iload 4, 2) := by decide +kernel
theorem dX9_without_43 : decode cX9_without 43 = .ok (.istore_n 2, 1) := by decide +kernel
theorem dX9_without_44 : decode cX9_without 44 = .ok (.iinc 3 1, 3) := by decide +kernel
theorem dX9_without_47 : decode cX9_without 47 = .ok (.goto (-41), 3) := by decide +kernel
theorem dX9_without_50 : decode cX9_without 50 = .ok (.aload_n 0, 1) := by decide +kernel
theorem dX9_without_51 : decode cX9_without 51 = .ok (.iconst (-1), 1) := by decide +kernel
theorem dX9_without_52 : decode cX9_without 52 = .ok (.putfield 93, 3) := by decide +kernel
theorem dX9_without_55 : decode cX9_without 55 = .ok (.iload_n 1, 1) := by decide +kernel
theorem dX9_without_56 : decode cX9_without 56 = .ok (.ireturn, 1) := by decide +kernel
theorem dX9_most_0 : decode cX9_most 0 = .ok (.aload_n 0, 1) := by decide +kernel
theorem dX9_most_1 : decode cX9_most 1 = .ok (.getfield 108, 3) := by decide +kernel
theorem dX9_most_4 : decode cX9_most 4 = .ok (.ifCond .eq 12, 3) := by decide +kernel
theorem dX9_most_7 : decode cX9_most 7 = .ok (.iload_n 1, 1) := by decide +kernel
theorem dX9_most_8 : decode cX9_most 8 = .ok (.ifCond .lt 8, 3) := by decide +kernel
theorem dX9_most_11 : decode cX9_most 11 = .ok (.iload_n 1, 1) := by decide +kernel
theorem dX9_most_12 : decode cX9_most 12 = .ok (.iconst 1, 1) := by decide +kernel
theorem dX9_most_13 : decode cX9_most 13 = .ok (.if_icmp .le 10, 3) := by decide +kernel
theorem dX9_most_16 : decode cX9_most 16 = .ok (.aload_n 0, 1) := by decide +kernel
theorem dX9_most_17 : decode cX9_most 17 = .ok (.bipush (-5), 2) := by decide +kernel
theorem dX9_most_19 : decode cX9_most 19 = .ok (.invokevirtual 115, 3) := by decide +kernel
theorem dX9_most_22 : decode cX9_most 22 = .ok (.ireturn, 1) := by decide +kernel
theorem dX9_most_23 : decode cX9_most 23 = .ok (.iload_n 1, 1) := by decide +kernel
theorem dX9_most_24 : decode cX9_most 24 = .ok (.iconst 1, 1) := by decide +kernel
theorem dX9_most_25 : decode cX9_most 25 = .ok (.if_icmp .ne 8, 3) := by decide +kernel
theorem dX9_most_28 : decode cX9_most 28 = .ok (.aload_n 0, 1) := by decide +kernel
theorem dX9_most_29 : decode cX9_most 29 = .ok (.invokevirtual 259, 3) := by decide +kernel
theorem dX9_most_32 : decode cX9_most 32 = .ok (.ireturn, 1) := by decide +kernel
theorem dX9_most_33 : decode cX9_most 33 = .ok (.iconst 0, 1) := by decide +kernel
theorem dX9_most_34 : decode cX9_most 34 = .ok (.istore_n 2, 1) := by decide +kernel
theorem dX9_most_35 : decode cX9_most 35 = .ok (.iconst 1, 1) := by decide +kernel
theorem dX9_most_36 : decode cX9_most 36 = .ok (.istore_n 3, 1) := by decide +kernel
theorem dX9_most_37 : decode cX9_most 37 = .ok (.iload_n 3, 1) := by decide +kernel
theorem dX9_most_38 : decode cX9_most 38 = .ok (.aload_n 0, 1) := by decide +kernel
theorem dX9_most_39 : decode cX9_most 39 = .ok (.getfield 108, 3) := by decide +kernel
theorem dX9_most_42 : decode cX9_most 42 = .ok (.if_icmp .ge 24, 3) := by decide +kernel
theorem dX9_most_45 : decode cX9_most 45 = .ok (.aload_n 0, 1) := by decide +kernel
theorem dX9_most_46 : decode cX9_most 46 = .ok (.iload_n 3, 1) := by decide +kernel
theorem dX9_most_47 : decode cX9_most 47 = .ok (.invokevirtual 227, 3) := by decide +kernel
theorem dX9_most_50 : decode cX9_most 50 = .ok (.aload_n 0, 1) := by decide +kernel
theorem dX9_most_51 : decode cX9_most 51 = .ok (.iload_n 2, 1) := by decide +kernel
theorem dX9_most_52 : decode cX9_most 52 = .ok (.invokevirtual 227, 3) := by decide +kernel
theorem dX9_most_55 : decode cX9_most 55 = .ok (.if_icmp .le 5, 3) := by decide +kernel
theorem dX9_most_58 : decode cX9_most 58 = .ok (.iload_n 3, 1) := by decide +kernel
theorem dX9_most_59 : decode cX9_most 59 = .ok (.istore_n 2, 1) := by decide +kernel
theorem dX9_most_60 : decode cX9_most 60 = .ok (.iinc 3 1, 3) := by decide +kernel
theorem dX9_most_63 : decode cX9_most 63 = .ok (.goto (-26), 3) := by decide +kernel
theorem dX9_most_66 : decode cX9_most 66 = .ok (.iload_n 2, 1) := by decide +kernel
theorem dX9_most_67 : decode cX9_most 67 = .ok (.ireturn, 1) := by decide +kernel
theorem dX9_seers_0 : decode cX9_seers 0 = .ok (.iconst 0, 1) := by decide +kernel
theorem dX9_seers_1 : decode cX9_seers 1 = .ok (.istore_n 2, 1) := by decide +kernel
theorem dX9_seers_2 : decode cX9_seers 2 = .ok (.iconst 0, 1) := by decide +kernel
theorem dX9_seers_3 : decode cX9_seers 3 = .ok (.istore_n 3, 1) := by decide +kernel
theorem dX9_seers_4 : decode cX9_seers 4 = .ok (.iload_n 3, 1) := by decide +kernel
theorem dX9_seers_5 : decode cX9_seers 5 = .ok (.aload_n 0, 1) := by decide +kernel
theorem dX9_seers_6 : decode cX9_seers 6 = .ok (.getfield 108, 3) := by decide +kernel
theorem dX9_seers_9 : decode cX9_seers 9 = .ok (.if_icmp .ge 46, 3) := by decide +kernel
theorem dX9_seers_12 : decode cX9_seers 12 = .ok (.aload_n 0, 1) := by decide +kernel
theorem dX9_seers_13 : decode cX9_seers 13 = .ok (.getfield 26, 3) := by decide +kernel
theorem dX9_seers_16 : decode cX9_seers 16 = .ok (.iload_n 3, 1) := by decide +kernel
theorem dX9_seers_17 : decode cX9_seers 17 = .ok (.iaload, 1) := by decide +kernel
theorem dX9_seers_18 : decode cX9_seers 18 = .ok (.iconst 3, 1) := by decide +kernel
theorem dX9_seers_19 : decode cX9_seers 19 = .ok (.if_icmp .eq 30, 3) := by decide +kernel
theorem dX9_seers_22 : decode cX9_seers 22 = .ok (.aload_n 0, 1) := by decide +kernel
theorem dX9_seers_23 : decode cX9_seers 23 = .ok (.getfield 26, 3) := by decide +kernel
theorem dX9_seers_26 : decode cX9_seers 26 = .ok (.iload_n 3, 1) := by decide +kernel
theorem dX9_seers_27 : decode cX9_seers 27 = .ok (.iaload, 1) := by decide +kernel
theorem dX9_seers_28 : decode cX9_seers 28 = .ok (.iconst 5, 1) := by decide +kernel
theorem dX9_seers_29 : decode cX9_seers 29 = .ok (.if_icmp .eq 20, 3) := by decide +kernel
theorem dX9_seers_32 : decode cX9_seers 32 = .ok (.aload_n 0, 1) := by decide +kernel
theorem dX9_seers_33 : decode cX9_seers 33 = .ok (.aload_n 0, 1) := by decide +kernel
theorem dX9_seers_34 : decode cX9_seers 34 = .ok (.getfield 41, 3) := by decide +kernel
theorem dX9_seers_37 : decode cX9_seers 37 = .ok (.iload_n 3, 1) := by decide +kernel
theorem dX9_seers_38 : decode cX9_seers 38 = .ok (.iaload, 1) := by decide +kernel
theorem dX9_seers_39 : decode cX9_seers 39 = .ok (.iload_n 1, 1) := by decide +kernel
theorem dX9_seers_40 : decode cX9_seers 40 = .ok (.invokevirtual 209, 3) := by decide +kernel
theorem dX9_seers_43 : decode cX9_seers 43 = .ok (.ifCond .eq 6, 3) := by decide +kernel
theorem dX9_seers_46 : decode cX9_seers 46 = .ok (.iinc 2 1, 3) := by decide +kernel
theorem dX9_seers_49 : decode cX9_seers 49 = .ok (.iinc 3 1, 3) := by decide +kernel
theorem dX9_seers_52 : decode cX9_seers 52 = .ok (.goto (-48), 3) := by decide +kernel
theorem dX9_seers_55 : decode cX9_seers 55 = .ok (.iload_n 2, 1) := by decide +kernel
theorem dX9_seers_56 : decode cX9_seers 56 = .ok (.ireturn, 1) := by decide +kernel
theorem dX9_crowd_0 : decode cX9_crowd 0 = .ok (.iload_n 1, 1) := by decide +kernel
theorem dX9_crowd_1 : decode cX9_crowd 1 = .ok (.ifCond .lt 8, 3) := by decide +kernel
theorem dX9_crowd_4 : decode cX9_crowd 4 = .ok (.iload_n 1, 1) := by decide +kernel
theorem dX9_crowd_5 : decode cX9_crowd 5 = .ok (.iconst 1, 1) := by decide +kernel
theorem dX9_crowd_6 : decode cX9_crowd 6 = .ok (.if_icmp .le 10, 3) := by decide +kernel
theorem dX9_crowd_9 : decode cX9_crowd 9 = .ok (.aload_n 0, 1) := by decide +kernel
theorem dX9_crowd_10 : decode cX9_crowd 10 = .ok (.bipush (-5), 2) := by decide +kernel
theorem dX9_crowd_12 : decode cX9_crowd 12 = .ok (.invokevirtual 115, 3) := by decide +kernel
theorem dX9_crowd_15 : decode cX9_crowd 15 = .ok (.ireturn, 1) := by decide +kernel
theorem dX9_crowd_16 : decode cX9_crowd 16 = .ok (.iconst 0, 1) := by decide +kernel
theorem dX9_crowd_17 : decode cX9_crowd 17 = .ok (.istore_n 2, 1) := by decide +kernel
theorem dX9_crowd_18 : decode cX9_crowd 18 = .ok (.iconst 0, 1) := by decide +kernel
theorem dX9_crowd_19 : decode cX9_crowd 19 = .ok (.istore_n 3, 1) := by decide +kernel
theorem dX9_crowd_20 : decode cX9_crowd 20 = .ok (.iconst 0, 1) := by decide +kernel
theorem dX9_crowd_21 : decode cX9_crowd 21 = .ok (.istore 4, 2) := by decide +kernel
theorem dX9_crowd_23 : decode cX9_crowd 23 = .ok (.iload 4, 2) := by decide +kernel
theorem dX9_crowd_25 : decode cX9_crowd 25 = .ok (.bipush 36, 2) := by decide +kernel
theorem dX9_crowd_27 : decode cX9_crowd 27 = .ok (.if_icmp .ge 38, 3) := by decide +kernel
theorem dX9_crowd_30 : decode cX9_crowd 30 = .ok (.aload_n 0, 1) := by decide +kernel
theorem dX9_crowd_31 : decode cX9_crowd 31 = .ok (.iload 4, 2) := by decide +kernel
theorem dX9_crowd_33 : decode cX9_crowd 33 = .ok (.invokevirtual 262, 3) := by decide +kernel
theorem dX9_crowd_36 : decode cX9_crowd 36 = .ok (.aload_n 0, 1) := by decide +kernel
theorem dX9_crowd_37 : decode cX9_crowd 37 = .ok (.iload_n 2, 1) := by decide +kernel
theorem dX9_crowd_38 : decode cX9_crowd 38 = .ok (.invokevirtual 262, 3) := by decide +kernel
theorem dX9_crowd_41 : decode cX9_crowd 41 = .ok (.if_icmp .le 6, 3) := by decide +kernel
theorem dX9_crowd_44 : decode cX9_crowd 44 = .ok (.iload 4, 2) := by decide +kernel
theorem dX9_crowd_46 : decode cX9_crowd 46 = .ok (.istore_n 2, 1) := by decide +kernel
theorem dX9_crowd_47 : decode cX9_crowd 47 = .ok (.aload_n 0, 1) := by decide +kernel
theorem dX9_crowd_48 : decode cX9_crowd 48 = .ok (.iload 4, 2) := by decide +kernel
theorem dX9_crowd_50 : decode cX9_crowd 50 = .ok (.invokevirtual 218, 3) := by decide +kernel
theorem dX9_crowd_53 : decode cX9_crowd 53 = .ok (.ifCond .eq 6, 3) := by decide +kernel
theorem dX9_crowd_56 : decode cX9_crowd 56 = .ok (.iinc 3 1, 3) := by decide +kernel
theorem dX9_crowd_59 : decode cX9_crowd 59 = .ok (.iinc 4 1, 3) := by decide +kernel
theorem dX9_crowd_62 : decode cX9_crowd 62 = .ok (.goto (-39), 3) := by decide +kernel
theorem dX9_crowd_65 : decode cX9_crowd 65 = .ok (.iload_n 1, 1) := by decide +kernel
theorem dX9_crowd_66 : decode cX9_crowd 66 = .ok (.ifCond .ne 7, 3) := by decide +kernel
theorem dX9_crowd_69 : decode cX9_crowd 69 = .ok (.iload_n 2, 1) := by decide +kernel
theorem dX9_crowd_70 : decode cX9_crowd 70 = .ok (.goto 4, 3) := by decide +kernel
theorem dX9_crowd_73 : decode cX9_crowd 73 = .ok (.iload_n 3, 1) := by decide +kernel
theorem dX9_crowd_74 : decode cX9_crowd 74 = .ok (.ireturn, 1) := by decide +kernel
theorem dX9_pays_0 : decode cX9_pays 0 = .ok (.aload_n 0, 1) := by decide +kernel
theorem dX9_pays_1 : decode cX9_pays 1 = .ok (.iload_n 1, 1) := by decide +kernel
theorem dX9_pays_2 : decode cX9_pays 2 = .ok (.invokevirtual 227, 3) := by decide +kernel
theorem dX9_pays_5 : decode cX9_pays 5 = .ok (.istore_n 2, 1) := by decide +kernel
theorem dX9_pays_6 : decode cX9_pays 6 = .ok (.iload_n 2, 1) := by decide +kernel
theorem dX9_pays_7 : decode cX9_pays 7 = .ok (.aload_n 0, 1) := by decide +kernel
theorem dX9_pays_8 : decode cX9_pays 8 = .ok (.getfield 38, 3) := by decide +kernel
theorem dX9_pays_11 : decode cX9_pays 11 = .ok (.iload_n 1, 1) := by decide +kernel
theorem dX9_pays_12 : decode cX9_pays 12 = .ok (.iaload, 1) := by decide +kernel
theorem dX9_pays_13 : decode cX9_pays 13 = .ok (.if_icmp .le 10, 3) := by decide +kernel
theorem dX9_pays_16 : decode cX9_pays 16 = .ok (.aload_n 0, 1) := by decide +kernel
theorem dX9_pays_17 : decode cX9_pays 17 = .ok (.getfield 38, 3) := by decide +kernel
theorem dX9_pays_20 : decode cX9_pays 20 = .ok (.iload_n 1, 1) := by decide +kernel
theorem dX9_pays_21 : decode cX9_pays 21 = .ok (.iaload, 1) := by decide +kernel
theorem dX9_pays_22 : decode cX9_pays 22 = .ok (.istore_n 2, 1) := by decide +kernel
theorem dX9_pays_23 : decode cX9_pays 23 = .ok (.aload_n 0, 1) := by decide +kernel
theorem dX9_pays_24 : decode cX9_pays 24 = .ok (.getfield 38, 3) := by decide +kernel
theorem dX9_pays_27 : decode cX9_pays 27 = .ok (.iload_n 1, 1) := by decide +kernel
theorem dX9_pays_28 : decode cX9_pays 28 = .ok (.dup2, 1) := by decide +kernel
theorem dX9_pays_29 : decode cX9_pays 29 = .ok (.iaload, 1) := by decide +kernel
theorem dX9_pays_30 : decode cX9_pays 30 = .ok (.iload_n 2, 1) := by decide +kernel
theorem dX9_pays_31 : decode cX9_pays 31 = .ok (.isub, 1) := by decide +kernel
theorem dX9_pays_32 : decode cX9_pays 32 = .ok (.iastore, 1) := by decide +kernel
theorem dX9_pays_33 : decode cX9_pays 33 = .ok (.aload_n 0, 1) := by decide +kernel
theorem dX9_pays_34 : decode cX9_pays 34 = .ok (.dup, 1) := by decide +kernel
theorem dX9_pays_35 : decode cX9_pays 35 = .ok (.getfield 265, 3) := by decide +kernel
theorem dX9_pays_38 : decode cX9_pays 38 = .ok (.iload_n 2, 1) := by decide +kernel
theorem dX9_pays_39 : decode cX9_pays 39 = .ok (.iadd, 1) := by decide +kernel
theorem dX9_pays_40 : decode cX9_pays 40 = .ok (.putfield 265, 3) := by decide +kernel
theorem dX9_pays_43 : decode cX9_pays 43 = .ok (.return_, 1) := by decide +kernel
theorem dX9_strolls_0 : decode cX9_strolls 0 = .ok (.aload_n 0, 1) := by decide +kernel
theorem dX9_strolls_1 : decode cX9_strolls 1 = .ok (.iconst 0, 1) := by decide +kernel
theorem dX9_strolls_2 : decode cX9_strolls 2 = .ok (.putfield 265, 3) := by decide +kernel
theorem dX9_strolls_5 : decode cX9_strolls 5 = .ok (.iconst 0, 1) := by decide +kernel
theorem dX9_strolls_6 : decode cX9_strolls 6 = .ok (.istore_n 3, 1) := by decide +kernel
theorem dX9_strolls_7 : decode cX9_strolls 7 = .ok (.iload_n 3, 1) := by decide +kernel
theorem dX9_strolls_8 : decode cX9_strolls 8 = .ok (.iload_n 2, 1) := by decide +kernel
theorem dX9_strolls_9 : decode cX9_strolls 9 = .ok (.if_icmp .ge 103, 3) := by decide +kernel
theorem dX9_strolls_12 : decode cX9_strolls 12 = .ok (.aload_n 0, 1) := by decide +kernel
theorem dX9_strolls_13 : decode cX9_strolls 13 = .ok (.iload_n 1, 1) := by decide +kernel
theorem dX9_strolls_14 : decode cX9_strolls 14 = .ok (.iload_n 3, 1) := by decide +kernel
theorem dX9_strolls_15 : decode cX9_strolls 15 = .ok (.invokevirtual 256, 3) := by decide +kernel
theorem dX9_strolls_18 : decode cX9_strolls 18 = .ok (.istore 4, 2) := by decide +kernel
theorem dX9_strolls_20 : decode cX9_strolls 20 = .ok (.iload 4, 2) := by decide +kernel
theorem dX9_strolls_22 : decode cX9_strolls 22 = .ok (.bipush 10, 2) := by decide +kernel
theorem dX9_strolls_24 : decode cX9_strolls 24 = .ok (.idiv, 1) := by decide +kernel
theorem dX9_strolls_25 : decode cX9_strolls 25 = .ok (.istore 5, 2) := by decide +kernel
theorem dX9_strolls_27 : decode cX9_strolls 27 = .ok (.iload 4, 2) := by decide +kernel
theorem dX9_strolls_29 : decode cX9_strolls 29 = .ok (.ifCond .lt 21, 3) := by decide +kernel
theorem dX9_strolls_32 : decode cX9_strolls 32 = .ok (.iload 5, 2) := by decide +kernel
theorem dX9_strolls_34 : decode cX9_strolls 34 = .ok (.aload_n 0, 1) := by decide +kernel
theorem dX9_strolls_35 : decode cX9_strolls 35 = .ok (.getfield 108, 3) := by decide +kernel
theorem dX9_strolls_38 : decode cX9_strolls 38 = .ok (.if_icmp .ge 12, 3) := by decide +kernel
theorem dX9_strolls_41 : decode cX9_strolls 41 = .ok (.iload 4, 2) := by decide +kernel
theorem dX9_strolls_43 : decode cX9_strolls 43 = .ok (.bipush 10, 2) := by decide +kernel
theorem dX9_strolls_45 : decode cX9_strolls 45 = .ok (.irem, 1) := by decide +kernel
theorem dX9_strolls_46 : decode cX9_strolls 46 = .ok (.iconst 3, 1) := by decide +kernel
theorem dX9_strolls_47 : decode cX9_strolls 47 = .ok (.if_icmp .le 7, 3) := by decide +kernel
theorem dX9_strolls_50 : decode cX9_strolls 50 = .ok (.iconst (-1), 1) := by decide +kernel
theorem dX9_strolls_51 : decode cX9_strolls 51 = .ok (.goto 19, 3) := by decide +kernel
theorem dX9_strolls_54 : decode cX9_strolls 54 = .ok (.aload_n 0, 1) := by decide +kernel
theorem dX9_strolls_55 : decode cX9_strolls 55 = .ok (.aload_n 0, 1) := by decide +kernel
theorem dX9_strolls_56 : decode cX9_strolls 56 = .ok (.getfield 41, 3) := by decide +kernel
theorem dX9_strolls_59 : decode cX9_strolls 59 = .ok (.iload 5, 2) := by decide +kernel
theorem dX9_strolls_61 : decode cX9_strolls 61 = .ok (.iaload, 1) := by decide +kernel
theorem dX9_strolls_62 : decode cX9_strolls 62 = .ok (.iload 4, 2) := by decide +kernel
theorem dX9_strolls_64 : decode cX9_strolls 64 = .ok (.bipush 10, 2) := by decide +kernel
theorem dX9_strolls_66 : decode cX9_strolls 66 = .ok (.irem, 1) := by decide +kernel
theorem dX9_strolls_67 : decode cX9_strolls 67 = .ok (.invokevirtual 234, 3) := by decide +kernel
theorem dX9_strolls_70 : decode cX9_strolls 70 = .ok (.istore 6, 2) := by decide +kernel
theorem dX9_strolls_72 : decode cX9_strolls 72 = .ok (.iload 6, 2) := by decide +kernel
theorem dX9_strolls_74 : decode cX9_strolls 74 = .ok (.iconst (-1), 1) := by decide +kernel
theorem dX9_strolls_75 : decode cX9_strolls 75 = .ok (.if_icmp .eq 14, 3) := by decide +kernel
theorem dX9_strolls_78 : decode cX9_strolls 78 = .ok (.aload_n 0, 1) := by decide +kernel
theorem dX9_strolls_79 : decode cX9_strolls 79 = .ok (.getfield 47, 3) := by decide +kernel
theorem dX9_strolls_82 : decode cX9_strolls 82 = .ok (.iload 6, 2) := by decide +kernel
theorem dX9_strolls_84 : decode cX9_strolls 84 = .ok (.iaload, 1) := by decide +kernel
theorem dX9_strolls_85 : decode cX9_strolls 85 = .ok (.iconst 1, 1) := by decide +kernel
theorem dX9_strolls_86 : decode cX9_strolls 86 = .ok (.if_icmp .ne 5, 3) := by decide +kernel
theorem dX9_strolls_89 : decode cX9_strolls 89 = .ok (.iload_n 3, 1) := by decide +kernel
theorem dX9_strolls_90 : decode cX9_strolls 90 = .ok (.ireturn, 1) := by decide +kernel
theorem dX9_strolls_91 : decode cX9_strolls 91 = .ok (.aload_n 0, 1) := by decide +kernel
theorem dX9_strolls_92 : decode cX9_strolls 92 = .ok (.getfield 41, 3) := by decide +kernel
theorem dX9_strolls_95 : decode cX9_strolls 95 = .ok (.iload 5, 2) := by decide +kernel
theorem dX9_strolls_97 : decode cX9_strolls 97 = .ok (.iload 6, 2) := by decide +kernel
theorem dX9_strolls_99 : decode cX9_strolls 99 = .ok (.iastore, 1) := by decide +kernel
theorem dX9_strolls_100 : decode cX9_strolls 100 = .ok (.aload_n 0, 1) := by decide +kernel
theorem dX9_strolls_101 : decode cX9_strolls 101 = .ok (.iload 5, 2) := by decide +kernel
theorem dX9_strolls_103 : decode cX9_strolls 103 = .ok (.invokevirtual 268, 3) := by decide +kernel
theorem dX9_strolls_106 : decode cX9_strolls 106 = .ok (.iinc 3 1, 3) := by decide +kernel
theorem dX9_strolls_109 : decode cX9_strolls 109 = .ok (.goto (-102), 3) := by decide +kernel
theorem dX9_strolls_112 : decode cX9_strolls 112 = .ok (.iconst (-1), 1) := by decide +kernel
theorem dX9_strolls_113 : decode cX9_strolls 113 = .ok (.ireturn, 1) := by decide +kernel
theorem dX9_barsOf_0 : decode cX9_barsOf 0 = .ok (.aload_n 0, 1) := by decide +kernel
theorem dX9_barsOf_1 : decode cX9_barsOf 1 = .ok (.iload_n 1, 1) := by decide +kernel
theorem dX9_barsOf_2 : decode cX9_barsOf 2 = .ok (.invokevirtual 195, 3) := by decide +kernel
theorem dX9_barsOf_5 : decode cX9_barsOf 5 = .ok (.istore_n 3, 1) := by decide +kernel
theorem dX9_barsOf_6 : decode cX9_barsOf 6 = .ok (.iload_n 3, 1) := by decide +kernel
theorem dX9_barsOf_7 : decode cX9_barsOf 7 = .ok (.ifCond .eq 7, 3) := by decide +kernel
theorem dX9_barsOf_10 : decode cX9_barsOf 10 = .ok (.iload_n 3, 1) := by decide +kernel
theorem dX9_barsOf_11 : decode cX9_barsOf 11 = .ok (.goto 39, 3) := by decide +kernel
theorem dX9_barsOf_14 : decode cX9_barsOf 14 = .ok (.iload_n 2, 1) := by decide +kernel
theorem dX9_barsOf_15 : decode cX9_barsOf 15 = .ok (.ifCond .ge 8, 3) := by decide +kernel
theorem dX9_barsOf_18 : decode cX9_barsOf 18 = .ok (.bipush (-4), 2) := by decide +kernel
theorem dX9_barsOf_20 : decode cX9_barsOf 20 = .ok (.goto 30, 3) := by decide +kernel
theorem dX9_barsOf_23 : decode cX9_barsOf 23 = .ok (.iload_n 2, 1) := by decide +kernel
theorem dX9_barsOf_24 : decode cX9_barsOf 24 = .ok (.aload_n 0, 1) := by decide +kernel
theorem dX9_barsOf_25 : decode cX9_barsOf 25 = .ok (.getfield 59, 3) := by decide +kernel
theorem dX9_barsOf_28 : decode cX9_barsOf 28 = .ok (.iload_n 1, 1) := by decide +kernel
theorem dX9_barsOf_29 : decode cX9_barsOf 29 = .ok (.iaload, 1) := by decide +kernel
theorem dX9_barsOf_30 : decode cX9_barsOf 30 = .ok (.if_icmp .le 8, 3) := by decide +kernel
theorem dX9_barsOf_33 : decode cX9_barsOf 33 = .ok (.bipush (-5), 2) := by decide +kernel
theorem dX9_barsOf_35 : decode cX9_barsOf 35 = .ok (.goto 15, 3) := by decide +kernel
theorem dX9_barsOf_38 : decode cX9_barsOf 38 = .ok (.iload_n 2, 1) := by decide +kernel
theorem dX9_barsOf_39 : decode cX9_barsOf 39 = .ok (.bipush 40, 2) := by decide +kernel
theorem dX9_barsOf_41 : decode cX9_barsOf 41 = .ok (.if_icmp .le 8, 3) := by decide +kernel
theorem dX9_barsOf_44 : decode cX9_barsOf 44 = .ok (.bipush (-6), 2) := by decide +kernel
theorem dX9_barsOf_46 : decode cX9_barsOf 46 = .ok (.goto 4, 3) := by decide +kernel
theorem dX9_barsOf_49 : decode cX9_barsOf 49 = .ok (.iconst 0, 1) := by decide +kernel
theorem dX9_barsOf_50 : decode cX9_barsOf 50 = .ok (.ireturn, 1) := by decide +kernel
theorem dX9_judge_0 : decode cX9_judge 0 = .ok (.aload_n 0, 1) := by decide +kernel
theorem dX9_judge_1 : decode cX9_judge 1 = .ok (.iload_n 1, 1) := by decide +kernel
theorem dX9_judge_2 : decode cX9_judge 2 = .ok (.iload_n 2, 1) := by decide +kernel
theorem dX9_judge_3 : decode cX9_judge 3 = .ok (.invokevirtual 271, 3) := by decide +kernel
theorem dX9_judge_6 : decode cX9_judge 6 = .ok (.istore_n 3, 1) := by decide +kernel
theorem dX9_judge_7 : decode cX9_judge 7 = .ok (.iload_n 3, 1) := by decide +kernel
theorem dX9_judge_8 : decode cX9_judge 8 = .ok (.ifCond .eq 9, 3) := by decide +kernel
theorem dX9_judge_11 : decode cX9_judge 11 = .ok (.aload_n 0, 1) := by decide +kernel
theorem dX9_judge_12 : decode cX9_judge 12 = .ok (.iload_n 3, 1) := by decide +kernel
theorem dX9_judge_13 : decode cX9_judge 13 = .ok (.invokevirtual 237, 3) := by decide +kernel
theorem dX9_judge_16 : decode cX9_judge 16 = .ok (.ireturn, 1) := by decide +kernel
theorem dX9_judge_17 : decode cX9_judge 17 = .ok (.aload_n 0, 1) := by decide +kernel
theorem dX9_judge_18 : decode cX9_judge 18 = .ok (.aload_n 0, 1) := by decide +kernel
theorem dX9_judge_19 : decode cX9_judge 19 = .ok (.getfield 90, 3) := by decide +kernel
theorem dX9_judge_22 : decode cX9_judge 22 = .ok (.iconst 0, 1) := by decide +kernel
theorem dX9_judge_23 : decode cX9_judge 23 = .ok (.invokevirtual 198, 3) := by decide +kernel
theorem dX9_judge_26 : decode cX9_judge 26 = .ok (.aload_n 0, 1) := by decide +kernel
theorem dX9_judge_27 : decode cX9_judge 27 = .ok (.iload_n 1, 1) := by decide +kernel
theorem dX9_judge_28 : decode cX9_judge 28 = .ok (.iload_n 2, 1) := by decide +kernel
theorem dX9_judge_29 : decode cX9_judge 29 = .ok (.invokevirtual 274, 3) := by decide +kernel
theorem dX9_judge_32 : decode cX9_judge 32 = .ok (.istore 4, 2) := by decide +kernel
theorem dX9_judge_34 : decode cX9_judge 34 = .ok (.aload_n 0, 1) := by decide +kernel
theorem dX9_judge_35 : decode cX9_judge 35 = .ok (.aload_n 0, 1) := by decide +kernel
theorem dX9_judge_36 : decode cX9_judge 36 = .ok (.getfield 90, 3) := by decide +kernel
theorem dX9_judge_39 : decode cX9_judge 39 = .ok (.iconst 1, 1) := by decide +kernel
theorem dX9_judge_40 : decode cX9_judge 40 = .ok (.invokevirtual 198, 3) := by decide +kernel
theorem dX9_judge_43 : decode cX9_judge 43 = .ok (.iload 4, 2) := by decide +kernel
theorem dX9_judge_45 : decode cX9_judge 45 = .ok (.ireturn, 1) := by decide +kernel
theorem dX9_empty_0 : decode cX9_empty 0 = .ok (.iconst 0, 1) := by decide +kernel
theorem dX9_empty_1 : decode cX9_empty 1 = .ok (.istore_n 1, 1) := by decide +kernel
theorem dX9_empty_2 : decode cX9_empty 2 = .ok (.iconst 0, 1) := by decide +kernel
theorem dX9_empty_3 : decode cX9_empty 3 = .ok (.istore_n 2, 1) := by decide +kernel
theorem dX9_empty_4 : decode cX9_empty 4 = .ok (.iload_n 2, 1) := by decide +kernel
theorem dX9_empty_5 : decode cX9_empty 5 = .ok (.aload_n 0, 1) := by decide +kernel
theorem dX9_empty_6 : decode cX9_empty 6 = .ok (.getfield 108, 3) := by decide +kernel
theorem dX9_empty_9 : decode cX9_empty 9 = .ok (.if_icmp .ge 21, 3) := by decide +kernel
theorem dX9_empty_12 : decode cX9_empty 12 = .ok (.aload_n 0, 1) := by decide +kernel
theorem dX9_empty_13 : decode cX9_empty 13 = .ok (.getfield 38, 3) := by decide +kernel
theorem dX9_empty_16 : decode cX9_empty 16 = .ok (.iload_n 2, 1) := by decide +kernel
theorem dX9_empty_17 : decode cX9_empty 17 = .ok (.iaload, 1) := by decide +kernel
theorem dX9_empty_18 : decode cX9_empty 18 = .ok (.ifCond .ne 6, 3) := by decide +kernel
theorem dX9_empty_21 : decode cX9_empty 21 = .ok (.iinc 1 1, 3) := by decide +kernel
theorem dX9_empty_24 : decode cX9_empty 24 = .ok (.iinc 2 1, 3) := by decide +kernel
theorem dX9_empty_27 : decode cX9_empty 27 = .ok (.goto (-23), 3) := by decide +kernel
theorem dX9_empty_30 : decode cX9_empty 30 = .ok (.iload_n 1, 1) := by decide +kernel
theorem dX9_empty_31 : decode cX9_empty 31 = .ok (.ireturn, 1) := by decide +kernel
theorem dX9_behind_0 : decode cX9_behind 0 = .ok (.aload_n 0, 1) := by decide +kernel
theorem dX9_behind_1 : decode cX9_behind 1 = .ok (.iload_n 1, 1) := by decide +kernel
theorem dX9_behind_2 : decode cX9_behind 2 = .ok (.iload_n 2, 1) := by decide +kernel
theorem dX9_behind_3 : decode cX9_behind 3 = .ok (.invokevirtual 271, 3) := by decide +kernel
theorem dX9_behind_6 : decode cX9_behind 6 = .ok (.istore 4, 2) := by decide +kernel
theorem dX9_behind_8 : decode cX9_behind 8 = .ok (.iload 4, 2) := by decide +kernel
theorem dX9_behind_10 : decode cX9_behind 10 = .ok (.ifCond .eq 10, 3) := by decide +kernel
theorem dX9_behind_13 : decode cX9_behind 13 = .ok (.iload 4, 2) := by decide +kernel
theorem dX9_behind_15 : decode cX9_behind 15 = .ok (.bipush (-6), 2) := by decide +kernel
theorem dX9_behind_17 : decode cX9_behind 17 = .ok (.if_icmp .ne 28, 3) := by decide +kernel
theorem dX9_behind_20 : decode cX9_behind 20 = .ok (.iload_n 3, 1) := by decide +kernel
theorem dX9_behind_21 : decode cX9_behind 21 = .ok (.ifCond .lt 20, 3) := by decide +kernel
theorem dX9_behind_24 : decode cX9_behind 24 = .ok (.iload_n 3, 1) := by decide +kernel
theorem dX9_behind_25 : decode cX9_behind 25 = .ok (.iconst 2, 1) := by decide +kernel
theorem dX9_behind_26 : decode cX9_behind 26 = .ok (.if_icmp .gt 15, 3) := by decide +kernel
theorem dX9_behind_29 : decode cX9_behind 29 = .ok (.iload_n 3, 1) := by decide +kernel
theorem dX9_behind_30 : decode cX9_behind 30 = .ok (.iconst 1, 1) := by decide +kernel
theorem dX9_behind_31 : decode cX9_behind 31 = .ok (.if_icmp .ne 14, 3) := by decide +kernel
theorem dX9_behind_34 : decode cX9_behind 34 = .ok (.aload_n 0, 1) := by decide +kernel
theorem dX9_behind_35 : decode cX9_behind 35 = .ok (.getfield 108, 3) := by decide +kernel
theorem dX9_behind_38 : decode cX9_behind 38 = .ok (.ifCond .ne 7, 3) := by decide +kernel
theorem dX9_behind_41 : decode cX9_behind 41 = .ok (.bipush (-5), 2) := by decide +kernel
theorem dX9_behind_43 : decode cX9_behind 43 = .ok (.istore 4, 2) := by decide +kernel
theorem dX9_behind_45 : decode cX9_behind 45 = .ok (.iload 4, 2) := by decide +kernel
theorem dX9_behind_47 : decode cX9_behind 47 = .ok (.ifCond .eq 10, 3) := by decide +kernel
theorem dX9_behind_50 : decode cX9_behind 50 = .ok (.aload_n 0, 1) := by decide +kernel
theorem dX9_behind_51 : decode cX9_behind 51 = .ok (.iload 4, 2) := by decide +kernel
theorem dX9_behind_53 : decode cX9_behind 53 = .ok (.invokevirtual 115, 3) := by decide +kernel
theorem dX9_behind_56 : decode cX9_behind 56 = .ok (.ireturn, 1) := by decide +kernel
theorem dX9_behind_57 : decode cX9_behind 57 = .ok (.aload_n 0, 1) := by decide +kernel
theorem dX9_behind_58 : decode cX9_behind 58 = .ok (.aload_n 0, 1) := by decide +kernel
theorem dX9_behind_59 : decode cX9_behind 59 = .ok (.getfield 90, 3) := by decide +kernel
theorem dX9_behind_62 : decode cX9_behind 62 = .ok (.iconst 0, 1) := by decide +kernel
theorem dX9_behind_63 : decode cX9_behind 63 = .ok (.invokevirtual 198, 3) := by decide +kernel
theorem dX9_behind_66 : decode cX9_behind 66 = .ok (.aload_n 0, 1) := by decide +kernel
theorem dX9_behind_67 : decode cX9_behind 67 = .ok (.iload_n 1, 1) := by decide +kernel
theorem dX9_behind_68 : decode cX9_behind 68 = .ok (.iload_n 2, 1) := by decide +kernel
theorem dX9_behind_69 : decode cX9_behind 69 = .ok (.invokevirtual 274, 3) := by decide +kernel
theorem dX9_behind_72 : decode cX9_behind 72 = .ok (.istore 5, 2) := by decide +kernel
theorem dX9_behind_74 : decode cX9_behind 74 = .ok (.iload_n 3, 1) := by decide +kernel
theorem dX9_behind_75 : decode cX9_behind 75 = .ok (.ifCond .ne 10, 3) := by decide +kernel
theorem dX9_behind_78 : decode cX9_behind 78 = .ok (.aload_n 0, 1) := by decide +kernel
theorem dX9_behind_79 : decode cX9_behind 79 = .ok (.getfield 265, 3) := by decide +kernel
theorem dX9_behind_82 : decode cX9_behind 82 = .ok (.goto 21, 3) := by decide +kernel
theorem dX9_behind_85 : decode cX9_behind 85 = .ok (.iload_n 3, 1) := by decide +kernel
theorem dX9_behind_86 : decode cX9_behind 86 = .ok (.iconst 1, 1) := by decide +kernel
theorem dX9_behind_87 : decode cX9_behind 87 = .ok (.if_icmp .ne 12, 3) := by decide +kernel
theorem dX9_behind_90 : decode cX9_behind 90 = .ok (.aload_n 0, 1) := by decide +kernel
theorem dX9_behind_91 : decode cX9_behind 91 = .ok (.getfield 41, 3) := by decide +kernel
theorem dX9_behind_94 : decode cX9_behind 94 = .ok (.iconst 0, 1) := by decide +kernel
theorem dX9_behind_95 : decode cX9_behind 95 = .ok (.iaload, 1) := by decide +kernel
theorem dX9_behind_96 : decode cX9_behind 96 = .ok (.goto 7, 3) := by decide +kernel
theorem dX9_behind_99 : decode cX9_behind 99 = .ok (.aload_n 0, 1) := by decide +kernel
theorem dX9_behind_100 : decode cX9_behind 100 = .ok (.invokevirtual 277, 3) := by decide +kernel
theorem dX9_behind_103 : decode cX9_behind 103 = .ok (.istore 6, 2) := by decide +kernel
theorem dX9_behind_105 : decode cX9_behind 105 = .ok (.aload_n 0, 1) := by decide +kernel
theorem dX9_behind_106 : decode cX9_behind 106 = .ok (.aload_n 0, 1) := by decide +kernel
theorem dX9_behind_107 : decode cX9_behind 107 = .ok (.getfield 90, 3) := by decide +kernel
theorem dX9_behind_110 : decode cX9_behind 110 = .ok (.iconst 1, 1) := by decide +kernel
theorem dX9_behind_111 : decode cX9_behind 111 = .ok (.invokevirtual 198, 3) := by decide +kernel
theorem dX9_behind_114 : decode cX9_behind 114 = .ok (.iload 5, 2) := by decide +kernel
theorem dX9_behind_116 : decode cX9_behind 116 = .ok (.iconst (-1), 1) := by decide +kernel
theorem dX9_behind_117 : decode cX9_behind 117 = .ok (.if_icmp .ne 8, 3) := by decide +kernel
theorem dX9_behind_120 : decode cX9_behind 120 = .ok (.iload 6, 2) := by decide +kernel
theorem dX9_behind_122 : decode cX9_behind 122 = .ok (.goto 9, 3) := by decide +kernel
theorem dX9_behind_125 : decode cX9_behind 125 = .ok (.aload_n 0, 1) := by decide +kernel
theorem dX9_behind_126 : decode cX9_behind 126 = .ok (.bipush (-6), 2) := by decide +kernel
theorem dX9_behind_128 : decode cX9_behind 128 = .ok (.invokevirtual 115, 3) := by decide +kernel
theorem dX9_behind_131 : decode cX9_behind 131 = .ok (.ireturn, 1) := by decide +kernel
theorem dX9_done_0 : decode cX9_done 0 = .ok (.aload_n 0, 1) := by decide +kernel
theorem dX9_done_1 : decode cX9_done 1 = .ok (.iload_n 1, 1) := by decide +kernel
theorem dX9_done_2 : decode cX9_done 2 = .ok (.iload_n 2, 1) := by decide +kernel
theorem dX9_done_3 : decode cX9_done 3 = .ok (.invokevirtual 271, 3) := by decide +kernel
theorem dX9_done_6 : decode cX9_done 6 = .ok (.istore_n 3, 1) := by decide +kernel
theorem dX9_done_7 : decode cX9_done 7 = .ok (.iload_n 3, 1) := by decide +kernel
theorem dX9_done_8 : decode cX9_done 8 = .ok (.ifCond .eq 9, 3) := by decide +kernel
theorem dX9_done_11 : decode cX9_done 11 = .ok (.aload_n 0, 1) := by decide +kernel
theorem dX9_done_12 : decode cX9_done 12 = .ok (.iload_n 3, 1) := by decide +kernel
theorem dX9_done_13 : decode cX9_done 13 = .ok (.invokevirtual 115, 3) := by decide +kernel
theorem dX9_done_16 : decode cX9_done 16 = .ok (.ireturn, 1) := by decide +kernel
theorem dX9_done_17 : decode cX9_done 17 = .ok (.aload_n 0, 1) := by decide +kernel
theorem dX9_done_18 : decode cX9_done 18 = .ok (.aload_n 0, 1) := by decide +kernel
theorem dX9_done_19 : decode cX9_done 19 = .ok (.getfield 90, 3) := by decide +kernel
theorem dX9_done_22 : decode cX9_done 22 = .ok (.iconst 0, 1) := by decide +kernel
theorem dX9_done_23 : decode cX9_done 23 = .ok (.invokevirtual 198, 3) := by decide +kernel
theorem dX9_done_26 : decode cX9_done 26 = .ok (.aload_n 0, 1) := by decide +kernel
theorem dX9_done_27 : decode cX9_done 27 = .ok (.iload_n 1, 1) := by decide +kernel
theorem dX9_done_28 : decode cX9_done 28 = .ok (.iload_n 2, 1) := by decide +kernel
theorem dX9_done_29 : decode cX9_done 29 = .ok (.invokevirtual 274, 3) := by decide +kernel
theorem dX9_done_32 : decode cX9_done 32 = .ok (.iconst (-1), 1) := by decide +kernel
theorem dX9_done_33 : decode cX9_done 33 = .ok (.if_icmp .eq 19, 3) := by decide +kernel
theorem dX9_done_36 : decode cX9_done 36 = .ok (.aload_n 0, 1) := by decide +kernel
theorem dX9_done_37 : decode cX9_done 37 = .ok (.aload_n 0, 1) := by decide +kernel
theorem dX9_done_38 : decode cX9_done 38 = .ok (.getfield 90, 3) := by decide +kernel
theorem dX9_done_41 : decode cX9_done 41 = .ok (.iconst 1, 1) := by decide +kernel
theorem dX9_done_42 : decode cX9_done 42 = .ok (.invokevirtual 198, 3) := by decide +kernel
theorem dX9_done_45 : decode cX9_done 45 = .ok (.aload_n 0, 1) := by decide +kernel
theorem dX9_done_46 : decode cX9_done 46 = .ok (.bipush (-6), 2) := by decide +kernel
theorem dX9_done_48 : decode cX9_done 48 = .ok (.invokevirtual 115, 3) := by decide +kernel
theorem dX9_done_51 : decode cX9_done 51 = .ok (.ireturn, 1) := by decide +kernel
theorem dX9_done_52 : decode cX9_done 52 = .ok (.aload_n 0, 1) := by decide +kernel
theorem dX9_done_53 : decode cX9_done 53 = .ok (.dup, 1) := by decide +kernel
theorem dX9_done_54 : decode cX9_done 54 = .ok (.getfield 192, 3) := by decide +kernel
theorem dX9_done_57 : decode cX9_done 57 = .ok (.aload_n 0, 1) := by decide +kernel
theorem dX9_done_58 : decode cX9_done 58 = .ok (.getfield 265, 3) := by decide +kernel
theorem dX9_done_61 : decode cX9_done 61 = .ok (.iadd, 1) := by decide +kernel
theorem dX9_done_62 : decode cX9_done 62 = .ok (.putfield 192, 3) := by decide +kernel
theorem dX9_done_65 : decode cX9_done 65 = .ok (.aload_n 0, 1) := by decide +kernel
theorem dX9_done_66 : decode cX9_done 66 = .ok (.dup, 1) := by decide +kernel
theorem dX9_done_67 : decode cX9_done 67 = .ok (.getfield 189, 3) := by decide +kernel
theorem dX9_done_70 : decode cX9_done 70 = .ok (.iconst 1, 1) := by decide +kernel
theorem dX9_done_71 : decode cX9_done 71 = .ok (.iadd, 1) := by decide +kernel
theorem dX9_done_72 : decode cX9_done 72 = .ok (.putfield 189, 3) := by decide +kernel
theorem dX9_done_75 : decode cX9_done 75 = .ok (.aload_n 0, 1) := by decide +kernel
theorem dX9_done_76 : decode cX9_done 76 = .ok (.getfield 192, 3) := by decide +kernel
theorem dX9_done_79 : decode cX9_done 79 = .ok (.ireturn, 1) := by decide +kernel
theorem dX9_draw_0 : decode cX9_draw 0 = .ok (.aload_n 0, 1) := by decide +kernel
theorem dX9_draw_1 : decode cX9_draw 1 = .ok (.aload_n 0, 1) := by decide +kernel
theorem dX9_draw_2 : decode cX9_draw 2 = .ok (.getfield 16, 3) := by decide +kernel
theorem dX9_draw_5 : decode cX9_draw 5 = .ok (.ldc_w 280, 3) := by decide +kernel
theorem dX9_draw_8 : decode cX9_draw 8 = .ok (.imul, 1) := by decide +kernel
theorem dX9_draw_9 : decode cX9_draw 9 = .ok (.sipush 12345, 3) := by decide +kernel
theorem dX9_draw_12 : decode cX9_draw 12 = .ok (.iadd, 1) := by decide +kernel
theorem dX9_draw_13 : decode cX9_draw 13 = .ok (.putfield 16, 3) := by decide +kernel
theorem dX9_draw_16 : decode cX9_draw 16 = .ok (.aload_n 0, 1) := by decide +kernel
theorem dX9_draw_17 : decode cX9_draw 17 = .ok (.getfield 16, 3) := by decide +kernel
theorem dX9_draw_20 : decode cX9_draw 20 = .ok (.bipush 16, 2) := by decide +kernel
theorem dX9_draw_22 : decode cX9_draw 22 = .ok (.iushr, 1) := by decide +kernel
theorem dX9_draw_23 : decode cX9_draw 23 = .ok (.iload_n 1, 1) := by decide +kernel
theorem dX9_draw_24 : decode cX9_draw 24 = .ok (.irem, 1) := by decide +kernel
theorem dX9_draw_25 : decode cX9_draw 25 = .ok (.ireturn, 1) := by decide +kernel
theorem dX9_hours_0 : decode cX9_hours 0 = .ok (.aload_n 0, 1) := by decide +kernel
theorem dX9_hours_1 : decode cX9_hours 1 = .ok (.iload_n 1, 1) := by decide +kernel
theorem dX9_hours_2 : decode cX9_hours 2 = .ok (.iconst 1, 1) := by decide +kernel
theorem dX9_hours_3 : decode cX9_hours 3 = .ok (.bipush 40, 2) := by decide +kernel
theorem dX9_hours_5 : decode cX9_hours 5 = .ok (.invokevirtual 125, 3) := by decide +kernel
theorem dX9_hours_8 : decode cX9_hours 8 = .ok (.ifCond .ne 10, 3) := by decide +kernel
theorem dX9_hours_11 : decode cX9_hours 11 = .ok (.aload_n 0, 1) := by decide +kernel
theorem dX9_hours_12 : decode cX9_hours 12 = .ok (.bipush (-6), 2) := by decide +kernel
theorem dX9_hours_14 : decode cX9_hours 14 = .ok (.invokevirtual 115, 3) := by decide +kernel
theorem dX9_hours_17 : decode cX9_hours 17 = .ok (.ireturn, 1) := by decide +kernel
theorem dX9_hours_18 : decode cX9_hours 18 = .ok (.iconst 0, 1) := by decide +kernel
theorem dX9_hours_19 : decode cX9_hours 19 = .ok (.istore_n 2, 1) := by decide +kernel
theorem dX9_hours_20 : decode cX9_hours 20 = .ok (.iload_n 2, 1) := by decide +kernel
theorem dX9_hours_21 : decode cX9_hours 21 = .ok (.iload_n 1, 1) := by decide +kernel
theorem dX9_hours_22 : decode cX9_hours 22 = .ok (.if_icmp .ge 146, 3) := by decide +kernel
theorem dX9_hours_25 : decode cX9_hours 25 = .ok (.aload_n 0, 1) := by decide +kernel
theorem dX9_hours_26 : decode cX9_hours 26 = .ok (.aload_n 0, 1) := by decide +kernel
theorem dX9_hours_27 : decode cX9_hours 27 = .ok (.iconst 4, 1) := by decide +kernel
theorem dX9_hours_28 : decode cX9_hours 28 = .ok (.invokevirtual 281, 3) := by decide +kernel
theorem dX9_hours_31 : decode cX9_hours 31 = .ok (.ifCond .ne 7, 3) := by decide +kernel
theorem dX9_hours_34 : decode cX9_hours 34 = .ok (.iconst 1, 1) := by decide +kernel
theorem dX9_hours_35 : decode cX9_hours 35 = .ok (.goto 4, 3) := by decide +kernel
theorem dX9_hours_38 : decode cX9_hours 38 = .ok (.iconst 0, 1) := by decide +kernel
theorem dX9_hours_39 : decode cX9_hours 39 = .ok (.putfield 139, 3) := by decide +kernel
theorem dX9_hours_42 : decode cX9_hours 42 = .ok (.iconst 0, 1) := by decide +kernel
theorem dX9_hours_43 : decode cX9_hours 43 = .ok (.istore_n 3, 1) := by decide +kernel
theorem dX9_hours_44 : decode cX9_hours 44 = .ok (.iload_n 3, 1) := by decide +kernel
theorem dX9_hours_45 : decode cX9_hours 45 = .ok (.aload_n 0, 1) := by decide +kernel
theorem dX9_hours_46 : decode cX9_hours 46 = .ok (.getfield 108, 3) := by decide +kernel
theorem dX9_hours_49 : decode cX9_hours 49 = .ok (.if_icmp .ge 64, 3) := by decide +kernel
theorem dX9_hours_52 : decode cX9_hours 52 = .ok (.aload_n 0, 1) := by decide +kernel
theorem dX9_hours_53 : decode cX9_hours 53 = .ok (.iconst 5, 1) := by decide +kernel
theorem dX9_hours_54 : decode cX9_hours 54 = .ok (.invokevirtual 281, 3) := by decide +kernel
theorem dX9_hours_57 : decode cX9_hours 57 = .ok (.istore 4, 2) := by decide +kernel
theorem dX9_hours_59 : decode cX9_hours 59 = .ok (.iload 4, 2) := by decide +kernel
theorem dX9_hours_61 : decode cX9_hours 61 = .ok (.iconst 4, 1) := by decide +kernel
theorem dX9_hours_62 : decode cX9_hours 62 = .ok (.if_icmp .ne 7, 3) := by decide +kernel
theorem dX9_hours_65 : decode cX9_hours 65 = .ok (.iconst (-1), 1) := by decide +kernel
theorem dX9_hours_66 : decode cX9_hours 66 = .ok (.goto 15, 3) := by decide +kernel
theorem dX9_hours_69 : decode cX9_hours 69 = .ok (.aload_n 0, 1) := by decide +kernel
theorem dX9_hours_70 : decode cX9_hours 70 = .ok (.aload_n 0, 1) := by decide +kernel
theorem dX9_hours_71 : decode cX9_hours 71 = .ok (.getfield 41, 3) := by decide +kernel
theorem dX9_hours_74 : decode cX9_hours 74 = .ok (.iload_n 3, 1) := by decide +kernel
theorem dX9_hours_75 : decode cX9_hours 75 = .ok (.iaload, 1) := by decide +kernel
theorem dX9_hours_76 : decode cX9_hours 76 = .ok (.iload 4, 2) := by decide +kernel
theorem dX9_hours_78 : decode cX9_hours 78 = .ok (.invokevirtual 234, 3) := by decide +kernel
theorem dX9_hours_81 : decode cX9_hours 81 = .ok (.istore 5, 2) := by decide +kernel
theorem dX9_hours_83 : decode cX9_hours 83 = .ok (.iload 5, 2) := by decide +kernel
theorem dX9_hours_85 : decode cX9_hours 85 = .ok (.iconst (-1), 1) := by decide +kernel
theorem dX9_hours_86 : decode cX9_hours 86 = .ok (.if_icmp .eq 21, 3) := by decide +kernel
theorem dX9_hours_89 : decode cX9_hours 89 = .ok (.aload_n 0, 1) := by decide +kernel
theorem dX9_hours_90 : decode cX9_hours 90 = .ok (.getfield 47, 3) := by decide +kernel
theorem dX9_hours_93 : decode cX9_hours 93 = .ok (.iload 5, 2) := by decide +kernel
theorem dX9_hours_95 : decode cX9_hours 95 = .ok (.iaload, 1) := by decide +kernel
theorem dX9_hours_96 : decode cX9_hours 96 = .ok (.ifCond .ne 11, 3) := by decide +kernel
theorem dX9_hours_99 : decode cX9_hours 99 = .ok (.aload_n 0, 1) := by decide +kernel
theorem dX9_hours_100 : decode cX9_hours 100 = .ok (.getfield 41, 3) := by decide +kernel
theorem dX9_hours_103 : decode cX9_hours 103 = .ok (.iload_n 3, 1) := by decide +kernel
theorem dX9_hours_104 : decode cX9_hours 104 = .ok (.iload 5, 2) := by decide +kernel
theorem dX9_hours_106 : decode cX9_hours 106 = .ok (.iastore, 1) := by decide +kernel
theorem dX9_hours_107 : decode cX9_hours 107 = .ok (.iinc 3 1, 3) := by decide +kernel
theorem dX9_hours_110 : decode cX9_hours 110 = .ok (.goto (-66), 3) := by decide +kernel
theorem dX9_hours_113 : decode cX9_hours 113 = .ok (.aload_n 0, 1) := by decide +kernel
theorem dX9_hours_114 : decode cX9_hours 114 = .ok (.iconst 0, 1) := by decide +kernel
theorem dX9_hours_115 : decode cX9_hours 115 = .ok (.putfield 265, 3) := by decide +kernel
theorem dX9_hours_118 : decode cX9_hours 118 = .ok (.iconst 0, 1) := by decide +kernel
theorem dX9_hours_119 : decode cX9_hours 119 = .ok (.istore_n 3, 1) := by decide +kernel
theorem dX9_hours_120 : decode cX9_hours 120 = .ok (.iload_n 3, 1) := by decide +kernel
theorem dX9_hours_121 : decode cX9_hours 121 = .ok (.aload_n 0, 1) := by decide +kernel
theorem dX9_hours_122 : decode cX9_hours 122 = .ok (.getfield 108, 3) := by decide +kernel
theorem dX9_hours_125 : decode cX9_hours 125 = .ok (.if_icmp .ge 14, 3) := by decide +kernel
theorem dX9_hours_128 : decode cX9_hours 128 = .ok (.aload_n 0, 1) := by decide +kernel
theorem dX9_hours_129 : decode cX9_hours 129 = .ok (.iload_n 3, 1) := by decide +kernel
theorem dX9_hours_130 : decode cX9_hours 130 = .ok (.invokevirtual 268, 3) := by decide +kernel
theorem dX9_hours_133 : decode cX9_hours 133 = .ok (.iinc 3 1, 3) := by decide +kernel
theorem dX9_hours_136 : decode cX9_hours 136 = .ok (.goto (-16), 3) := by decide +kernel
theorem dX9_hours_139 : decode cX9_hours 139 = .ok (.aload_n 0, 1) := by decide +kernel
theorem dX9_hours_140 : decode cX9_hours 140 = .ok (.dup, 1) := by decide +kernel
theorem dX9_hours_141 : decode cX9_hours 141 = .ok (.getfield 192, 3) := by decide +kernel
theorem dX9_hours_144 : decode cX9_hours 144 = .ok (.aload_n 0, 1) := by decide +kernel
theorem dX9_hours_145 : decode cX9_hours 145 = .ok (.getfield 265, 3) := by decide +kernel
theorem dX9_hours_148 : decode cX9_hours 148 = .ok (.iadd, 1) := by decide +kernel
theorem dX9_hours_149 : decode cX9_hours 149 = .ok (.putfield 192, 3) := by decide +kernel
theorem dX9_hours_152 : decode cX9_hours 152 = .ok (.aload_n 0, 1) := by decide +kernel
theorem dX9_hours_153 : decode cX9_hours 153 = .ok (.dup, 1) := by decide +kernel
theorem dX9_hours_154 : decode cX9_hours 154 = .ok (.getfield 189, 3) := by decide +kernel
theorem dX9_hours_157 : decode cX9_hours 157 = .ok (.iconst 1, 1) := by decide +kernel
theorem dX9_hours_158 : decode cX9_hours 158 = .ok (.iadd, 1) := by decide +kernel
theorem dX9_hours_159 : decode cX9_hours 159 = .ok (.putfield 189, 3) := by decide +kernel
theorem dX9_hours_162 : decode cX9_hours 162 = .ok (.iinc 2 1, 3) := by decide +kernel
theorem dX9_hours_165 : decode cX9_hours 165 = .ok (.goto (-145), 3) := by decide +kernel
theorem dX9_hours_168 : decode cX9_hours 168 = .ok (.aload_n 0, 1) := by decide +kernel
theorem dX9_hours_169 : decode cX9_hours 169 = .ok (.getfield 192, 3) := by decide +kernel
theorem dX9_hours_172 : decode cX9_hours 172 = .ok (.ireturn, 1) := by decide +kernel
theorem dX9_seed_0 : decode cX9_seed 0 = .ok (.aload_n 0, 1) := by decide +kernel
theorem dX9_seed_1 : decode cX9_seed 1 = .ok (.getfield 16, 3) := by decide +kernel
theorem dX9_seed_4 : decode cX9_seed 4 = .ok (.istore_n 2, 1) := by decide +kernel
theorem dX9_seed_5 : decode cX9_seed 5 = .ok (.aload_n 0, 1) := by decide +kernel
theorem dX9_seed_6 : decode cX9_seed 6 = .ok (.iload_n 1, 1) := by decide +kernel
theorem dX9_seed_7 : decode cX9_seed 7 = .ok (.putfield 16, 3) := by decide +kernel
theorem dX9_seed_10 : decode cX9_seed 10 = .ok (.iload_n 2, 1) := by decide +kernel
theorem dX9_seed_11 : decode cX9_seed 11 = .ok (.ireturn, 1) := by decide +kernel
theorem dX9_body_0 : decode cX9_body 0 = .ok (.aload_n 0, 1) := by decide +kernel
theorem dX9_body_1 : decode cX9_body 1 = .ok (.getfield 284, 3) := by decide +kernel
theorem dX9_body_4 : decode cX9_body 4 = .ok (.bipush 20, 2) := by decide +kernel
theorem dX9_body_6 : decode cX9_body 6 = .ok (.if_icmp .ge 13, 3) := by decide +kernel
theorem dX9_body_9 : decode cX9_body 9 = .ok (.aload_n 0, 1) := by decide +kernel
theorem dX9_body_10 : decode cX9_body 10 = .ok (.getfield 105, 3) := by decide +kernel
theorem dX9_body_13 : decode cX9_body 13 = .ok (.aload_n 0, 1) := by decide +kernel
theorem dX9_body_14 : decode cX9_body 14 = .ok (.getfield 284, 3) := by decide +kernel
theorem dX9_body_17 : decode cX9_body 17 = .ok (.iload_n 1, 1) := by decide +kernel
theorem dX9_body_18 : decode cX9_body 18 = .ok (.iastore, 1) := by decide +kernel
theorem dX9_body_19 : decode cX9_body 19 = .ok (.aload_n 0, 1) := by decide +kernel
theorem dX9_body_20 : decode cX9_body 20 = .ok (.dup, 1) := by decide +kernel
theorem dX9_body_21 : decode cX9_body 21 = .ok (.getfield 284, 3) := by decide +kernel
theorem dX9_body_24 : decode cX9_body 24 = .ok (.iconst 1, 1) := by decide +kernel
theorem dX9_body_25 : decode cX9_body 25 = .ok (.iadd, 1) := by decide +kernel
theorem dX9_body_26 : decode cX9_body 26 = .ok (.putfield 284, 3) := by decide +kernel
theorem dX9_body_29 : decode cX9_body 29 = .ok (.return_, 1) := by decide +kernel
theorem dX9_looking_0 : decode cX9_looking 0 = .ok (.aload_n 0, 1) := by decide +kernel
theorem dX9_looking_1 : decode cX9_looking 1 = .ok (.getfield 26, 3) := by decide +kernel
theorem dX9_looking_4 : decode cX9_looking 4 = .ok (.iload_n 1, 1) := by decide +kernel
theorem dX9_looking_5 : decode cX9_looking 5 = .ok (.iaload, 1) := by decide +kernel
theorem dX9_looking_6 : decode cX9_looking 6 = .ok (.istore_n 3, 1) := by decide +kernel
theorem dX9_looking_7 : decode cX9_looking 7 = .ok (.iload_n 2, 1) := by decide +kernel
theorem dX9_looking_8 : decode cX9_looking 8 = .ok (.istore 4, 2) := by decide +kernel
theorem dX9_looking_10 : decode cX9_looking 10 = .ok (.iload_n 3, 1) := by decide +kernel
theorem dX9_looking_11 : decode cX9_looking 11 = .ok (.iconst 1, 1) := by decide +kernel
theorem dX9_looking_12 : decode cX9_looking 12 = .ok (.if_icmp .eq 8, 3) := by decide +kernel
theorem dX9_looking_15 : decode cX9_looking 15 = .ok (.iload_n 3, 1) := by decide +kernel
theorem dX9_looking_16 : decode cX9_looking 16 = .ok (.iconst 2, 1) := by decide +kernel
theorem dX9_looking_17 : decode cX9_looking 17 = .ok (.if_icmp .ne 7, 3) := by decide +kernel
theorem dX9_looking_20 : decode cX9_looking 20 = .ok (.iconst 1, 1) := by decide +kernel
theorem dX9_looking_21 : decode cX9_looking 21 = .ok (.goto 4, 3) := by decide +kernel
theorem dX9_looking_24 : decode cX9_looking 24 = .ok (.iconst 0, 1) := by decide +kernel
theorem dX9_looking_25 : decode cX9_looking 25 = .ok (.istore 5, 2) := by decide +kernel
theorem dX9_looking_27 : decode cX9_looking 27 = .ok (.iload_n 3, 1) := by decide +kernel
theorem dX9_looking_28 : decode cX9_looking 28 = .ok (.iconst 4, 1) := by decide +kernel
theorem dX9_looking_29 : decode cX9_looking 29 = .ok (.if_icmp .eq 9, 3) := by decide +kernel
theorem dX9_looking_32 : decode cX9_looking 32 = .ok (.iload_n 3, 1) := by decide +kernel
theorem dX9_looking_33 : decode cX9_looking 33 = .ok (.bipush 6, 2) := by decide +kernel
theorem dX9_looking_35 : decode cX9_looking 35 = .ok (.if_icmp .ne 7, 3) := by decide +kernel
theorem dX9_looking_38 : decode cX9_looking 38 = .ok (.iconst 1, 1) := by decide +kernel
theorem dX9_looking_39 : decode cX9_looking 39 = .ok (.goto 4, 3) := by decide +kernel
theorem dX9_looking_42 : decode cX9_looking 42 = .ok (.iconst 0, 1) := by decide +kernel
theorem dX9_looking_43 : decode cX9_looking 43 = .ok (.istore 6, 2) := by decide +kernel
theorem dX9_looking_45 : decode cX9_looking 45 = .ok (.iload_n 3, 1) := by decide +kernel
theorem dX9_looking_46 : decode cX9_looking 46 = .ok (.bipush 6, 2) := by decide +kernel
theorem dX9_looking_48 : decode cX9_looking 48 = .ok (.if_icmp .ne 9, 3) := by decide +kernel
theorem dX9_looking_51 : decode cX9_looking 51 = .ok (.aload_n 0, 1) := by decide +kernel
theorem dX9_looking_52 : decode cX9_looking 52 = .ok (.bipush 70, 2) := by decide +kernel
theorem dX9_looking_54 : decode cX9_looking 54 = .ok (.invokevirtual 287, 3) := by decide +kernel
theorem dX9_looking_57 : decode cX9_looking 57 = .ok (.iload_n 3, 1) := by decide +kernel
theorem dX9_looking_58 : decode cX9_looking 58 = .ok (.iconst 2, 1) := by decide +kernel
theorem dX9_looking_59 : decode cX9_looking 59 = .ok (.if_icmp .ne 14, 3) := by decide +kernel
theorem dX9_looking_62 : decode cX9_looking 62 = .ok (.aload_n 0, 1) := by decide +kernel
theorem dX9_looking_63 : decode cX9_looking 63 = .ok (.bipush 40, 2) := by decide +kernel
theorem dX9_looking_65 : decode cX9_looking 65 = .ok (.invokevirtual 287, 3) := by decide +kernel
theorem dX9_looking_68 : decode cX9_looking 68 = .ok (.iload_n 2, 1) := by decide +kernel
theorem dX9_looking_69 : decode cX9_looking 69 = .ok (.iconst 1, 1) := by decide +kernel
theorem dX9_looking_70 : decode cX9_looking 70 = .ok (.iadd, 1) := by decide +kernel
theorem dX9_looking_71 : decode cX9_looking 71 = .ok (.istore 4, 2) := by decide +kernel
theorem dX9_looking_73 : decode cX9_looking 73 = .ok (.iload 5, 2) := by decide +kernel
theorem dX9_looking_75 : decode cX9_looking 75 = .ok (.ifCond .eq 9, 3) := by decide +kernel
theorem dX9_looking_78 : decode cX9_looking 78 = .ok (.aload_n 0, 1) := by decide +kernel
theorem dX9_looking_79 : decode cX9_looking 79 = .ok (.bipush 20, 2) := by decide +kernel
theorem dX9_looking_81 : decode cX9_looking 81 = .ok (.invokevirtual 287, 3) := by decide +kernel
theorem dX9_looking_84 : decode cX9_looking 84 = .ok (.iload 6, 2) := by decide +kernel
theorem dX9_looking_86 : decode cX9_looking 86 = .ok (.ifCond .eq 9, 3) := by decide +kernel
theorem dX9_looking_89 : decode cX9_looking 89 = .ok (.aload_n 0, 1) := by decide +kernel
theorem dX9_looking_90 : decode cX9_looking 90 = .ok (.bipush 51, 2) := by decide +kernel
theorem dX9_looking_92 : decode cX9_looking 92 = .ok (.invokevirtual 287, 3) := by decide +kernel
theorem dX9_looking_95 : decode cX9_looking 95 = .ok (.aload_n 0, 1) := by decide +kernel
theorem dX9_looking_96 : decode cX9_looking 96 = .ok (.bipush 10, 2) := by decide +kernel
theorem dX9_looking_98 : decode cX9_looking 98 = .ok (.invokevirtual 287, 3) := by decide +kernel
theorem dX9_looking_101 : decode cX9_looking 101 = .ok (.iload 4, 2) := by decide +kernel
theorem dX9_looking_103 : decode cX9_looking 103 = .ok (.iload_n 1, 1) := by decide +kernel
theorem dX9_looking_104 : decode cX9_looking 104 = .ok (.iadd, 1) := by decide +kernel
theorem dX9_looking_105 : decode cX9_looking 105 = .ok (.istore 7, 2) := by decide +kernel
theorem dX9_looking_107 : decode cX9_looking 107 = .ok (.iload 5, 2) := by decide +kernel
theorem dX9_looking_109 : decode cX9_looking 109 = .ok (.ifCond .eq 14, 3) := by decide +kernel
theorem dX9_looking_112 : decode cX9_looking 112 = .ok (.iload 7, 2) := by decide +kernel
theorem dX9_looking_114 : decode cX9_looking 114 = .ok (.aload_n 0, 1) := by decide +kernel
theorem dX9_looking_115 : decode cX9_looking 115 = .ok (.getfield 29, 3) := by decide +kernel
theorem dX9_looking_118 : decode cX9_looking 118 = .ok (.iload_n 1, 1) := by decide +kernel
theorem dX9_looking_119 : decode cX9_looking 119 = .ok (.iaload, 1) := by decide +kernel
theorem dX9_looking_120 : decode cX9_looking 120 = .ok (.iadd, 1) := by decide +kernel
theorem dX9_looking_121 : decode cX9_looking 121 = .ok (.istore 7, 2) := by decide +kernel
theorem dX9_looking_123 : decode cX9_looking 123 = .ok (.iload 6, 2) := by decide +kernel
theorem dX9_looking_125 : decode cX9_looking 125 = .ok (.ifCond .eq 9, 3) := by decide +kernel
theorem dX9_looking_128 : decode cX9_looking 128 = .ok (.iload 7, 2) := by decide +kernel
theorem dX9_looking_130 : decode cX9_looking 130 = .ok (.iload_n 1, 1) := by decide +kernel
theorem dX9_looking_131 : decode cX9_looking 131 = .ok (.isub, 1) := by decide +kernel
theorem dX9_looking_132 : decode cX9_looking 132 = .ok (.istore 7, 2) := by decide +kernel
theorem dX9_looking_134 : decode cX9_looking 134 = .ok (.iload_n 3, 1) := by decide +kernel
theorem dX9_looking_135 : decode cX9_looking 135 = .ok (.bipush 6, 2) := by decide +kernel
theorem dX9_looking_137 : decode cX9_looking 137 = .ok (.if_icmp .ne 10, 3) := by decide +kernel
theorem dX9_looking_140 : decode cX9_looking 140 = .ok (.iload 7, 2) := by decide +kernel
theorem dX9_looking_142 : decode cX9_looking 142 = .ok (.iconst 2, 1) := by decide +kernel
theorem dX9_looking_143 : decode cX9_looking 143 = .ok (.imul, 1) := by decide +kernel
theorem dX9_looking_144 : decode cX9_looking 144 = .ok (.goto 5, 3) := by decide +kernel
theorem dX9_looking_147 : decode cX9_looking 147 = .ok (.iload 7, 2) := by decide +kernel
theorem dX9_looking_149 : decode cX9_looking 149 = .ok (.ireturn, 1) := by decide +kernel
theorem dX9_walking_0 : decode cX9_walking 0 = .ok (.aload_n 0, 1) := by decide +kernel
theorem dX9_walking_1 : decode cX9_walking 1 = .ok (.getfield 26, 3) := by decide +kernel
theorem dX9_walking_4 : decode cX9_walking 4 = .ok (.iload_n 1, 1) := by decide +kernel
theorem dX9_walking_5 : decode cX9_walking 5 = .ok (.iaload, 1) := by decide +kernel
theorem dX9_walking_6 : decode cX9_walking 6 = .ok (.istore_n 3, 1) := by decide +kernel
theorem dX9_walking_7 : decode cX9_walking 7 = .ok (.iload_n 2, 1) := by decide +kernel
theorem dX9_walking_8 : decode cX9_walking 8 = .ok (.istore 4, 2) := by decide +kernel
theorem dX9_walking_10 : decode cX9_walking 10 = .ok (.iload_n 3, 1) := by decide +kernel
theorem dX9_walking_11 : decode cX9_walking 11 = .ok (.bipush 6, 2) := by decide +kernel
theorem dX9_walking_13 : decode cX9_walking 13 = .ok (.if_icmp .ne 19, 3) := by decide +kernel
theorem dX9_walking_16 : decode cX9_walking 16 = .ok (.aload_n 0, 1) := by decide +kernel
theorem dX9_walking_17 : decode cX9_walking 17 = .ok (.bipush 71, 2) := by decide +kernel
theorem dX9_walking_19 : decode cX9_walking 19 = .ok (.invokevirtual 287, 3) := by decide +kernel
theorem dX9_walking_22 : decode cX9_walking 22 = .ok (.iload_n 2, 1) := by decide +kernel
theorem dX9_walking_23 : decode cX9_walking 23 = .ok (.aload_n 0, 1) := by decide +kernel
theorem dX9_walking_24 : decode cX9_walking 24 = .ok (.getfield 29, 3) := by decide +kernel
theorem dX9_walking_27 : decode cX9_walking 27 = .ok (.iload_n 1, 1) := by decide +kernel
theorem dX9_walking_28 : decode cX9_walking 28 = .ok (.iaload, 1) := by decide +kernel
theorem dX9_walking_29 : decode cX9_walking 29 = .ok (.isub, 1) := by decide +kernel
theorem dX9_walking_30 : decode cX9_walking 30 = .ok (.istore 4, 2) := by decide +kernel
theorem dX9_walking_32 : decode cX9_walking 32 = .ok (.iload_n 3, 1) := by decide +kernel
theorem dX9_walking_33 : decode cX9_walking 33 = .ok (.iconst 3, 1) := by decide +kernel
theorem dX9_walking_34 : decode cX9_walking 34 = .ok (.if_icmp .eq 8, 3) := by decide +kernel
theorem dX9_walking_37 : decode cX9_walking 37 = .ok (.iload_n 3, 1) := by decide +kernel
theorem dX9_walking_38 : decode cX9_walking 38 = .ok (.iconst 5, 1) := by decide +kernel
theorem dX9_walking_39 : decode cX9_walking 39 = .ok (.if_icmp .ne 7, 3) := by decide +kernel
theorem dX9_walking_42 : decode cX9_walking 42 = .ok (.iconst 1, 1) := by decide +kernel
theorem dX9_walking_43 : decode cX9_walking 43 = .ok (.goto 4, 3) := by decide +kernel
theorem dX9_walking_46 : decode cX9_walking 46 = .ok (.iconst 0, 1) := by decide +kernel
theorem dX9_walking_47 : decode cX9_walking 47 = .ok (.istore 5, 2) := by decide +kernel
theorem dX9_walking_49 : decode cX9_walking 49 = .ok (.iload 5, 2) := by decide +kernel
theorem dX9_walking_51 : decode cX9_walking 51 = .ok (.ifCond .eq 9, 3) := by decide +kernel
theorem dX9_walking_54 : decode cX9_walking 54 = .ok (.aload_n 0, 1) := by decide +kernel
theorem dX9_walking_55 : decode cX9_walking 55 = .ok (.bipush 30, 2) := by decide +kernel
theorem dX9_walking_57 : decode cX9_walking 57 = .ok (.invokevirtual 287, 3) := by decide +kernel
theorem dX9_walking_60 : decode cX9_walking 60 = .ok (.aload_n 0, 1) := by decide +kernel
theorem dX9_walking_61 : decode cX9_walking 61 = .ok (.bipush 11, 2) := by decide +kernel
theorem dX9_walking_63 : decode cX9_walking 63 = .ok (.invokevirtual 287, 3) := by decide +kernel
theorem dX9_walking_66 : decode cX9_walking 66 = .ok (.aload_n 0, 1) := by decide +kernel
theorem dX9_walking_67 : decode cX9_walking 67 = .ok (.iload_n 1, 1) := by decide +kernel
theorem dX9_walking_68 : decode cX9_walking 68 = .ok (.iload 4, 2) := by decide +kernel
theorem dX9_walking_70 : decode cX9_walking 70 = .ok (.invokevirtual 290, 3) := by decide +kernel
theorem dX9_walking_73 : decode cX9_walking 73 = .ok (.iconst 2, 1) := by decide +kernel
theorem dX9_walking_74 : decode cX9_walking 74 = .ok (.imul, 1) := by decide +kernel
theorem dX9_walking_75 : decode cX9_walking 75 = .ok (.istore 6, 2) := by decide +kernel
theorem dX9_walking_77 : decode cX9_walking 77 = .ok (.iload 5, 2) := by decide +kernel
theorem dX9_walking_79 : decode cX9_walking 79 = .ok (.ifCond .eq 10, 3) := by decide +kernel
theorem dX9_walking_82 : decode cX9_walking 82 = .ok (.iload 6, 2) := by decide +kernel
theorem dX9_walking_84 : decode cX9_walking 84 = .ok (.iconst 3, 1) := by decide +kernel
theorem dX9_walking_85 : decode cX9_walking 85 = .ok (.imul, 1) := by decide +kernel
theorem dX9_walking_86 : decode cX9_walking 86 = .ok (.goto 5, 3) := by decide +kernel
theorem dX9_walking_89 : decode cX9_walking 89 = .ok (.iload 6, 2) := by decide +kernel
theorem dX9_walking_91 : decode cX9_walking 91 = .ok (.ireturn, 1) := by decide +kernel
theorem dX9_paying_0 : decode cX9_paying 0 = .ok (.aload_n 0, 1) := by decide +kernel
theorem dX9_paying_1 : decode cX9_paying 1 = .ok (.getfield 26, 3) := by decide +kernel
theorem dX9_paying_4 : decode cX9_paying 4 = .ok (.iload_n 1, 1) := by decide +kernel
theorem dX9_paying_5 : decode cX9_paying 5 = .ok (.iaload, 1) := by decide +kernel
theorem dX9_paying_6 : decode cX9_paying 6 = .ok (.istore_n 3, 1) := by decide +kernel
theorem dX9_paying_7 : decode cX9_paying 7 = .ok (.iload_n 3, 1) := by decide +kernel
theorem dX9_paying_8 : decode cX9_paying 8 = .ok (.iconst 4, 1) := by decide +kernel
theorem dX9_paying_9 : decode cX9_paying 9 = .ok (.if_icmp .eq 9, 3) := by decide +kernel
theorem dX9_paying_12 : decode cX9_paying 12 = .ok (.iload_n 3, 1) := by decide +kernel
theorem dX9_paying_13 : decode cX9_paying 13 = .ok (.bipush 6, 2) := by decide +kernel
theorem dX9_paying_15 : decode cX9_paying 15 = .ok (.if_icmp .ne 7, 3) := by decide +kernel
theorem dX9_paying_18 : decode cX9_paying 18 = .ok (.iconst 1, 1) := by decide +kernel
theorem dX9_paying_19 : decode cX9_paying 19 = .ok (.goto 4, 3) := by decide +kernel
theorem dX9_paying_22 : decode cX9_paying 22 = .ok (.iconst 0, 1) := by decide +kernel
theorem dX9_paying_23 : decode cX9_paying 23 = .ok (.istore 4, 2) := by decide +kernel
theorem dX9_paying_25 : decode cX9_paying 25 = .ok (.iload_n 3, 1) := by decide +kernel
theorem dX9_paying_26 : decode cX9_paying 26 = .ok (.iconst 5, 1) := by decide +kernel
theorem dX9_paying_27 : decode cX9_paying 27 = .ok (.if_icmp .ne 9, 3) := by decide +kernel
theorem dX9_paying_30 : decode cX9_paying 30 = .ok (.aload_n 0, 1) := by decide +kernel
theorem dX9_paying_31 : decode cX9_paying 31 = .ok (.bipush 60, 2) := by decide +kernel
theorem dX9_paying_33 : decode cX9_paying 33 = .ok (.invokevirtual 287, 3) := by decide +kernel
theorem dX9_paying_36 : decode cX9_paying 36 = .ok (.iload 4, 2) := by decide +kernel
theorem dX9_paying_38 : decode cX9_paying 38 = .ok (.ifCond .eq 9, 3) := by decide +kernel
theorem dX9_paying_41 : decode cX9_paying 41 = .ok (.aload_n 0, 1) := by decide +kernel
theorem dX9_paying_42 : decode cX9_paying 42 = .ok (.bipush 50, 2) := by decide +kernel
theorem dX9_paying_44 : decode cX9_paying 44 = .ok (.invokevirtual 287, 3) := by decide +kernel
theorem dX9_paying_47 : decode cX9_paying 47 = .ok (.aload_n 0, 1) := by decide +kernel
theorem dX9_paying_48 : decode cX9_paying 48 = .ok (.bipush 12, 2) := by decide +kernel
theorem dX9_paying_50 : decode cX9_paying 50 = .ok (.invokevirtual 287, 3) := by decide +kernel
theorem dX9_paying_53 : decode cX9_paying 53 = .ok (.aload_n 0, 1) := by decide +kernel
theorem dX9_paying_54 : decode cX9_paying 54 = .ok (.iload_n 1, 1) := by decide +kernel
theorem dX9_paying_55 : decode cX9_paying 55 = .ok (.iload_n 2, 1) := by decide +kernel
theorem dX9_paying_56 : decode cX9_paying 56 = .ok (.invokevirtual 293, 3) := by decide +kernel
theorem dX9_paying_59 : decode cX9_paying 59 = .ok (.istore 5, 2) := by decide +kernel
theorem dX9_paying_61 : decode cX9_paying 61 = .ok (.iload 5, 2) := by decide +kernel
theorem dX9_paying_63 : decode cX9_paying 63 = .ok (.aload_n 0, 1) := by decide +kernel
theorem dX9_paying_64 : decode cX9_paying 64 = .ok (.iload_n 1, 1) := by decide +kernel
theorem dX9_paying_65 : decode cX9_paying 65 = .ok (.iload_n 2, 1) := by decide +kernel
theorem dX9_paying_66 : decode cX9_paying 66 = .ok (.aload_n 0, 1) := by decide +kernel
theorem dX9_paying_67 : decode cX9_paying 67 = .ok (.getfield 29, 3) := by decide +kernel
theorem dX9_paying_70 : decode cX9_paying 70 = .ok (.iload_n 1, 1) := by decide +kernel
theorem dX9_paying_71 : decode cX9_paying 71 = .ok (.iaload, 1) := by decide +kernel
theorem dX9_paying_72 : decode cX9_paying 72 = .ok (.isub, 1) := by decide +kernel
theorem dX9_paying_73 : decode cX9_paying 73 = .ok (.invokevirtual 290, 3) := by decide +kernel
theorem dX9_paying_76 : decode cX9_paying 76 = .ok (.ixor, 1) := by decide +kernel
theorem dX9_paying_77 : decode cX9_paying 77 = .ok (.istore 5, 2) := by decide +kernel
theorem dX9_paying_79 : decode cX9_paying 79 = .ok (.iload 4, 2) := by decide +kernel
theorem dX9_paying_81 : decode cX9_paying 81 = .ok (.ifCond .eq 9, 3) := by decide +kernel
theorem dX9_paying_84 : decode cX9_paying 84 = .ok (.iload 5, 2) := by decide +kernel
theorem dX9_paying_86 : decode cX9_paying 86 = .ok (.ineg, 1) := by decide +kernel
theorem dX9_paying_87 : decode cX9_paying 87 = .ok (.goto 17, 3) := by decide +kernel
theorem dX9_paying_90 : decode cX9_paying 90 = .ok (.iload_n 3, 1) := by decide +kernel
theorem dX9_paying_91 : decode cX9_paying 91 = .ok (.iconst 5, 1) := by decide +kernel
theorem dX9_paying_92 : decode cX9_paying 92 = .ok (.if_icmp .ne 10, 3) := by decide +kernel
theorem dX9_paying_95 : decode cX9_paying 95 = .ok (.iload 5, 2) := by decide +kernel
theorem dX9_paying_97 : decode cX9_paying 97 = .ok (.iconst 5, 1) := by decide +kernel
theorem dX9_paying_98 : decode cX9_paying 98 = .ok (.ixor, 1) := by decide +kernel
theorem dX9_paying_99 : decode cX9_paying 99 = .ok (.goto 5, 3) := by decide +kernel
theorem dX9_paying_102 : decode cX9_paying 102 = .ok (.iload 5, 2) := by decide +kernel
theorem dX9_paying_104 : decode cX9_paying 104 = .ok (.ireturn, 1) := by decide +kernel
theorem dX9_act_0 : decode cX9_act 0 = .ok (.aload_n 0, 1) := by decide +kernel
theorem dX9_act_1 : decode cX9_act 1 = .ok (.iconst 0, 1) := by decide +kernel
theorem dX9_act_2 : decode cX9_act 2 = .ok (.putfield 284, 3) := by decide +kernel
theorem dX9_act_5 : decode cX9_act 5 = .ok (.aload_n 0, 1) := by decide +kernel
theorem dX9_act_6 : decode cX9_act 6 = .ok (.iload_n 1, 1) := by decide +kernel
theorem dX9_act_7 : decode cX9_act 7 = .ok (.invokevirtual 119, 3) := by decide +kernel
theorem dX9_act_10 : decode cX9_act 10 = .ok (.ifCond .eq 12, 3) := by decide +kernel
theorem dX9_act_13 : decode cX9_act 13 = .ok (.iload_n 2, 1) := by decide +kernel
theorem dX9_act_14 : decode cX9_act 14 = .ok (.ifCond .lt 8, 3) := by decide +kernel
theorem dX9_act_17 : decode cX9_act 17 = .ok (.iload_n 2, 1) := by decide +kernel
theorem dX9_act_18 : decode cX9_act 18 = .ok (.iconst 2, 1) := by decide +kernel
theorem dX9_act_19 : decode cX9_act 19 = .ok (.if_icmp .le 5, 3) := by decide +kernel
theorem dX9_act_22 : decode cX9_act 22 = .ok (.iconst 0, 1) := by decide +kernel
theorem dX9_act_23 : decode cX9_act 23 = .ok (.ireturn, 1) := by decide +kernel
theorem dX9_act_24 : decode cX9_act 24 = .ok (.iload_n 2, 1) := by decide +kernel
theorem dX9_act_25 : decode cX9_act 25 = .ok (.ifCond .ne 12, 3) := by decide +kernel
theorem dX9_act_28 : decode cX9_act 28 = .ok (.aload_n 0, 1) := by decide +kernel
theorem dX9_act_29 : decode cX9_act 29 = .ok (.iload_n 1, 1) := by decide +kernel
theorem dX9_act_30 : decode cX9_act 30 = .ok (.iload_n 3, 1) := by decide +kernel
theorem dX9_act_31 : decode cX9_act 31 = .ok (.invokevirtual 290, 3) := by decide +kernel
theorem dX9_act_34 : decode cX9_act 34 = .ok (.goto 23, 3) := by decide +kernel
theorem dX9_act_37 : decode cX9_act 37 = .ok (.iload_n 2, 1) := by decide +kernel
theorem dX9_act_38 : decode cX9_act 38 = .ok (.iconst 1, 1) := by decide +kernel
theorem dX9_act_39 : decode cX9_act 39 = .ok (.if_icmp .ne 12, 3) := by decide +kernel
theorem dX9_act_42 : decode cX9_act 42 = .ok (.aload_n 0, 1) := by decide +kernel
theorem dX9_act_43 : decode cX9_act 43 = .ok (.iload_n 1, 1) := by decide +kernel
theorem dX9_act_44 : decode cX9_act 44 = .ok (.iload_n 3, 1) := by decide +kernel
theorem dX9_act_45 : decode cX9_act 45 = .ok (.invokevirtual 293, 3) := by decide +kernel
theorem dX9_act_48 : decode cX9_act 48 = .ok (.goto 9, 3) := by decide +kernel
theorem dX9_act_51 : decode cX9_act 51 = .ok (.aload_n 0, 1) := by decide +kernel
theorem dX9_act_52 : decode cX9_act 52 = .ok (.iload_n 1, 1) := by decide +kernel
theorem dX9_act_53 : decode cX9_act 53 = .ok (.iload_n 3, 1) := by decide +kernel
theorem dX9_act_54 : decode cX9_act 54 = .ok (.invokevirtual 296, 3) := by decide +kernel
theorem dX9_act_57 : decode cX9_act 57 = .ok (.ireturn, 1) := by decide +kernel
theorem dX9_trace_0 : decode cX9_trace 0 = .ok (.iload_n 1, 1) := by decide +kernel
theorem dX9_trace_1 : decode cX9_trace 1 = .ok (.ifCond .lt 26, 3) := by decide +kernel
theorem dX9_trace_4 : decode cX9_trace 4 = .ok (.iload_n 1, 1) := by decide +kernel
theorem dX9_trace_5 : decode cX9_trace 5 = .ok (.bipush 20, 2) := by decide +kernel
theorem dX9_trace_7 : decode cX9_trace 7 = .ok (.if_icmp .ge 20, 3) := by decide +kernel
theorem dX9_trace_10 : decode cX9_trace 10 = .ok (.iload_n 1, 1) := by decide +kernel
theorem dX9_trace_11 : decode cX9_trace 11 = .ok (.aload_n 0, 1) := by decide +kernel
theorem dX9_trace_12 : decode cX9_trace 12 = .ok (.getfield 284, 3) := by decide +kernel
theorem dX9_trace_15 : decode cX9_trace 15 = .ok (.if_icmp .ge 12, 3) := by decide +kernel
theorem dX9_trace_18 : decode cX9_trace 18 = .ok (.aload_n 0, 1) := by decide +kernel
theorem dX9_trace_19 : decode cX9_trace 19 = .ok (.getfield 105, 3) := by decide +kernel
theorem dX9_trace_22 : decode cX9_trace 22 = .ok (.iload_n 1, 1) := by decide +kernel
theorem dX9_trace_23 : decode cX9_trace 23 = .ok (.iaload, 1) := by decide +kernel
theorem dX9_trace_24 : decode cX9_trace 24 = .ok (.goto 4, 3) := by decide +kernel
theorem dX9_trace_27 : decode cX9_trace 27 = .ok (.iconst (-1), 1) := by decide +kernel
theorem dX9_trace_28 : decode cX9_trace 28 = .ok (.ireturn, 1) := by decide +kernel
theorem dX9_image_0 : decode cX9_image 0 = .ok (.aload_n 0, 1) := by decide +kernel
theorem dX9_image_1 : decode cX9_image 1 = .ok (.iconst 1, 1) := by decide +kernel
theorem dX9_image_2 : decode cX9_image 2 = .ok (.putfield 299, 3) := by decide +kernel
theorem dX9_image_5 : decode cX9_image 5 = .ok (.aload_n 0, 1) := by decide +kernel
theorem dX9_image_6 : decode cX9_image 6 = .ok (.aload_n 0, 1) := by decide +kernel
theorem dX9_image_7 : decode cX9_image 7 = .ok (.getfield 87, 3) := by decide +kernel
theorem dX9_image_10 : decode cX9_image 10 = .ok (.iconst 0, 1) := by decide +kernel
theorem dX9_image_11 : decode cX9_image 11 = .ok (.invokevirtual 198, 3) := by decide +kernel
theorem dX9_image_14 : decode cX9_image 14 = .ok (.aload_n 0, 1) := by decide +kernel
theorem dX9_image_15 : decode cX9_image 15 = .ok (.getfield 108, 3) := by decide +kernel
theorem dX9_image_18 : decode cX9_image 18 = .ok (.ireturn, 1) := by decide +kernel
theorem dX9_restore_0 : decode cX9_restore 0 = .ok (.aload_n 0, 1) := by decide +kernel
theorem dX9_restore_1 : decode cX9_restore 1 = .ok (.getfield 299, 3) := by decide +kernel
theorem dX9_restore_4 : decode cX9_restore 4 = .ok (.ifCond .ne 10, 3) := by decide +kernel
theorem dX9_restore_7 : decode cX9_restore 7 = .ok (.aload_n 0, 1) := by decide +kernel
theorem dX9_restore_8 : decode cX9_restore 8 = .ok (.bipush (-6), 2) := by decide +kernel
theorem dX9_restore_10 : decode cX9_restore 10 = .ok (.invokevirtual 115, 3) := by decide +kernel
theorem dX9_restore_13 : decode cX9_restore 13 = .ok (.ireturn, 1) := by decide +kernel
theorem dX9_restore_14 : decode cX9_restore 14 = .ok (.aload_n 0, 1) := by decide +kernel
theorem dX9_restore_15 : decode cX9_restore 15 = .ok (.aload_n 0, 1) := by decide +kernel
theorem dX9_restore_16 : decode cX9_restore 16 = .ok (.getfield 87, 3) := by decide +kernel
theorem dX9_restore_19 : decode cX9_restore 19 = .ok (.iconst 1, 1) := by decide +kernel
theorem dX9_restore_20 : decode cX9_restore 20 = .ok (.invokevirtual 198, 3) := by decide +kernel
theorem dX9_restore_23 : decode cX9_restore 23 = .ok (.iconst 0, 1) := by decide +kernel
theorem dX9_restore_24 : decode cX9_restore 24 = .ok (.istore_n 1, 1) := by decide +kernel
theorem dX9_restore_25 : decode cX9_restore 25 = .ok (.iload_n 1, 1) := by decide +kernel
theorem dX9_restore_26 : decode cX9_restore 26 = .ok (.bipush 8, 2) := by decide +kernel
theorem dX9_restore_28 : decode cX9_restore 28 = .ok (.if_icmp .ge 39, 3) := by decide +kernel
theorem dX9_restore_31 : decode cX9_restore 31 = .ok (.aload_n 0, 1) := by decide +kernel
theorem dX9_restore_32 : decode cX9_restore 32 = .ok (.getfield 53, 3) := by decide +kernel
theorem dX9_restore_35 : decode cX9_restore 35 = .ok (.iload_n 1, 1) := by decide +kernel
theorem dX9_restore_36 : decode cX9_restore 36 = .ok (.iaload, 1) := by decide +kernel
theorem dX9_restore_37 : decode cX9_restore 37 = .ok (.iconst 2, 1) := by decide +kernel
theorem dX9_restore_38 : decode cX9_restore 38 = .ok (.if_icmp .ne 23, 3) := by decide +kernel
theorem dX9_restore_41 : decode cX9_restore 41 = .ok (.aload_n 0, 1) := by decide +kernel
theorem dX9_restore_42 : decode cX9_restore 42 = .ok (.getfield 62, 3) := by decide +kernel
theorem dX9_restore_45 : decode cX9_restore 45 = .ok (.iload_n 1, 1) := by decide +kernel
theorem dX9_restore_46 : decode cX9_restore 46 = .ok (.iaload, 1) := by decide +kernel
theorem dX9_restore_47 : decode cX9_restore 47 = .ok (.aload_n 0, 1) := by decide +kernel
theorem dX9_restore_48 : decode cX9_restore 48 = .ok (.getfield 108, 3) := by decide +kernel
theorem dX9_restore_51 : decode cX9_restore 51 = .ok (.if_icmp .lt 10, 3) := by decide +kernel
theorem dX9_restore_54 : decode cX9_restore 54 = .ok (.aload_n 0, 1) := by decide +kernel
theorem dX9_restore_55 : decode cX9_restore 55 = .ok (.getfield 53, 3) := by decide +kernel
theorem dX9_restore_58 : decode cX9_restore 58 = .ok (.iload_n 1, 1) := by decide +kernel
theorem dX9_restore_59 : decode cX9_restore 59 = .ok (.iconst 0, 1) := by decide +kernel
theorem dX9_restore_60 : decode cX9_restore 60 = .ok (.iastore, 1) := by decide +kernel
theorem dX9_restore_61 : decode cX9_restore 61 = .ok (.iinc 1 1, 3) := by decide +kernel
theorem dX9_restore_64 : decode cX9_restore 64 = .ok (.goto (-39), 3) := by decide +kernel
theorem dX9_restore_67 : decode cX9_restore 67 = .ok (.aload_n 0, 1) := by decide +kernel
theorem dX9_restore_68 : decode cX9_restore 68 = .ok (.getfield 108, 3) := by decide +kernel
theorem dX9_restore_71 : decode cX9_restore 71 = .ok (.ireturn, 1) := by decide +kernel
theorem dX9_together_0 : decode cX9_together 0 = .ok (.iconst 0, 1) := by decide +kernel
theorem dX9_together_1 : decode cX9_together 1 = .ok (.istore_n 3, 1) := by decide +kernel
theorem dX9_together_2 : decode cX9_together 2 = .ok (.iconst 0, 1) := by decide +kernel
theorem dX9_together_3 : decode cX9_together 3 = .ok (.istore 4, 2) := by decide +kernel
theorem dX9_together_5 : decode cX9_together 5 = .ok (.iload 4, 2) := by decide +kernel
theorem dX9_together_7 : decode cX9_together 7 = .ok (.iload_n 2, 1) := by decide +kernel
theorem dX9_together_8 : decode cX9_together 8 = .ok (.if_icmp .ge 16, 3) := by decide +kernel
theorem dX9_together_11 : decode cX9_together 11 = .ok (.iload_n 3, 1) := by decide +kernel
theorem dX9_together_12 : decode cX9_together 12 = .ok (.aload_n 1, 1) := by decide +kernel
theorem dX9_together_13 : decode cX9_together 13 = .ok (.iload 4, 2) := by decide +kernel
theorem dX9_together_15 : decode cX9_together 15 = .ok (.iaload, 1) := by decide +kernel
theorem dX9_together_16 : decode cX9_together 16 = .ok (.iadd, 1) := by decide +kernel
theorem dX9_together_17 : decode cX9_together 17 = .ok (.istore_n 3, 1) := by decide +kernel
theorem dX9_together_18 : decode cX9_together 18 = .ok (.iinc 4 1, 3) := by decide +kernel
theorem dX9_together_21 : decode cX9_together 21 = .ok (.goto (-16), 3) := by decide +kernel
theorem dX9_together_24 : decode cX9_together 24 = .ok (.iload_n 3, 1) := by decide +kernel
theorem dX9_together_25 : decode cX9_together 25 = .ok (.ireturn, 1) := by decide +kernel
theorem dX9_status_0 : decode cX9_status 0 = .ok (.iload_n 1, 1) := by decide +kernel
theorem dX9_status_1 : decode cX9_status 1 = .ok (.bipush 11, 2) := by decide +kernel
theorem dX9_status_3 : decode cX9_status 3 = .ok (.if_icmp .lt 19, 3) := by decide +kernel
theorem dX9_status_6 : decode cX9_status 6 = .ok (.iload_n 1, 1) := by decide +kernel
theorem dX9_status_7 : decode cX9_status 7 = .ok (.bipush 17, 2) := by decide +kernel
theorem dX9_status_9 : decode cX9_status 9 = .ok (.if_icmp .gt 13, 3) := by decide +kernel
theorem dX9_status_12 : decode cX9_status 12 = .ok (.aload_n 0, 1) := by decide +kernel
theorem dX9_status_13 : decode cX9_status 13 = .ok (.getfield 22, 3) := by decide +kernel
theorem dX9_status_16 : decode cX9_status 16 = .ok (.iload_n 1, 1) := by decide +kernel
theorem dX9_status_17 : decode cX9_status 17 = .ok (.bipush 10, 2) := by decide +kernel
theorem dX9_status_19 : decode cX9_status 19 = .ok (.isub, 1) := by decide +kernel
theorem dX9_status_20 : decode cX9_status 20 = .ok (.iaload, 1) := by decide +kernel
theorem dX9_status_21 : decode cX9_status 21 = .ok (.ireturn, 1) := by decide +kernel
theorem dX9_status_22 : decode cX9_status 22 = .ok (.iload_n 1, 1) := by decide +kernel
theorem dX9_status_23 : decode cX9_status 23 = .ok (.tableswitch 132 0 10 #[57, 62, 73, 84, 89, 94, 99, 104, 109, 122, 127], 57) := by decide +kernel
theorem dX9_status_80 : decode cX9_status 80 = .ok (.aload_n 0, 1) := by decide +kernel
theorem dX9_status_81 : decode cX9_status 81 = .ok (.getfield 108, 3) := by decide +kernel
theorem dX9_status_84 : decode cX9_status 84 = .ok (.ireturn, 1) := by decide +kernel
theorem dX9_status_85 : decode cX9_status 85 = .ok (.aload_n 0, 1) := by decide +kernel
theorem dX9_status_86 : decode cX9_status 86 = .ok (.aload_n 0, 1) := by decide +kernel
theorem dX9_status_87 : decode cX9_status 87 = .ok (.getfield 47, 3) := by decide +kernel
theorem dX9_status_90 : decode cX9_status 90 = .ok (.bipush 36, 2) := by decide +kernel
theorem dX9_status_92 : decode cX9_status 92 = .ok (.invokevirtual 303, 3) := by decide +kernel
theorem dX9_status_95 : decode cX9_status 95 = .ok (.ireturn, 1) := by decide +kernel
theorem dX9_status_96 : decode cX9_status 96 = .ok (.aload_n 0, 1) := by decide +kernel
theorem dX9_status_97 : decode cX9_status 97 = .ok (.aload_n 0, 1) := by decide +kernel
theorem dX9_status_98 : decode cX9_status 98 = .ok (.getfield 50, 3) := by decide +kernel
theorem dX9_status_101 : decode cX9_status 101 = .ok (.bipush 36, 2) := by decide +kernel
theorem dX9_status_103 : decode cX9_status 103 = .ok (.invokevirtual 303, 3) := by decide +kernel
theorem dX9_status_106 : decode cX9_status 106 = .ok (.ireturn, 1) := by decide +kernel
theorem dX9_status_107 : decode cX9_status 107 = .ok (.aload_n 0, 1) := by decide +kernel
theorem dX9_status_108 : decode cX9_status 108 = .ok (.getfield 7, 3) := by decide +kernel
theorem dX9_status_111 : decode cX9_status 111 = .ok (.ireturn, 1) := by decide +kernel
theorem dX9_status_112 : decode cX9_status 112 = .ok (.aload_n 0, 1) := by decide +kernel
theorem dX9_status_113 : decode cX9_status 113 = .ok (.getfield 13, 3) := by decide +kernel
theorem dX9_status_116 : decode cX9_status 116 = .ok (.ireturn, 1) := by decide +kernel
theorem dX9_status_117 : decode cX9_status 117 = .ok (.aload_n 0, 1) := by decide +kernel
theorem dX9_status_118 : decode cX9_status 118 = .ok (.getfield 139, 3) := by decide +kernel
theorem dX9_status_121 : decode cX9_status 121 = .ok (.ireturn, 1) := by decide +kernel
theorem dX9_status_122 : decode cX9_status 122 = .ok (.aload_n 0, 1) := by decide +kernel
theorem dX9_status_123 : decode cX9_status 123 = .ok (.getfield 189, 3) := by decide +kernel
theorem dX9_status_126 : decode cX9_status 126 = .ok (.ireturn, 1) := by decide +kernel
theorem dX9_status_127 : decode cX9_status 127 = .ok (.aload_n 0, 1) := by decide +kernel
theorem dX9_status_128 : decode cX9_status 128 = .ok (.getfield 192, 3) := by decide +kernel
theorem dX9_status_131 : decode cX9_status 131 = .ok (.ireturn, 1) := by decide +kernel
theorem dX9_status_132 : decode cX9_status 132 = .ok (.aload_n 0, 1) := by decide +kernel
theorem dX9_status_133 : decode cX9_status 133 = .ok (.aload_n 0, 1) := by decide +kernel
theorem dX9_status_134 : decode cX9_status 134 = .ok (.getfield 38, 3) := by decide +kernel
theorem dX9_status_137 : decode cX9_status 137 = .ok (.aload_n 0, 1) := by decide +kernel
theorem dX9_status_138 : decode cX9_status 138 = .ok (.getfield 108, 3) := by decide +kernel
theorem dX9_status_141 : decode cX9_status 141 = .ok (.invokevirtual 303, 3) := by decide +kernel
theorem dX9_status_144 : decode cX9_status 144 = .ok (.ireturn, 1) := by decide +kernel
theorem dX9_status_145 : decode cX9_status 145 = .ok (.aload_n 0, 1) := by decide +kernel
theorem dX9_status_146 : decode cX9_status 146 = .ok (.getfield 16, 3) := by decide +kernel
theorem dX9_status_149 : decode cX9_status 149 = .ok (.ireturn, 1) := by decide +kernel
theorem dX9_status_150 : decode cX9_status 150 = .ok (.aload_n 0, 1) := by decide +kernel
theorem dX9_status_151 : decode cX9_status 151 = .ok (.getfield 284, 3) := by decide +kernel
theorem dX9_status_154 : decode cX9_status 154 = .ok (.ireturn, 1) := by decide +kernel
theorem dX9_status_155 : decode cX9_status 155 = .ok (.iconst (-1), 1) := by decide +kernel
theorem dX9_status_156 : decode cX9_status 156 = .ok (.ireturn, 1) := by decide +kernel
theorem dJ6_bitCount_0f7a4_0 : decode cJ6_bitCount_0f7a4 0 = .ok (.iload_n 0, 1) := by decide +kernel
theorem dJ6_bitCount_0f7a4_1 : decode cJ6_bitCount_0f7a4 1 = .ok (.iload_n 0, 1) := by decide +kernel
theorem dJ6_bitCount_0f7a4_2 : decode cJ6_bitCount_0f7a4 2 = .ok (.iconst 1, 1) := by decide +kernel
theorem dJ6_bitCount_0f7a4_3 : decode cJ6_bitCount_0f7a4 3 = .ok (.iushr, 1) := by decide +kernel
theorem dJ6_bitCount_0f7a4_4 : decode cJ6_bitCount_0f7a4 4 = .ok (.ldc_w 265, 3) := by decide +kernel
theorem dJ6_bitCount_0f7a4_7 : decode cJ6_bitCount_0f7a4 7 = .ok (.iand, 1) := by decide +kernel
theorem dJ6_bitCount_0f7a4_8 : decode cJ6_bitCount_0f7a4 8 = .ok (.isub, 1) := by decide +kernel
theorem dJ6_bitCount_0f7a4_9 : decode cJ6_bitCount_0f7a4 9 = .ok (.istore_n 0, 1) := by decide +kernel
theorem dJ6_bitCount_0f7a4_10 : decode cJ6_bitCount_0f7a4 10 = .ok (.iload_n 0, 1) := by decide +kernel
theorem dJ6_bitCount_0f7a4_11 : decode cJ6_bitCount_0f7a4 11 = .ok (.ldc_w 266, 3) := by decide +kernel
theorem dJ6_bitCount_0f7a4_14 : decode cJ6_bitCount_0f7a4 14 = .ok (.iand, 1) := by decide +kernel
theorem dJ6_bitCount_0f7a4_15 : decode cJ6_bitCount_0f7a4 15 = .ok (.iload_n 0, 1) := by decide +kernel
theorem dJ6_bitCount_0f7a4_16 : decode cJ6_bitCount_0f7a4 16 = .ok (.iconst 2, 1) := by decide +kernel
theorem dJ6_bitCount_0f7a4_17 : decode cJ6_bitCount_0f7a4 17 = .ok (.iushr, 1) := by decide +kernel
theorem dJ6_bitCount_0f7a4_18 : decode cJ6_bitCount_0f7a4 18 = .ok (.ldc_w 266, 3) := by decide +kernel
theorem dJ6_bitCount_0f7a4_21 : decode cJ6_bitCount_0f7a4 21 = .ok (.iand, 1) := by decide +kernel
theorem dJ6_bitCount_0f7a4_22 : decode cJ6_bitCount_0f7a4 22 = .ok (.iadd, 1) := by decide +kernel
theorem dJ6_bitCount_0f7a4_23 : decode cJ6_bitCount_0f7a4 23 = .ok (.istore_n 0, 1) := by decide +kernel
theorem dJ6_bitCount_0f7a4_24 : decode cJ6_bitCount_0f7a4 24 = .ok (.iload_n 0, 1) := by decide +kernel
theorem dJ6_bitCount_0f7a4_25 : decode cJ6_bitCount_0f7a4 25 = .ok (.iload_n 0, 1) := by decide +kernel
theorem dJ6_bitCount_0f7a4_26 : decode cJ6_bitCount_0f7a4 26 = .ok (.iconst 4, 1) := by decide +kernel
theorem dJ6_bitCount_0f7a4_27 : decode cJ6_bitCount_0f7a4 27 = .ok (.iushr, 1) := by decide +kernel
theorem dJ6_bitCount_0f7a4_28 : decode cJ6_bitCount_0f7a4 28 = .ok (.iadd, 1) := by decide +kernel
theorem dJ6_bitCount_0f7a4_29 : decode cJ6_bitCount_0f7a4 29 = .ok (.ldc_w 267, 3) := by decide +kernel
theorem dJ6_bitCount_0f7a4_32 : decode cJ6_bitCount_0f7a4 32 = .ok (.iand, 1) := by decide +kernel
theorem dJ6_bitCount_0f7a4_33 : decode cJ6_bitCount_0f7a4 33 = .ok (.istore_n 0, 1) := by decide +kernel
theorem dJ6_bitCount_0f7a4_34 : decode cJ6_bitCount_0f7a4 34 = .ok (.iload_n 0, 1) := by decide +kernel
theorem dJ6_bitCount_0f7a4_35 : decode cJ6_bitCount_0f7a4 35 = .ok (.iload_n 0, 1) := by decide +kernel
theorem dJ6_bitCount_0f7a4_36 : decode cJ6_bitCount_0f7a4 36 = .ok (.bipush 8, 2) := by decide +kernel
theorem dJ6_bitCount_0f7a4_38 : decode cJ6_bitCount_0f7a4 38 = .ok (.iushr, 1) := by decide +kernel
theorem dJ6_bitCount_0f7a4_39 : decode cJ6_bitCount_0f7a4 39 = .ok (.iadd, 1) := by decide +kernel
theorem dJ6_bitCount_0f7a4_40 : decode cJ6_bitCount_0f7a4 40 = .ok (.istore_n 0, 1) := by decide +kernel
theorem dJ6_bitCount_0f7a4_41 : decode cJ6_bitCount_0f7a4 41 = .ok (.iload_n 0, 1) := by decide +kernel
theorem dJ6_bitCount_0f7a4_42 : decode cJ6_bitCount_0f7a4 42 = .ok (.iload_n 0, 1) := by decide +kernel
theorem dJ6_bitCount_0f7a4_43 : decode cJ6_bitCount_0f7a4 43 = .ok (.bipush 16, 2) := by decide +kernel
theorem dJ6_bitCount_0f7a4_45 : decode cJ6_bitCount_0f7a4 45 = .ok (.iushr, 1) := by decide +kernel
theorem dJ6_bitCount_0f7a4_46 : decode cJ6_bitCount_0f7a4 46 = .ok (.iadd, 1) := by decide +kernel
theorem dJ6_bitCount_0f7a4_47 : decode cJ6_bitCount_0f7a4 47 = .ok (.istore_n 0, 1) := by decide +kernel
theorem dJ6_bitCount_0f7a4_48 : decode cJ6_bitCount_0f7a4 48 = .ok (.iload_n 0, 1) := by decide +kernel
theorem dJ6_bitCount_0f7a4_49 : decode cJ6_bitCount_0f7a4 49 = .ok (.bipush 63, 2) := by decide +kernel
theorem dJ6_bitCount_0f7a4_51 : decode cJ6_bitCount_0f7a4 51 = .ok (.iand, 1) := by decide +kernel
theorem dJ6_bitCount_0f7a4_52 : decode cJ6_bitCount_0f7a4 52 = .ok (.ireturn, 1) := by decide +kernel
theorem dJ13_bitCount_95d88_0 : decode cJ13_bitCount_95d88 0 = .ok (.lload_n 0, 1) := by decide +kernel
theorem dJ13_bitCount_95d88_1 : decode cJ13_bitCount_95d88 1 = .ok (.lload_n 0, 1) := by decide +kernel
theorem dJ13_bitCount_95d88_2 : decode cJ13_bitCount_95d88 2 = .ok (.iconst 1, 1) := by decide +kernel
theorem dJ13_bitCount_95d88_3 : decode cJ13_bitCount_95d88 3 = .ok (.lushr, 1) := by decide +kernel
theorem dJ13_bitCount_95d88_4 : decode cJ13_bitCount_95d88 4 = .ok (.ldc2_w 314, 3) := by decide +kernel
theorem dJ13_bitCount_95d88_7 : decode cJ13_bitCount_95d88 7 = .ok (.land, 1) := by decide +kernel
theorem dJ13_bitCount_95d88_8 : decode cJ13_bitCount_95d88 8 = .ok (.lsub, 1) := by decide +kernel
theorem dJ13_bitCount_95d88_9 : decode cJ13_bitCount_95d88 9 = .ok (.lstore_n 0, 1) := by decide +kernel
theorem dJ13_bitCount_95d88_10 : decode cJ13_bitCount_95d88 10 = .ok (.lload_n 0, 1) := by decide +kernel
theorem dJ13_bitCount_95d88_11 : decode cJ13_bitCount_95d88 11 = .ok (.ldc2_w 316, 3) := by decide +kernel
theorem dJ13_bitCount_95d88_14 : decode cJ13_bitCount_95d88 14 = .ok (.land, 1) := by decide +kernel
theorem dJ13_bitCount_95d88_15 : decode cJ13_bitCount_95d88 15 = .ok (.lload_n 0, 1) := by decide +kernel
theorem dJ13_bitCount_95d88_16 : decode cJ13_bitCount_95d88 16 = .ok (.iconst 2, 1) := by decide +kernel
theorem dJ13_bitCount_95d88_17 : decode cJ13_bitCount_95d88 17 = .ok (.lushr, 1) := by decide +kernel
theorem dJ13_bitCount_95d88_18 : decode cJ13_bitCount_95d88 18 = .ok (.ldc2_w 316, 3) := by decide +kernel
theorem dJ13_bitCount_95d88_21 : decode cJ13_bitCount_95d88 21 = .ok (.land, 1) := by decide +kernel
theorem dJ13_bitCount_95d88_22 : decode cJ13_bitCount_95d88 22 = .ok (.ladd, 1) := by decide +kernel
theorem dJ13_bitCount_95d88_23 : decode cJ13_bitCount_95d88 23 = .ok (.lstore_n 0, 1) := by decide +kernel
theorem dJ13_bitCount_95d88_24 : decode cJ13_bitCount_95d88 24 = .ok (.lload_n 0, 1) := by decide +kernel
theorem dJ13_bitCount_95d88_25 : decode cJ13_bitCount_95d88 25 = .ok (.lload_n 0, 1) := by decide +kernel
theorem dJ13_bitCount_95d88_26 : decode cJ13_bitCount_95d88 26 = .ok (.iconst 4, 1) := by decide +kernel
theorem dJ13_bitCount_95d88_27 : decode cJ13_bitCount_95d88 27 = .ok (.lushr, 1) := by decide +kernel
theorem dJ13_bitCount_95d88_28 : decode cJ13_bitCount_95d88 28 = .ok (.ladd, 1) := by decide +kernel
theorem dJ13_bitCount_95d88_29 : decode cJ13_bitCount_95d88 29 = .ok (.ldc2_w 318, 3) := by decide +kernel
theorem dJ13_bitCount_95d88_32 : decode cJ13_bitCount_95d88 32 = .ok (.land, 1) := by decide +kernel
theorem dJ13_bitCount_95d88_33 : decode cJ13_bitCount_95d88 33 = .ok (.lstore_n 0, 1) := by decide +kernel
theorem dJ13_bitCount_95d88_34 : decode cJ13_bitCount_95d88 34 = .ok (.lload_n 0, 1) := by decide +kernel
theorem dJ13_bitCount_95d88_35 : decode cJ13_bitCount_95d88 35 = .ok (.lload_n 0, 1) := by decide +kernel
theorem dJ13_bitCount_95d88_36 : decode cJ13_bitCount_95d88 36 = .ok (.bipush 8, 2) := by decide +kernel
theorem dJ13_bitCount_95d88_38 : decode cJ13_bitCount_95d88 38 = .ok (.lushr, 1) := by decide +kernel
theorem dJ13_bitCount_95d88_39 : decode cJ13_bitCount_95d88 39 = .ok (.ladd, 1) := by decide +kernel
theorem dJ13_bitCount_95d88_40 : decode cJ13_bitCount_95d88 40 = .ok (.lstore_n 0, 1) := by decide +kernel
theorem dJ13_bitCount_95d88_41 : decode cJ13_bitCount_95d88 41 = .ok (.lload_n 0, 1) := by decide +kernel
theorem dJ13_bitCount_95d88_42 : decode cJ13_bitCount_95d88 42 = .ok (.lload_n 0, 1) := by decide +kernel
theorem dJ13_bitCount_95d88_43 : decode cJ13_bitCount_95d88 43 = .ok (.bipush 16, 2) := by decide +kernel
theorem dJ13_bitCount_95d88_45 : decode cJ13_bitCount_95d88 45 = .ok (.lushr, 1) := by decide +kernel
theorem dJ13_bitCount_95d88_46 : decode cJ13_bitCount_95d88 46 = .ok (.ladd, 1) := by decide +kernel
theorem dJ13_bitCount_95d88_47 : decode cJ13_bitCount_95d88 47 = .ok (.lstore_n 0, 1) := by decide +kernel
theorem dJ13_bitCount_95d88_48 : decode cJ13_bitCount_95d88 48 = .ok (.lload_n 0, 1) := by decide +kernel
theorem dJ13_bitCount_95d88_49 : decode cJ13_bitCount_95d88 49 = .ok (.lload_n 0, 1) := by decide +kernel
theorem dJ13_bitCount_95d88_50 : decode cJ13_bitCount_95d88 50 = .ok (.bipush 32, 2) := by decide +kernel
theorem dJ13_bitCount_95d88_52 : decode cJ13_bitCount_95d88 52 = .ok (.lushr, 1) := by decide +kernel
theorem dJ13_bitCount_95d88_53 : decode cJ13_bitCount_95d88 53 = .ok (.ladd, 1) := by decide +kernel
theorem dJ13_bitCount_95d88_54 : decode cJ13_bitCount_95d88 54 = .ok (.lstore_n 0, 1) := by decide +kernel
theorem dJ13_bitCount_95d88_55 : decode cJ13_bitCount_95d88 55 = .ok (.lload_n 0, 1) := by decide +kernel
theorem dJ13_bitCount_95d88_56 : decode cJ13_bitCount_95d88 56 = .ok (.l2i, 1) := by decide +kernel
theorem dJ13_bitCount_95d88_57 : decode cJ13_bitCount_95d88 57 = .ok (.bipush 127, 2) := by decide +kernel
theorem dJ13_bitCount_95d88_59 : decode cJ13_bitCount_95d88 59 = .ok (.iand, 1) := by decide +kernel
theorem dJ13_bitCount_95d88_60 : decode cJ13_bitCount_95d88 60 = .ok (.ireturn, 1) := by decide +kernel
theorem dJ9_abs_0f7a4_0 : decode cJ9_abs_0f7a4 0 = .ok (.iload_n 0, 1) := by decide +kernel
theorem dJ9_abs_0f7a4_1 : decode cJ9_abs_0f7a4 1 = .ok (.ifCond .ge 8, 3) := by decide +kernel
theorem dJ9_abs_0f7a4_4 : decode cJ9_abs_0f7a4 4 = .ok (.iload_n 0, 1) := by decide +kernel
theorem dJ9_abs_0f7a4_5 : decode cJ9_abs_0f7a4 5 = .ok (.ineg, 1) := by decide +kernel
theorem dJ9_abs_0f7a4_6 : decode cJ9_abs_0f7a4 6 = .ok (.goto 4, 3) := by decide +kernel
theorem dJ9_abs_0f7a4_9 : decode cJ9_abs_0f7a4 9 = .ok (.iload_n 0, 1) := by decide +kernel
theorem dJ9_abs_0f7a4_10 : decode cJ9_abs_0f7a4 10 = .ok (.ireturn, 1) := by decide +kernel
theorem dJ9_max_7cf53_0 : decode cJ9_max_7cf53 0 = .ok (.iload_n 0, 1) := by decide +kernel
theorem dJ9_max_7cf53_1 : decode cJ9_max_7cf53 1 = .ok (.iload_n 1, 1) := by decide +kernel
theorem dJ9_max_7cf53_2 : decode cJ9_max_7cf53 2 = .ok (.if_icmp .lt 7, 3) := by decide +kernel
theorem dJ9_max_7cf53_5 : decode cJ9_max_7cf53 5 = .ok (.iload_n 0, 1) := by decide +kernel
theorem dJ9_max_7cf53_6 : decode cJ9_max_7cf53 6 = .ok (.goto 4, 3) := by decide +kernel
theorem dJ9_max_7cf53_9 : decode cJ9_max_7cf53 9 = .ok (.iload_n 1, 1) := by decide +kernel
theorem dJ9_max_7cf53_10 : decode cJ9_max_7cf53 10 = .ok (.ireturn, 1) := by decide +kernel
theorem dJ9_min_7cf53_0 : decode cJ9_min_7cf53 0 = .ok (.iload_n 0, 1) := by decide +kernel
theorem dJ9_min_7cf53_1 : decode cJ9_min_7cf53 1 = .ok (.iload_n 1, 1) := by decide +kernel
theorem dJ9_min_7cf53_2 : decode cJ9_min_7cf53 2 = .ok (.if_icmp .gt 7, 3) := by decide +kernel
theorem dJ9_min_7cf53_5 : decode cJ9_min_7cf53 5 = .ok (.iload_n 0, 1) := by decide +kernel
theorem dJ9_min_7cf53_6 : decode cJ9_min_7cf53 6 = .ok (.goto 4, 3) := by decide +kernel
theorem dJ9_min_7cf53_9 : decode cJ9_min_7cf53 9 = .ok (.iload_n 1, 1) := by decide +kernel
theorem dJ9_min_7cf53_10 : decode cJ9_min_7cf53 10 = .ok (.ireturn, 1) := by decide +kernel
theorem dJ0_length_8abf5_0 : decode cJ0_length_8abf5 0 = .ok (.aload_n 0, 1) := by decide +kernel
theorem dJ0_length_8abf5_1 : decode cJ0_length_8abf5 1 = .ok (.getfield 9, 3) := by decide +kernel
theorem dJ0_length_8abf5_4 : decode cJ0_length_8abf5 4 = .ok (.arraylength, 1) := by decide +kernel
theorem dJ0_length_8abf5_5 : decode cJ0_length_8abf5 5 = .ok (.aload_n 0, 1) := by decide +kernel
theorem dJ0_length_8abf5_6 : decode cJ0_length_8abf5 6 = .ok (.invokevirtual 335, 3) := by decide +kernel
theorem dJ0_length_8abf5_9 : decode cJ0_length_8abf5 9 = .ok (.ishr, 1) := by decide +kernel
theorem dJ0_length_8abf5_10 : decode cJ0_length_8abf5 10 = .ok (.ireturn, 1) := by decide +kernel
theorem dJ0_isEmpty_aae02_0 : decode cJ0_isEmpty_aae02 0 = .ok (.aload_n 0, 1) := by decide +kernel
theorem dJ0_isEmpty_aae02_1 : decode cJ0_isEmpty_aae02 1 = .ok (.getfield 9, 3) := by decide +kernel
theorem dJ0_isEmpty_aae02_4 : decode cJ0_isEmpty_aae02 4 = .ok (.arraylength, 1) := by decide +kernel
theorem dJ0_isEmpty_aae02_5 : decode cJ0_isEmpty_aae02 5 = .ok (.ifCond .ne 7, 3) := by decide +kernel
theorem dJ0_isEmpty_aae02_8 : decode cJ0_isEmpty_aae02 8 = .ok (.iconst 1, 1) := by decide +kernel
theorem dJ0_isEmpty_aae02_9 : decode cJ0_isEmpty_aae02 9 = .ok (.goto 4, 3) := by decide +kernel
theorem dJ0_isEmpty_aae02_12 : decode cJ0_isEmpty_aae02 12 = .ok (.iconst 0, 1) := by decide +kernel
theorem dJ0_isEmpty_aae02_13 : decode cJ0_isEmpty_aae02 13 = .ok (.ireturn, 1) := by decide +kernel
theorem dJ0_charAt_5068e_0 : decode cJ0_charAt_5068e 0 = .ok (.aload_n 0, 1) := by decide +kernel
theorem dJ0_charAt_5068e_1 : decode cJ0_charAt_5068e 1 = .ok (.invokevirtual 492, 3) := by decide +kernel
theorem dJ0_charAt_5068e_4 : decode cJ0_charAt_5068e 4 = .ok (.ifCond .eq 12, 3) := by decide +kernel
theorem dJ0_charAt_5068e_7 : decode cJ0_charAt_5068e 7 = .ok (.aload_n 0, 1) := by decide +kernel
theorem dJ0_charAt_5068e_8 : decode cJ0_charAt_5068e 8 = .ok (.getfield 9, 3) := by decide +kernel
theorem dJ0_charAt_5068e_11 : decode cJ0_charAt_5068e 11 = .ok (.iload_n 1, 1) := by decide +kernel
theorem dJ0_charAt_5068e_12 : decode cJ0_charAt_5068e 12 = .ok (.invokestatic 495, 3) := by decide +kernel
theorem dJ0_charAt_5068e_15 : decode cJ0_charAt_5068e 15 = .ok (.ireturn, 1) := by decide +kernel
theorem dJ0_charAt_5068e_16 : decode cJ0_charAt_5068e 16 = .ok (.aload_n 0, 1) := by decide +kernel
theorem dJ0_charAt_5068e_17 : decode cJ0_charAt_5068e 17 = .ok (.getfield 9, 3) := by decide +kernel
theorem dJ0_charAt_5068e_20 : decode cJ0_charAt_5068e 20 = .ok (.iload_n 1, 1) := by decide +kernel
theorem dJ0_charAt_5068e_21 : decode cJ0_charAt_5068e 21 = .ok (.invokestatic 498, 3) := by decide +kernel
theorem dJ0_charAt_5068e_24 : decode cJ0_charAt_5068e 24 = .ok (.ireturn, 1) := by decide +kernel
theorem dJ0_coder_7d493_0 : decode cJ0_coder_7d493 0 = .ok (.getstatic 38, 3) := by decide +kernel
theorem dJ0_coder_7d493_3 : decode cJ0_coder_7d493 3 = .ok (.ifCond .eq 10, 3) := by decide +kernel
theorem dJ0_coder_7d493_6 : decode cJ0_coder_7d493 6 = .ok (.aload_n 0, 1) := by decide +kernel
theorem dJ0_coder_7d493_7 : decode cJ0_coder_7d493 7 = .ok (.getfield 15, 3) := by decide +kernel
theorem dJ0_coder_7d493_10 : decode cJ0_coder_7d493 10 = .ok (.goto 4, 3) := by decide +kernel
theorem dJ0_coder_7d493_13 : decode cJ0_coder_7d493 13 = .ok (.iconst 1, 1) := by decide +kernel
theorem dJ0_coder_7d493_14 : decode cJ0_coder_7d493 14 = .ok (.ireturn, 1) := by decide +kernel
theorem dJ0_isLatin1_aae02_0 : decode cJ0_isLatin1_aae02 0 = .ok (.getstatic 38, 3) := by decide +kernel
theorem dJ0_isLatin1_aae02_3 : decode cJ0_isLatin1_aae02 3 = .ok (.ifCond .eq 14, 3) := by decide +kernel
theorem dJ0_isLatin1_aae02_6 : decode cJ0_isLatin1_aae02 6 = .ok (.aload_n 0, 1) := by decide +kernel
theorem dJ0_isLatin1_aae02_7 : decode cJ0_isLatin1_aae02 7 = .ok (.getfield 15, 3) := by decide +kernel
theorem dJ0_isLatin1_aae02_10 : decode cJ0_isLatin1_aae02 10 = .ok (.ifCond .ne 7, 3) := by decide +kernel
theorem dJ0_isLatin1_aae02_13 : decode cJ0_isLatin1_aae02 13 = .ok (.iconst 1, 1) := by decide +kernel
theorem dJ0_isLatin1_aae02_14 : decode cJ0_isLatin1_aae02 14 = .ok (.goto 4, 3) := by decide +kernel
theorem dJ0_isLatin1_aae02_17 : decode cJ0_isLatin1_aae02 17 = .ok (.iconst 0, 1) := by decide +kernel
theorem dJ0_isLatin1_aae02_18 : decode cJ0_isLatin1_aae02 18 = .ok (.ireturn, 1) := by decide +kernel
theorem dJ0_checkIndex_df160_0 : decode cJ0_checkIndex_df160 0 = .ok (.iload_n 0, 1) := by decide +kernel
theorem dJ0_checkIndex_df160_1 : decode cJ0_checkIndex_df160 1 = .ok (.iload_n 1, 1) := by decide +kernel
theorem dJ0_checkIndex_df160_2 : decode cJ0_checkIndex_df160 2 = .ok (.getstatic 1053, 3) := by decide +kernel
theorem dJ0_checkIndex_df160_5 : decode cJ0_checkIndex_df160 5 = .ok (.invokestatic 1059, 3) := by decide +kernel
theorem dJ0_checkIndex_df160_8 : decode cJ0_checkIndex_df160 8 = .ok (.pop, 1) := by decide +kernel
theorem dJ0_checkIndex_df160_9 : decode cJ0_checkIndex_df160 9 = .ok (.return_, 1) := by decide +kernel
theorem dJ1_charAt_3b067_0 : decode cJ1_charAt_3b067 0 = .ok (.iload_n 1, 1) := by decide +kernel
theorem dJ1_charAt_3b067_1 : decode cJ1_charAt_3b067 1 = .ok (.aload_n 0, 1) := by decide +kernel
theorem dJ1_charAt_3b067_2 : decode cJ1_charAt_3b067 2 = .ok (.arraylength, 1) := by decide +kernel
theorem dJ1_charAt_3b067_3 : decode cJ1_charAt_3b067 3 = .ok (.invokestatic 9, 3) := by decide +kernel
theorem dJ1_charAt_3b067_6 : decode cJ1_charAt_3b067 6 = .ok (.aload_n 0, 1) := by decide +kernel
theorem dJ1_charAt_3b067_7 : decode cJ1_charAt_3b067 7 = .ok (.iload_n 1, 1) := by decide +kernel
theorem dJ1_charAt_3b067_8 : decode cJ1_charAt_3b067 8 = .ok (.baload, 1) := by decide +kernel
theorem dJ1_charAt_3b067_9 : decode cJ1_charAt_3b067 9 = .ok (.sipush 255, 3) := by decide +kernel
theorem dJ1_charAt_3b067_12 : decode cJ1_charAt_3b067 12 = .ok (.iand, 1) := by decide +kernel
theorem dJ1_charAt_3b067_13 : decode cJ1_charAt_3b067 13 = .ok (.i2c, 1) := by decide +kernel
theorem dJ1_charAt_3b067_14 : decode cJ1_charAt_3b067 14 = .ok (.ireturn, 1) := by decide +kernel
theorem dJ2_getChar_3b067_0 : decode cJ2_getChar_3b067 0 = .ok (.getstatic 44, 3) := by decide +kernel
theorem dJ2_getChar_3b067_3 : decode cJ2_getChar_3b067 3 = .ok (.ifCond .ne 25, 3) := by decide +kernel
theorem dJ2_getChar_3b067_6 : decode cJ2_getChar_3b067 6 = .ok (.iload_n 1, 1) := by decide +kernel
theorem dJ2_getChar_3b067_7 : decode cJ2_getChar_3b067 7 = .ok (.ifCond .lt 11, 3) := by decide +kernel
theorem dJ2_getChar_3b067_10 : decode cJ2_getChar_3b067 10 = .ok (.iload_n 1, 1) := by decide +kernel
theorem dJ2_getChar_3b067_11 : decode cJ2_getChar_3b067 11 = .ok (.aload_n 0, 1) := by decide +kernel
theorem dJ2_getChar_3b067_12 : decode cJ2_getChar_3b067 12 = .ok (.invokestatic 48, 3) := by decide +kernel
theorem dJ2_getChar_3b067_15 : decode cJ2_getChar_3b067 15 = .ok (.if_icmp .lt 13, 3) := by decide +kernel
theorem dJ2_getChar_3b067_18 : decode cJ2_getChar_3b067 18 = .ok (.new 52, 3) := by decide +kernel
theorem dJ2_getChar_3b067_21 : decode cJ2_getChar_3b067 21 = .ok (.dup, 1) := by decide +kernel
theorem dJ2_getChar_3b067_22 : decode cJ2_getChar_3b067 22 = .ok (.ldc 54, 2) := by decide +kernel
theorem dJ2_getChar_3b067_24 : decode cJ2_getChar_3b067 24 = .ok (.invokespecial 56, 3) := by decide +kernel
theorem dJ2_getChar_3b067_27 : decode cJ2_getChar_3b067 27 = .ok (.athrow, 1) := by decide +kernel
theorem dJ2_getChar_3b067_28 : decode cJ2_getChar_3b067 28 = .ok (.iload_n 1, 1) := by decide +kernel
theorem dJ2_getChar_3b067_29 : decode cJ2_getChar_3b067 29 = .ok (.iconst 1, 1) := by decide +kernel
theorem dJ2_getChar_3b067_30 : decode cJ2_getChar_3b067 30 = .ok (.ishl, 1) := by decide +kernel
theorem dJ2_getChar_3b067_31 : decode cJ2_getChar_3b067 31 = .ok (.istore_n 1, 1) := by decide +kernel
theorem dJ2_getChar_3b067_32 : decode cJ2_getChar_3b067 32 = .ok (.aload_n 0, 1) := by decide +kernel
theorem dJ2_getChar_3b067_33 : decode cJ2_getChar_3b067 33 = .ok (.iload_n 1, 1) := by decide +kernel
theorem dJ2_getChar_3b067_34 : decode cJ2_getChar_3b067 34 = .ok (.iinc 1 1, 3) := by decide +kernel
theorem dJ2_getChar_3b067_37 : decode cJ2_getChar_3b067 37 = .ok (.baload, 1) := by decide +kernel
theorem dJ2_getChar_3b067_38 : decode cJ2_getChar_3b067 38 = .ok (.sipush 255, 3) := by decide +kernel
theorem dJ2_getChar_3b067_41 : decode cJ2_getChar_3b067 41 = .ok (.iand, 1) := by decide +kernel
theorem dJ2_getChar_3b067_42 : decode cJ2_getChar_3b067 42 = .ok (.getstatic 59, 3) := by decide +kernel
theorem dJ2_getChar_3b067_45 : decode cJ2_getChar_3b067 45 = .ok (.ishl, 1) := by decide +kernel
theorem dJ2_getChar_3b067_46 : decode cJ2_getChar_3b067 46 = .ok (.aload_n 0, 1) := by decide +kernel
theorem dJ2_getChar_3b067_47 : decode cJ2_getChar_3b067 47 = .ok (.iload_n 1, 1) := by decide +kernel
theorem dJ2_getChar_3b067_48 : decode cJ2_getChar_3b067 48 = .ok (.baload, 1) := by decide +kernel
theorem dJ2_getChar_3b067_49 : decode cJ2_getChar_3b067 49 = .ok (.sipush 255, 3) := by decide +kernel
theorem dJ2_getChar_3b067_52 : decode cJ2_getChar_3b067 52 = .ok (.iand, 1) := by decide +kernel
theorem dJ2_getChar_3b067_53 : decode cJ2_getChar_3b067 53 = .ok (.getstatic 63, 3) := by decide +kernel
theorem dJ2_getChar_3b067_56 : decode cJ2_getChar_3b067 56 = .ok (.ishl, 1) := by decide +kernel
theorem dJ2_getChar_3b067_57 : decode cJ2_getChar_3b067 57 = .ok (.ior, 1) := by decide +kernel
theorem dJ2_getChar_3b067_58 : decode cJ2_getChar_3b067 58 = .ok (.i2c, 1) := by decide +kernel
theorem dJ2_getChar_3b067_59 : decode cJ2_getChar_3b067 59 = .ok (.ireturn, 1) := by decide +kernel
theorem dJ2_length_9d52b_0 : decode cJ2_length_9d52b 0 = .ok (.aload_n 0, 1) := by decide +kernel
theorem dJ2_length_9d52b_1 : decode cJ2_length_9d52b 1 = .ok (.arraylength, 1) := by decide +kernel
theorem dJ2_length_9d52b_2 : decode cJ2_length_9d52b 2 = .ok (.iconst 1, 1) := by decide +kernel
theorem dJ2_length_9d52b_3 : decode cJ2_length_9d52b 3 = .ok (.ishr, 1) := by decide +kernel
theorem dJ2_length_9d52b_4 : decode cJ2_length_9d52b 4 = .ok (.ireturn, 1) := by decide +kernel
theorem dJ2_charAt_3b067_0 : decode cJ2_charAt_3b067 0 = .ok (.iload_n 1, 1) := by decide +kernel
theorem dJ2_charAt_3b067_1 : decode cJ2_charAt_3b067 1 = .ok (.aload_n 0, 1) := by decide +kernel
theorem dJ2_charAt_3b067_2 : decode cJ2_charAt_3b067 2 = .ok (.invokestatic 67, 3) := by decide +kernel
theorem dJ2_charAt_3b067_5 : decode cJ2_charAt_3b067 5 = .ok (.aload_n 0, 1) := by decide +kernel
theorem dJ2_charAt_3b067_6 : decode cJ2_charAt_3b067 6 = .ok (.iload_n 1, 1) := by decide +kernel
theorem dJ2_charAt_3b067_7 : decode cJ2_charAt_3b067 7 = .ok (.invokestatic 71, 3) := by decide +kernel
theorem dJ2_charAt_3b067_10 : decode cJ2_charAt_3b067 10 = .ok (.ireturn, 1) := by decide +kernel
theorem dJ2_checkIndex_2214a_0 : decode cJ2_checkIndex_2214a 0 = .ok (.iload_n 0, 1) := by decide +kernel
theorem dJ2_checkIndex_2214a_1 : decode cJ2_checkIndex_2214a 1 = .ok (.aload_n 1, 1) := by decide +kernel
theorem dJ2_checkIndex_2214a_2 : decode cJ2_checkIndex_2214a 2 = .ok (.invokestatic 48, 3) := by decide +kernel
theorem dJ2_checkIndex_2214a_5 : decode cJ2_checkIndex_2214a 5 = .ok (.invokestatic 414, 3) := by decide +kernel
theorem dJ2_checkIndex_2214a_8 : decode cJ2_checkIndex_2214a 8 = .ok (.return_, 1) := by decide +kernel
theorem dJ7_fill_d0a16_0 : decode cJ7_fill_d0a16 0 = .ok (.iconst 0, 1) := by decide +kernel
theorem dJ7_fill_d0a16_1 : decode cJ7_fill_d0a16 1 = .ok (.istore_n 3, 1) := by decide +kernel
theorem dJ7_fill_d0a16_2 : decode cJ7_fill_d0a16 2 = .ok (.aload_n 0, 1) := by decide +kernel
theorem dJ7_fill_d0a16_3 : decode cJ7_fill_d0a16 3 = .ok (.arraylength, 1) := by decide +kernel
theorem dJ7_fill_d0a16_4 : decode cJ7_fill_d0a16 4 = .ok (.istore 4, 2) := by decide +kernel
theorem dJ7_fill_d0a16_6 : decode cJ7_fill_d0a16 6 = .ok (.iload_n 3, 1) := by decide +kernel
theorem dJ7_fill_d0a16_7 : decode cJ7_fill_d0a16 7 = .ok (.iload 4, 2) := by decide +kernel
theorem dJ7_fill_d0a16_9 : decode cJ7_fill_d0a16 9 = .ok (.if_icmp .ge 13, 3) := by decide +kernel
theorem dJ7_fill_d0a16_12 : decode cJ7_fill_d0a16 12 = .ok (.aload_n 0, 1) := by decide +kernel
theorem dJ7_fill_d0a16_13 : decode cJ7_fill_d0a16 13 = .ok (.iload_n 3, 1) := by decide +kernel
theorem dJ7_fill_d0a16_14 : decode cJ7_fill_d0a16 14 = .ok (.lload_n 1, 1) := by decide +kernel
theorem dJ7_fill_d0a16_15 : decode cJ7_fill_d0a16 15 = .ok (.lastore, 1) := by decide +kernel
theorem dJ7_fill_d0a16_16 : decode cJ7_fill_d0a16 16 = .ok (.iinc 3 1, 3) := by decide +kernel
theorem dJ7_fill_d0a16_19 : decode cJ7_fill_d0a16 19 = .ok (.goto (-13), 3) := by decide +kernel
theorem dJ7_fill_d0a16_22 : decode cJ7_fill_d0a16 22 = .ok (.return_, 1) := by decide +kernel
theorem dJ7_fill_53178_0 : decode cJ7_fill_53178 0 = .ok (.iconst 0, 1) := by decide +kernel
theorem dJ7_fill_53178_1 : decode cJ7_fill_53178 1 = .ok (.istore_n 2, 1) := by decide +kernel
theorem dJ7_fill_53178_2 : decode cJ7_fill_53178 2 = .ok (.aload_n 0, 1) := by decide +kernel
theorem dJ7_fill_53178_3 : decode cJ7_fill_53178 3 = .ok (.arraylength, 1) := by decide +kernel
theorem dJ7_fill_53178_4 : decode cJ7_fill_53178 4 = .ok (.istore_n 3, 1) := by decide +kernel
theorem dJ7_fill_53178_5 : decode cJ7_fill_53178 5 = .ok (.iload_n 2, 1) := by decide +kernel
theorem dJ7_fill_53178_6 : decode cJ7_fill_53178 6 = .ok (.iload_n 3, 1) := by decide +kernel
theorem dJ7_fill_53178_7 : decode cJ7_fill_53178 7 = .ok (.if_icmp .ge 13, 3) := by decide +kernel
theorem dJ7_fill_53178_10 : decode cJ7_fill_53178 10 = .ok (.aload_n 0, 1) := by decide +kernel
theorem dJ7_fill_53178_11 : decode cJ7_fill_53178 11 = .ok (.iload_n 2, 1) := by decide +kernel
theorem dJ7_fill_53178_12 : decode cJ7_fill_53178 12 = .ok (.iload_n 1, 1) := by decide +kernel
theorem dJ7_fill_53178_13 : decode cJ7_fill_53178 13 = .ok (.iastore, 1) := by decide +kernel
theorem dJ7_fill_53178_14 : decode cJ7_fill_53178 14 = .ok (.iinc 2 1, 3) := by decide +kernel
theorem dJ7_fill_53178_17 : decode cJ7_fill_53178 17 = .ok (.goto (-12), 3) := by decide +kernel
theorem dJ7_fill_53178_20 : decode cJ7_fill_53178 20 = .ok (.return_, 1) := by decide +kernel
theorem dJ3_checkIndex_8e157_0 : decode cJ3_checkIndex_8e157 0 = .ok (.iload_n 0, 1) := by decide +kernel
theorem dJ3_checkIndex_8e157_1 : decode cJ3_checkIndex_8e157 1 = .ok (.ifCond .lt 8, 3) := by decide +kernel
theorem dJ3_checkIndex_8e157_4 : decode cJ3_checkIndex_8e157 4 = .ok (.iload_n 0, 1) := by decide +kernel
theorem dJ3_checkIndex_8e157_5 : decode cJ3_checkIndex_8e157 5 = .ok (.iload_n 1, 1) := by decide +kernel
theorem dJ3_checkIndex_8e157_6 : decode cJ3_checkIndex_8e157 6 = .ok (.if_icmp .lt 10, 3) := by decide +kernel
theorem dJ3_checkIndex_8e157_9 : decode cJ3_checkIndex_8e157 9 = .ok (.aload_n 2, 1) := by decide +kernel
theorem dJ3_checkIndex_8e157_10 : decode cJ3_checkIndex_8e157 10 = .ok (.iload_n 0, 1) := by decide +kernel
theorem dJ3_checkIndex_8e157_11 : decode cJ3_checkIndex_8e157 11 = .ok (.iload_n 1, 1) := by decide +kernel
theorem dJ3_checkIndex_8e157_12 : decode cJ3_checkIndex_8e157 12 = .ok (.invokestatic 95, 3) := by decide +kernel
theorem dJ3_checkIndex_8e157_15 : decode cJ3_checkIndex_8e157 15 = .ok (.athrow, 1) := by decide +kernel
theorem dJ3_checkIndex_8e157_16 : decode cJ3_checkIndex_8e157 16 = .ok (.iload_n 0, 1) := by decide +kernel
theorem dJ3_checkIndex_8e157_17 : decode cJ3_checkIndex_8e157 17 = .ok (.ireturn, 1) := by decide +kernel
theorem dL_law_0 : decode cL_law 0 = .ok (.new 7, 3) := by decide +kernel
theorem dL_law_3 : decode cL_law 3 = .ok (.dup, 1) := by decide +kernel
theorem dL_law_4 : decode cL_law 4 = .ok (.invokespecial 9, 3) := by decide +kernel
theorem dL_law_7 : decode cL_law 7 = .ok (.astore_n 1, 1) := by decide +kernel
theorem dL_law_8 : decode cL_law 8 = .ok (.new 10, 3) := by decide +kernel
theorem dL_law_11 : decode cL_law 11 = .ok (.dup, 1) := by decide +kernel
theorem dL_law_12 : decode cL_law 12 = .ok (.invokespecial 12, 3) := by decide +kernel
theorem dL_law_15 : decode cL_law 15 = .ok (.astore_n 2, 1) := by decide +kernel
theorem dL_law_16 : decode cL_law 16 = .ok (.iconst 0, 1) := by decide +kernel
theorem dL_law_17 : decode cL_law 17 = .ok (.istore_n 3, 1) := by decide +kernel
theorem dL_law_18 : decode cL_law 18 = .ok (.iload_n 3, 1) := by decide +kernel
theorem dL_law_19 : decode cL_law 19 = .ok (.aload_n 0, 1) := by decide +kernel
theorem dL_law_20 : decode cL_law 20 = .ok (.arraylength, 1) := by decide +kernel
theorem dL_law_21 : decode cL_law 21 = .ok (.bipush 7, 2) := by decide +kernel
theorem dL_law_23 : decode cL_law 23 = .ok (.isub, 1) := by decide +kernel
theorem dL_law_24 : decode cL_law 24 = .ok (.if_icmp .gt 1434, 3) := by decide +kernel
theorem dL_law_27 : decode cL_law 27 = .ok (.aload_n 0, 1) := by decide +kernel
theorem dL_law_28 : decode cL_law 28 = .ok (.iload_n 3, 1) := by decide +kernel
theorem dL_law_29 : decode cL_law 29 = .ok (.iaload, 1) := by decide +kernel
theorem dL_law_30 : decode cL_law 30 = .ok (.bipush 63, 2) := by decide +kernel
theorem dL_law_32 : decode cL_law 32 = .ok (.iand, 1) := by decide +kernel
theorem dL_law_33 : decode cL_law 33 = .ok (.tableswitch 1419 0 36 #[163, 206, 279, 342, 376, 409, 432, 465, 540, 599, 632, 681, 714, 747, 780, 803, 816, 849, 882, 915, 938, 981, 1014, 1047, 1070, 1103, 1126, 1149, 1182, 1225, 1258, 1281, 1304, 1347, 1370, 1383, 1396], 163) := by decide +kernel
theorem dL_law_196 : decode cL_law 196 = .ok (.aload_n 1, 1) := by decide +kernel
theorem dL_law_197 : decode cL_law 197 = .ok (.aload_n 0, 1) := by decide +kernel
theorem dL_law_198 : decode cL_law 198 = .ok (.iload_n 3, 1) := by decide +kernel
theorem dL_law_199 : decode cL_law 199 = .ok (.iconst 1, 1) := by decide +kernel
theorem dL_law_200 : decode cL_law 200 = .ok (.iadd, 1) := by decide +kernel
theorem dL_law_201 : decode cL_law 201 = .ok (.iaload, 1) := by decide +kernel
theorem dL_law_202 : decode cL_law 202 = .ok (.aload_n 0, 1) := by decide +kernel
theorem dL_law_203 : decode cL_law 203 = .ok (.iload_n 3, 1) := by decide +kernel
theorem dL_law_204 : decode cL_law 204 = .ok (.iconst 2, 1) := by decide +kernel
theorem dL_law_205 : decode cL_law 205 = .ok (.iadd, 1) := by decide +kernel
theorem dL_law_206 : decode cL_law 206 = .ok (.iaload, 1) := by decide +kernel
theorem dL_law_207 : decode cL_law 207 = .ok (.aload_n 0, 1) := by decide +kernel
theorem dL_law_208 : decode cL_law 208 = .ok (.iload_n 3, 1) := by decide +kernel
theorem dL_law_209 : decode cL_law 209 = .ok (.iconst 3, 1) := by decide +kernel
theorem dL_law_210 : decode cL_law 210 = .ok (.iadd, 1) := by decide +kernel
theorem dL_law_211 : decode cL_law 211 = .ok (.iaload, 1) := by decide +kernel
theorem dL_law_212 : decode cL_law 212 = .ok (.invokevirtual 13, 3) := by decide +kernel
theorem dL_law_215 : decode cL_law 215 = .ok (.aload_n 2, 1) := by decide +kernel
theorem dL_law_216 : decode cL_law 216 = .ok (.aload_n 0, 1) := by decide +kernel
theorem dL_law_217 : decode cL_law 217 = .ok (.iload_n 3, 1) := by decide +kernel
theorem dL_law_218 : decode cL_law 218 = .ok (.iconst 1, 1) := by decide +kernel
theorem dL_law_219 : decode cL_law 219 = .ok (.iadd, 1) := by decide +kernel
theorem dL_law_220 : decode cL_law 220 = .ok (.iaload, 1) := by decide +kernel
theorem dL_law_221 : decode cL_law 221 = .ok (.aload_n 0, 1) := by decide +kernel
theorem dL_law_222 : decode cL_law 222 = .ok (.iload_n 3, 1) := by decide +kernel
theorem dL_law_223 : decode cL_law 223 = .ok (.iconst 2, 1) := by decide +kernel
theorem dL_law_224 : decode cL_law 224 = .ok (.iadd, 1) := by decide +kernel
theorem dL_law_225 : decode cL_law 225 = .ok (.iaload, 1) := by decide +kernel
theorem dL_law_226 : decode cL_law 226 = .ok (.aload_n 0, 1) := by decide +kernel
theorem dL_law_227 : decode cL_law 227 = .ok (.iload_n 3, 1) := by decide +kernel
theorem dL_law_228 : decode cL_law 228 = .ok (.iconst 3, 1) := by decide +kernel
theorem dL_law_229 : decode cL_law 229 = .ok (.iadd, 1) := by decide +kernel
theorem dL_law_230 : decode cL_law 230 = .ok (.iaload, 1) := by decide +kernel
theorem dL_law_231 : decode cL_law 231 = .ok (.invokevirtual 17, 3) := by decide +kernel
theorem dL_law_234 : decode cL_law 234 = .ok (.if_icmp .eq 1218, 3) := by decide +kernel
theorem dL_law_237 : decode cL_law 237 = .ok (.iconst 0, 1) := by decide +kernel
theorem dL_law_238 : decode cL_law 238 = .ok (.ireturn, 1) := by decide +kernel
theorem dL_law_239 : decode cL_law 239 = .ok (.aload_n 1, 1) := by decide +kernel
theorem dL_law_240 : decode cL_law 240 = .ok (.aload_n 0, 1) := by decide +kernel
theorem dL_law_241 : decode cL_law 241 = .ok (.iload_n 3, 1) := by decide +kernel
theorem dL_law_242 : decode cL_law 242 = .ok (.iconst 1, 1) := by decide +kernel
theorem dL_law_243 : decode cL_law 243 = .ok (.iadd, 1) := by decide +kernel
theorem dL_law_244 : decode cL_law 244 = .ok (.iaload, 1) := by decide +kernel
theorem dL_law_245 : decode cL_law 245 = .ok (.aload_n 0, 1) := by decide +kernel
theorem dL_law_246 : decode cL_law 246 = .ok (.iload_n 3, 1) := by decide +kernel
theorem dL_law_247 : decode cL_law 247 = .ok (.iconst 2, 1) := by decide +kernel
theorem dL_law_248 : decode cL_law 248 = .ok (.iadd, 1) := by decide +kernel
theorem dL_law_249 : decode cL_law 249 = .ok (.iaload, 1) := by decide +kernel
theorem dL_law_250 : decode cL_law 250 = .ok (.aload_n 0, 1) := by decide +kernel
theorem dL_law_251 : decode cL_law 251 = .ok (.iload_n 3, 1) := by decide +kernel
theorem dL_law_252 : decode cL_law 252 = .ok (.iconst 3, 1) := by decide +kernel
theorem dL_law_253 : decode cL_law 253 = .ok (.iadd, 1) := by decide +kernel
theorem dL_law_254 : decode cL_law 254 = .ok (.iaload, 1) := by decide +kernel
theorem dL_law_255 : decode cL_law 255 = .ok (.i2l, 1) := by decide +kernel
theorem dL_law_256 : decode cL_law 256 = .ok (.bipush 32, 2) := by decide +kernel
theorem dL_law_258 : decode cL_law 258 = .ok (.lshl, 1) := by decide +kernel
theorem dL_law_259 : decode cL_law 259 = .ok (.aload_n 0, 1) := by decide +kernel
theorem dL_law_260 : decode cL_law 260 = .ok (.iload_n 3, 1) := by decide +kernel
theorem dL_law_261 : decode cL_law 261 = .ok (.iconst 4, 1) := by decide +kernel
theorem dL_law_262 : decode cL_law 262 = .ok (.iadd, 1) := by decide +kernel
theorem dL_law_263 : decode cL_law 263 = .ok (.iaload, 1) := by decide +kernel
theorem dL_law_264 : decode cL_law 264 = .ok (.i2l, 1) := by decide +kernel
theorem dL_law_265 : decode cL_law 265 = .ok (.ldc2_w 18, 3) := by decide +kernel
theorem dL_law_268 : decode cL_law 268 = .ok (.land, 1) := by decide +kernel
theorem dL_law_269 : decode cL_law 269 = .ok (.lor, 1) := by decide +kernel
theorem dL_law_270 : decode cL_law 270 = .ok (.invokevirtual 20, 3) := by decide +kernel
theorem dL_law_273 : decode cL_law 273 = .ok (.aload_n 2, 1) := by decide +kernel
theorem dL_law_274 : decode cL_law 274 = .ok (.aload_n 0, 1) := by decide +kernel
theorem dL_law_275 : decode cL_law 275 = .ok (.iload_n 3, 1) := by decide +kernel
theorem dL_law_276 : decode cL_law 276 = .ok (.iconst 1, 1) := by decide +kernel
theorem dL_law_277 : decode cL_law 277 = .ok (.iadd, 1) := by decide +kernel
theorem dL_law_278 : decode cL_law 278 = .ok (.iaload, 1) := by decide +kernel
theorem dL_law_279 : decode cL_law 279 = .ok (.aload_n 0, 1) := by decide +kernel
theorem dL_law_280 : decode cL_law 280 = .ok (.iload_n 3, 1) := by decide +kernel
theorem dL_law_281 : decode cL_law 281 = .ok (.iconst 2, 1) := by decide +kernel
theorem dL_law_282 : decode cL_law 282 = .ok (.iadd, 1) := by decide +kernel
theorem dL_law_283 : decode cL_law 283 = .ok (.iaload, 1) := by decide +kernel
theorem dL_law_284 : decode cL_law 284 = .ok (.aload_n 0, 1) := by decide +kernel
theorem dL_law_285 : decode cL_law 285 = .ok (.iload_n 3, 1) := by decide +kernel
theorem dL_law_286 : decode cL_law 286 = .ok (.iconst 3, 1) := by decide +kernel
theorem dL_law_287 : decode cL_law 287 = .ok (.iadd, 1) := by decide +kernel
theorem dL_law_288 : decode cL_law 288 = .ok (.iaload, 1) := by decide +kernel
theorem dL_law_289 : decode cL_law 289 = .ok (.i2l, 1) := by decide +kernel
theorem dL_law_290 : decode cL_law 290 = .ok (.bipush 32, 2) := by decide +kernel
theorem dL_law_292 : decode cL_law 292 = .ok (.lshl, 1) := by decide +kernel
theorem dL_law_293 : decode cL_law 293 = .ok (.aload_n 0, 1) := by decide +kernel
theorem dL_law_294 : decode cL_law 294 = .ok (.iload_n 3, 1) := by decide +kernel
theorem dL_law_295 : decode cL_law 295 = .ok (.iconst 4, 1) := by decide +kernel
theorem dL_law_296 : decode cL_law 296 = .ok (.iadd, 1) := by decide +kernel
theorem dL_law_297 : decode cL_law 297 = .ok (.iaload, 1) := by decide +kernel
theorem dL_law_298 : decode cL_law 298 = .ok (.i2l, 1) := by decide +kernel
theorem dL_law_299 : decode cL_law 299 = .ok (.ldc2_w 18, 3) := by decide +kernel
theorem dL_law_302 : decode cL_law 302 = .ok (.land, 1) := by decide +kernel
theorem dL_law_303 : decode cL_law 303 = .ok (.lor, 1) := by decide +kernel
theorem dL_law_304 : decode cL_law 304 = .ok (.invokevirtual 24, 3) := by decide +kernel
theorem dL_law_307 : decode cL_law 307 = .ok (.if_icmp .eq 1145, 3) := by decide +kernel
theorem dL_law_310 : decode cL_law 310 = .ok (.iconst 0, 1) := by decide +kernel
theorem dL_law_311 : decode cL_law 311 = .ok (.ireturn, 1) := by decide +kernel
theorem dL_law_312 : decode cL_law 312 = .ok (.aload_n 1, 1) := by decide +kernel
theorem dL_law_313 : decode cL_law 313 = .ok (.aload_n 0, 1) := by decide +kernel
theorem dL_law_314 : decode cL_law 314 = .ok (.iload_n 3, 1) := by decide +kernel
theorem dL_law_315 : decode cL_law 315 = .ok (.iconst 1, 1) := by decide +kernel
theorem dL_law_316 : decode cL_law 316 = .ok (.iadd, 1) := by decide +kernel
theorem dL_law_317 : decode cL_law 317 = .ok (.iaload, 1) := by decide +kernel
theorem dL_law_318 : decode cL_law 318 = .ok (.aload_n 0, 1) := by decide +kernel
theorem dL_law_319 : decode cL_law 319 = .ok (.iload_n 3, 1) := by decide +kernel
theorem dL_law_320 : decode cL_law 320 = .ok (.iconst 2, 1) := by decide +kernel
theorem dL_law_321 : decode cL_law 321 = .ok (.iadd, 1) := by decide +kernel
theorem dL_law_322 : decode cL_law 322 = .ok (.iaload, 1) := by decide +kernel
theorem dL_law_323 : decode cL_law 323 = .ok (.aload_n 0, 1) := by decide +kernel
theorem dL_law_324 : decode cL_law 324 = .ok (.iload_n 3, 1) := by decide +kernel
theorem dL_law_325 : decode cL_law 325 = .ok (.iconst 3, 1) := by decide +kernel
theorem dL_law_326 : decode cL_law 326 = .ok (.iadd, 1) := by decide +kernel
theorem dL_law_327 : decode cL_law 327 = .ok (.iaload, 1) := by decide +kernel
theorem dL_law_328 : decode cL_law 328 = .ok (.aload_n 0, 1) := by decide +kernel
theorem dL_law_329 : decode cL_law 329 = .ok (.iload_n 3, 1) := by decide +kernel
theorem dL_law_330 : decode cL_law 330 = .ok (.iconst 4, 1) := by decide +kernel
theorem dL_law_331 : decode cL_law 331 = .ok (.iadd, 1) := by decide +kernel
theorem dL_law_332 : decode cL_law 332 = .ok (.iaload, 1) := by decide +kernel
theorem dL_law_333 : decode cL_law 333 = .ok (.aload_n 0, 1) := by decide +kernel
theorem dL_law_334 : decode cL_law 334 = .ok (.iload_n 3, 1) := by decide +kernel
theorem dL_law_335 : decode cL_law 335 = .ok (.iconst 5, 1) := by decide +kernel
theorem dL_law_336 : decode cL_law 336 = .ok (.iadd, 1) := by decide +kernel
theorem dL_law_337 : decode cL_law 337 = .ok (.iaload, 1) := by decide +kernel
theorem dL_law_338 : decode cL_law 338 = .ok (.invokevirtual 25, 3) := by decide +kernel
theorem dL_law_341 : decode cL_law 341 = .ok (.aload_n 2, 1) := by decide +kernel
theorem dL_law_342 : decode cL_law 342 = .ok (.aload_n 0, 1) := by decide +kernel
theorem dL_law_343 : decode cL_law 343 = .ok (.iload_n 3, 1) := by decide +kernel
theorem dL_law_344 : decode cL_law 344 = .ok (.iconst 1, 1) := by decide +kernel
theorem dL_law_345 : decode cL_law 345 = .ok (.iadd, 1) := by decide +kernel
theorem dL_law_346 : decode cL_law 346 = .ok (.iaload, 1) := by decide +kernel
theorem dL_law_347 : decode cL_law 347 = .ok (.aload_n 0, 1) := by decide +kernel
theorem dL_law_348 : decode cL_law 348 = .ok (.iload_n 3, 1) := by decide +kernel
theorem dL_law_349 : decode cL_law 349 = .ok (.iconst 2, 1) := by decide +kernel
theorem dL_law_350 : decode cL_law 350 = .ok (.iadd, 1) := by decide +kernel
theorem dL_law_351 : decode cL_law 351 = .ok (.iaload, 1) := by decide +kernel
theorem dL_law_352 : decode cL_law 352 = .ok (.aload_n 0, 1) := by decide +kernel
theorem dL_law_353 : decode cL_law 353 = .ok (.iload_n 3, 1) := by decide +kernel
theorem dL_law_354 : decode cL_law 354 = .ok (.iconst 3, 1) := by decide +kernel
theorem dL_law_355 : decode cL_law 355 = .ok (.iadd, 1) := by decide +kernel
theorem dL_law_356 : decode cL_law 356 = .ok (.iaload, 1) := by decide +kernel
theorem dL_law_357 : decode cL_law 357 = .ok (.aload_n 0, 1) := by decide +kernel
theorem dL_law_358 : decode cL_law 358 = .ok (.iload_n 3, 1) := by decide +kernel
theorem dL_law_359 : decode cL_law 359 = .ok (.iconst 4, 1) := by decide +kernel
theorem dL_law_360 : decode cL_law 360 = .ok (.iadd, 1) := by decide +kernel
theorem dL_law_361 : decode cL_law 361 = .ok (.iaload, 1) := by decide +kernel
theorem dL_law_362 : decode cL_law 362 = .ok (.aload_n 0, 1) := by decide +kernel
theorem dL_law_363 : decode cL_law 363 = .ok (.iload_n 3, 1) := by decide +kernel
theorem dL_law_364 : decode cL_law 364 = .ok (.iconst 5, 1) := by decide +kernel
theorem dL_law_365 : decode cL_law 365 = .ok (.iadd, 1) := by decide +kernel
theorem dL_law_366 : decode cL_law 366 = .ok (.iaload, 1) := by decide +kernel
theorem dL_law_367 : decode cL_law 367 = .ok (.invokevirtual 29, 3) := by decide +kernel
theorem dL_law_370 : decode cL_law 370 = .ok (.if_icmp .eq 1082, 3) := by decide +kernel
theorem dL_law_373 : decode cL_law 373 = .ok (.iconst 0, 1) := by decide +kernel
theorem dL_law_374 : decode cL_law 374 = .ok (.ireturn, 1) := by decide +kernel
theorem dL_law_375 : decode cL_law 375 = .ok (.aload_n 1, 1) := by decide +kernel
theorem dL_law_376 : decode cL_law 376 = .ok (.aload_n 0, 1) := by decide +kernel
theorem dL_law_377 : decode cL_law 377 = .ok (.iload_n 3, 1) := by decide +kernel
theorem dL_law_378 : decode cL_law 378 = .ok (.iconst 1, 1) := by decide +kernel
theorem dL_law_379 : decode cL_law 379 = .ok (.iadd, 1) := by decide +kernel
theorem dL_law_380 : decode cL_law 380 = .ok (.iaload, 1) := by decide +kernel
theorem dL_law_381 : decode cL_law 381 = .ok (.aload_n 0, 1) := by decide +kernel
theorem dL_law_382 : decode cL_law 382 = .ok (.iload_n 3, 1) := by decide +kernel
theorem dL_law_383 : decode cL_law 383 = .ok (.iconst 2, 1) := by decide +kernel
theorem dL_law_384 : decode cL_law 384 = .ok (.iadd, 1) := by decide +kernel
theorem dL_law_385 : decode cL_law 385 = .ok (.iaload, 1) := by decide +kernel
theorem dL_law_386 : decode cL_law 386 = .ok (.invokevirtual 30, 3) := by decide +kernel
theorem dL_law_389 : decode cL_law 389 = .ok (.aload_n 2, 1) := by decide +kernel
theorem dL_law_390 : decode cL_law 390 = .ok (.aload_n 0, 1) := by decide +kernel
theorem dL_law_391 : decode cL_law 391 = .ok (.iload_n 3, 1) := by decide +kernel
theorem dL_law_392 : decode cL_law 392 = .ok (.iconst 1, 1) := by decide +kernel
theorem dL_law_393 : decode cL_law 393 = .ok (.iadd, 1) := by decide +kernel
theorem dL_law_394 : decode cL_law 394 = .ok (.iaload, 1) := by decide +kernel
theorem dL_law_395 : decode cL_law 395 = .ok (.aload_n 0, 1) := by decide +kernel
theorem dL_law_396 : decode cL_law 396 = .ok (.iload_n 3, 1) := by decide +kernel
theorem dL_law_397 : decode cL_law 397 = .ok (.iconst 2, 1) := by decide +kernel
theorem dL_law_398 : decode cL_law 398 = .ok (.iadd, 1) := by decide +kernel
theorem dL_law_399 : decode cL_law 399 = .ok (.iaload, 1) := by decide +kernel
theorem dL_law_400 : decode cL_law 400 = .ok (.invokevirtual 34, 3) := by decide +kernel
theorem dL_law_403 : decode cL_law 403 = .ok (.lcmp, 1) := by decide +kernel
theorem dL_law_404 : decode cL_law 404 = .ok (.ifCond .eq 1048, 3) := by decide +kernel
theorem dL_law_407 : decode cL_law 407 = .ok (.iconst 0, 1) := by decide +kernel
theorem dL_law_408 : decode cL_law 408 = .ok (.ireturn, 1) := by decide +kernel
theorem dL_law_409 : decode cL_law 409 = .ok (.aload_n 1, 1) := by decide +kernel
theorem dL_law_410 : decode cL_law 410 = .ok (.aload_n 0, 1) := by decide +kernel
theorem dL_law_411 : decode cL_law 411 = .ok (.iload_n 3, 1) := by decide +kernel
theorem dL_law_412 : decode cL_law 412 = .ok (.iconst 1, 1) := by decide +kernel
theorem dL_law_413 : decode cL_law 413 = .ok (.iadd, 1) := by decide +kernel
theorem dL_law_414 : decode cL_law 414 = .ok (.iaload, 1) := by decide +kernel
theorem dL_law_415 : decode cL_law 415 = .ok (.aload_n 0, 1) := by decide +kernel
theorem dL_law_416 : decode cL_law 416 = .ok (.iload_n 3, 1) := by decide +kernel
theorem dL_law_417 : decode cL_law 417 = .ok (.iconst 2, 1) := by decide +kernel
theorem dL_law_418 : decode cL_law 418 = .ok (.iadd, 1) := by decide +kernel
theorem dL_law_419 : decode cL_law 419 = .ok (.iaload, 1) := by decide +kernel
theorem dL_law_420 : decode cL_law 420 = .ok (.invokevirtual 35, 3) := by decide +kernel
theorem dL_law_423 : decode cL_law 423 = .ok (.aload_n 2, 1) := by decide +kernel
theorem dL_law_424 : decode cL_law 424 = .ok (.aload_n 0, 1) := by decide +kernel
theorem dL_law_425 : decode cL_law 425 = .ok (.iload_n 3, 1) := by decide +kernel
theorem dL_law_426 : decode cL_law 426 = .ok (.iconst 1, 1) := by decide +kernel
theorem dL_law_427 : decode cL_law 427 = .ok (.iadd, 1) := by decide +kernel
theorem dL_law_428 : decode cL_law 428 = .ok (.iaload, 1) := by decide +kernel
theorem dL_law_429 : decode cL_law 429 = .ok (.aload_n 0, 1) := by decide +kernel
theorem dL_law_430 : decode cL_law 430 = .ok (.iload_n 3, 1) := by decide +kernel
theorem dL_law_431 : decode cL_law 431 = .ok (.iconst 2, 1) := by decide +kernel
theorem dL_law_432 : decode cL_law 432 = .ok (.iadd, 1) := by decide +kernel
theorem dL_law_433 : decode cL_law 433 = .ok (.iaload, 1) := by decide +kernel
theorem dL_law_434 : decode cL_law 434 = .ok (.invokevirtual 39, 3) := by decide +kernel
theorem dL_law_437 : decode cL_law 437 = .ok (.if_icmp .eq 1015, 3) := by decide +kernel
theorem dL_law_440 : decode cL_law 440 = .ok (.iconst 0, 1) := by decide +kernel
theorem dL_law_441 : decode cL_law 441 = .ok (.ireturn, 1) := by decide +kernel
theorem dL_law_442 : decode cL_law 442 = .ok (.aload_n 1, 1) := by decide +kernel
theorem dL_law_443 : decode cL_law 443 = .ok (.aload_n 0, 1) := by decide +kernel
theorem dL_law_444 : decode cL_law 444 = .ok (.iload_n 3, 1) := by decide +kernel
theorem dL_law_445 : decode cL_law 445 = .ok (.iconst 1, 1) := by decide +kernel
theorem dL_law_446 : decode cL_law 446 = .ok (.iadd, 1) := by decide +kernel
theorem dL_law_447 : decode cL_law 447 = .ok (.iaload, 1) := by decide +kernel
theorem dL_law_448 : decode cL_law 448 = .ok (.invokevirtual 40, 3) := by decide +kernel
theorem dL_law_451 : decode cL_law 451 = .ok (.aload_n 2, 1) := by decide +kernel
theorem dL_law_452 : decode cL_law 452 = .ok (.aload_n 0, 1) := by decide +kernel
theorem dL_law_453 : decode cL_law 453 = .ok (.iload_n 3, 1) := by decide +kernel
theorem dL_law_454 : decode cL_law 454 = .ok (.iconst 1, 1) := by decide +kernel
theorem dL_law_455 : decode cL_law 455 = .ok (.iadd, 1) := by decide +kernel
theorem dL_law_456 : decode cL_law 456 = .ok (.iaload, 1) := by decide +kernel
theorem dL_law_457 : decode cL_law 457 = .ok (.invokevirtual 44, 3) := by decide +kernel
theorem dL_law_460 : decode cL_law 460 = .ok (.if_icmp .eq 992, 3) := by decide +kernel
theorem dL_law_463 : decode cL_law 463 = .ok (.iconst 0, 1) := by decide +kernel
theorem dL_law_464 : decode cL_law 464 = .ok (.ireturn, 1) := by decide +kernel
theorem dL_law_465 : decode cL_law 465 = .ok (.aload_n 1, 1) := by decide +kernel
theorem dL_law_466 : decode cL_law 466 = .ok (.aload_n 0, 1) := by decide +kernel
theorem dL_law_467 : decode cL_law 467 = .ok (.iload_n 3, 1) := by decide +kernel
theorem dL_law_468 : decode cL_law 468 = .ok (.iconst 1, 1) := by decide +kernel
theorem dL_law_469 : decode cL_law 469 = .ok (.iadd, 1) := by decide +kernel
theorem dL_law_470 : decode cL_law 470 = .ok (.iaload, 1) := by decide +kernel
theorem dL_law_471 : decode cL_law 471 = .ok (.aload_n 0, 1) := by decide +kernel
theorem dL_law_472 : decode cL_law 472 = .ok (.iload_n 3, 1) := by decide +kernel
theorem dL_law_473 : decode cL_law 473 = .ok (.iconst 2, 1) := by decide +kernel
theorem dL_law_474 : decode cL_law 474 = .ok (.iadd, 1) := by decide +kernel
theorem dL_law_475 : decode cL_law 475 = .ok (.iaload, 1) := by decide +kernel
theorem dL_law_476 : decode cL_law 476 = .ok (.invokevirtual 45, 3) := by decide +kernel
theorem dL_law_479 : decode cL_law 479 = .ok (.aload_n 2, 1) := by decide +kernel
theorem dL_law_480 : decode cL_law 480 = .ok (.aload_n 0, 1) := by decide +kernel
theorem dL_law_481 : decode cL_law 481 = .ok (.iload_n 3, 1) := by decide +kernel
theorem dL_law_482 : decode cL_law 482 = .ok (.iconst 1, 1) := by decide +kernel
theorem dL_law_483 : decode cL_law 483 = .ok (.iadd, 1) := by decide +kernel
theorem dL_law_484 : decode cL_law 484 = .ok (.iaload, 1) := by decide +kernel
theorem dL_law_485 : decode cL_law 485 = .ok (.aload_n 0, 1) := by decide +kernel
theorem dL_law_486 : decode cL_law 486 = .ok (.iload_n 3, 1) := by decide +kernel
theorem dL_law_487 : decode cL_law 487 = .ok (.iconst 2, 1) := by decide +kernel
theorem dL_law_488 : decode cL_law 488 = .ok (.iadd, 1) := by decide +kernel
theorem dL_law_489 : decode cL_law 489 = .ok (.iaload, 1) := by decide +kernel
theorem dL_law_490 : decode cL_law 490 = .ok (.invokevirtual 48, 3) := by decide +kernel
theorem dL_law_493 : decode cL_law 493 = .ok (.if_icmp .eq 959, 3) := by decide +kernel
theorem dL_law_496 : decode cL_law 496 = .ok (.iconst 0, 1) := by decide +kernel
theorem dL_law_497 : decode cL_law 497 = .ok (.ireturn, 1) := by decide +kernel
theorem dL_law_498 : decode cL_law 498 = .ok (.aload_n 1, 1) := by decide +kernel
theorem dL_law_499 : decode cL_law 499 = .ok (.aload_n 0, 1) := by decide +kernel
theorem dL_law_500 : decode cL_law 500 = .ok (.iload_n 3, 1) := by decide +kernel
theorem dL_law_501 : decode cL_law 501 = .ok (.iconst 1, 1) := by decide +kernel
theorem dL_law_502 : decode cL_law 502 = .ok (.iadd, 1) := by decide +kernel
theorem dL_law_503 : decode cL_law 503 = .ok (.iaload, 1) := by decide +kernel
theorem dL_law_504 : decode cL_law 504 = .ok (.aload_n 0, 1) := by decide +kernel
theorem dL_law_505 : decode cL_law 505 = .ok (.iload_n 3, 1) := by decide +kernel
theorem dL_law_506 : decode cL_law 506 = .ok (.iconst 2, 1) := by decide +kernel
theorem dL_law_507 : decode cL_law 507 = .ok (.iadd, 1) := by decide +kernel
theorem dL_law_508 : decode cL_law 508 = .ok (.iaload, 1) := by decide +kernel
theorem dL_law_509 : decode cL_law 509 = .ok (.aload_n 0, 1) := by decide +kernel
theorem dL_law_510 : decode cL_law 510 = .ok (.iload_n 3, 1) := by decide +kernel
theorem dL_law_511 : decode cL_law 511 = .ok (.iconst 3, 1) := by decide +kernel
theorem dL_law_512 : decode cL_law 512 = .ok (.iadd, 1) := by decide +kernel
theorem dL_law_513 : decode cL_law 513 = .ok (.iaload, 1) := by decide +kernel
theorem dL_law_514 : decode cL_law 514 = .ok (.aload_n 0, 1) := by decide +kernel
theorem dL_law_515 : decode cL_law 515 = .ok (.iload_n 3, 1) := by decide +kernel
theorem dL_law_516 : decode cL_law 516 = .ok (.iconst 4, 1) := by decide +kernel
theorem dL_law_517 : decode cL_law 517 = .ok (.iadd, 1) := by decide +kernel
theorem dL_law_518 : decode cL_law 518 = .ok (.iaload, 1) := by decide +kernel
theorem dL_law_519 : decode cL_law 519 = .ok (.aload_n 0, 1) := by decide +kernel
theorem dL_law_520 : decode cL_law 520 = .ok (.iload_n 3, 1) := by decide +kernel
theorem dL_law_521 : decode cL_law 521 = .ok (.iconst 5, 1) := by decide +kernel
theorem dL_law_522 : decode cL_law 522 = .ok (.iadd, 1) := by decide +kernel
theorem dL_law_523 : decode cL_law 523 = .ok (.iaload, 1) := by decide +kernel
theorem dL_law_524 : decode cL_law 524 = .ok (.aload_n 0, 1) := by decide +kernel
theorem dL_law_525 : decode cL_law 525 = .ok (.iload_n 3, 1) := by decide +kernel
theorem dL_law_526 : decode cL_law 526 = .ok (.bipush 6, 2) := by decide +kernel
theorem dL_law_528 : decode cL_law 528 = .ok (.iadd, 1) := by decide +kernel
theorem dL_law_529 : decode cL_law 529 = .ok (.iaload, 1) := by decide +kernel
theorem dL_law_530 : decode cL_law 530 = .ok (.invokevirtual 49, 3) := by decide +kernel
theorem dL_law_533 : decode cL_law 533 = .ok (.aload_n 2, 1) := by decide +kernel
theorem dL_law_534 : decode cL_law 534 = .ok (.aload_n 0, 1) := by decide +kernel
theorem dL_law_535 : decode cL_law 535 = .ok (.iload_n 3, 1) := by decide +kernel
theorem dL_law_536 : decode cL_law 536 = .ok (.iconst 1, 1) := by decide +kernel
theorem dL_law_537 : decode cL_law 537 = .ok (.iadd, 1) := by decide +kernel
theorem dL_law_538 : decode cL_law 538 = .ok (.iaload, 1) := by decide +kernel
theorem dL_law_539 : decode cL_law 539 = .ok (.aload_n 0, 1) := by decide +kernel
theorem dL_law_540 : decode cL_law 540 = .ok (.iload_n 3, 1) := by decide +kernel
theorem dL_law_541 : decode cL_law 541 = .ok (.iconst 2, 1) := by decide +kernel
theorem dL_law_542 : decode cL_law 542 = .ok (.iadd, 1) := by decide +kernel
theorem dL_law_543 : decode cL_law 543 = .ok (.iaload, 1) := by decide +kernel
theorem dL_law_544 : decode cL_law 544 = .ok (.aload_n 0, 1) := by decide +kernel
theorem dL_law_545 : decode cL_law 545 = .ok (.iload_n 3, 1) := by decide +kernel
theorem dL_law_546 : decode cL_law 546 = .ok (.iconst 3, 1) := by decide +kernel
theorem dL_law_547 : decode cL_law 547 = .ok (.iadd, 1) := by decide +kernel
theorem dL_law_548 : decode cL_law 548 = .ok (.iaload, 1) := by decide +kernel
theorem dL_law_549 : decode cL_law 549 = .ok (.aload_n 0, 1) := by decide +kernel
theorem dL_law_550 : decode cL_law 550 = .ok (.iload_n 3, 1) := by decide +kernel
theorem dL_law_551 : decode cL_law 551 = .ok (.iconst 4, 1) := by decide +kernel
theorem dL_law_552 : decode cL_law 552 = .ok (.iadd, 1) := by decide +kernel
theorem dL_law_553 : decode cL_law 553 = .ok (.iaload, 1) := by decide +kernel
theorem dL_law_554 : decode cL_law 554 = .ok (.aload_n 0, 1) := by decide +kernel
theorem dL_law_555 : decode cL_law 555 = .ok (.iload_n 3, 1) := by decide +kernel
theorem dL_law_556 : decode cL_law 556 = .ok (.iconst 5, 1) := by decide +kernel
theorem dL_law_557 : decode cL_law 557 = .ok (.iadd, 1) := by decide +kernel
theorem dL_law_558 : decode cL_law 558 = .ok (.iaload, 1) := by decide +kernel
theorem dL_law_559 : decode cL_law 559 = .ok (.aload_n 0, 1) := by decide +kernel
theorem dL_law_560 : decode cL_law 560 = .ok (.iload_n 3, 1) := by decide +kernel
theorem dL_law_561 : decode cL_law 561 = .ok (.bipush 6, 2) := by decide +kernel
theorem dL_law_563 : decode cL_law 563 = .ok (.iadd, 1) := by decide +kernel
theorem dL_law_564 : decode cL_law 564 = .ok (.iaload, 1) := by decide +kernel
theorem dL_law_565 : decode cL_law 565 = .ok (.invokevirtual 53, 3) := by decide +kernel
theorem dL_law_568 : decode cL_law 568 = .ok (.if_icmp .eq 884, 3) := by decide +kernel
theorem dL_law_571 : decode cL_law 571 = .ok (.iconst 0, 1) := by decide +kernel
theorem dL_law_572 : decode cL_law 572 = .ok (.ireturn, 1) := by decide +kernel
theorem dL_law_573 : decode cL_law 573 = .ok (.aload_n 1, 1) := by decide +kernel
theorem dL_law_574 : decode cL_law 574 = .ok (.aload_n 0, 1) := by decide +kernel
theorem dL_law_575 : decode cL_law 575 = .ok (.iload_n 3, 1) := by decide +kernel
theorem dL_law_576 : decode cL_law 576 = .ok (.iconst 1, 1) := by decide +kernel
theorem dL_law_577 : decode cL_law 577 = .ok (.iadd, 1) := by decide +kernel
theorem dL_law_578 : decode cL_law 578 = .ok (.iaload, 1) := by decide +kernel
theorem dL_law_579 : decode cL_law 579 = .ok (.aload_n 0, 1) := by decide +kernel
theorem dL_law_580 : decode cL_law 580 = .ok (.iload_n 3, 1) := by decide +kernel
theorem dL_law_581 : decode cL_law 581 = .ok (.iconst 2, 1) := by decide +kernel
theorem dL_law_582 : decode cL_law 582 = .ok (.iadd, 1) := by decide +kernel
theorem dL_law_583 : decode cL_law 583 = .ok (.iaload, 1) := by decide +kernel
theorem dL_law_584 : decode cL_law 584 = .ok (.aload_n 0, 1) := by decide +kernel
theorem dL_law_585 : decode cL_law 585 = .ok (.iload_n 3, 1) := by decide +kernel
theorem dL_law_586 : decode cL_law 586 = .ok (.iconst 3, 1) := by decide +kernel
theorem dL_law_587 : decode cL_law 587 = .ok (.iadd, 1) := by decide +kernel
theorem dL_law_588 : decode cL_law 588 = .ok (.iaload, 1) := by decide +kernel
theorem dL_law_589 : decode cL_law 589 = .ok (.ifCond .eq 7, 3) := by decide +kernel
theorem dL_law_592 : decode cL_law 592 = .ok (.iconst 1, 1) := by decide +kernel
theorem dL_law_593 : decode cL_law 593 = .ok (.goto 4, 3) := by decide +kernel
theorem dL_law_596 : decode cL_law 596 = .ok (.iconst 0, 1) := by decide +kernel
theorem dL_law_597 : decode cL_law 597 = .ok (.invokevirtual 54, 3) := by decide +kernel
theorem dL_law_600 : decode cL_law 600 = .ok (.aload_n 2, 1) := by decide +kernel
theorem dL_law_601 : decode cL_law 601 = .ok (.aload_n 0, 1) := by decide +kernel
theorem dL_law_602 : decode cL_law 602 = .ok (.iload_n 3, 1) := by decide +kernel
theorem dL_law_603 : decode cL_law 603 = .ok (.iconst 1, 1) := by decide +kernel
theorem dL_law_604 : decode cL_law 604 = .ok (.iadd, 1) := by decide +kernel
theorem dL_law_605 : decode cL_law 605 = .ok (.iaload, 1) := by decide +kernel
theorem dL_law_606 : decode cL_law 606 = .ok (.aload_n 0, 1) := by decide +kernel
theorem dL_law_607 : decode cL_law 607 = .ok (.iload_n 3, 1) := by decide +kernel
theorem dL_law_608 : decode cL_law 608 = .ok (.iconst 2, 1) := by decide +kernel
theorem dL_law_609 : decode cL_law 609 = .ok (.iadd, 1) := by decide +kernel
theorem dL_law_610 : decode cL_law 610 = .ok (.iaload, 1) := by decide +kernel
theorem dL_law_611 : decode cL_law 611 = .ok (.aload_n 0, 1) := by decide +kernel
theorem dL_law_612 : decode cL_law 612 = .ok (.iload_n 3, 1) := by decide +kernel
theorem dL_law_613 : decode cL_law 613 = .ok (.iconst 3, 1) := by decide +kernel
theorem dL_law_614 : decode cL_law 614 = .ok (.iadd, 1) := by decide +kernel
theorem dL_law_615 : decode cL_law 615 = .ok (.iaload, 1) := by decide +kernel
theorem dL_law_616 : decode cL_law 616 = .ok (.ifCond .eq 7, 3) := by decide +kernel
theorem dL_law_619 : decode cL_law 619 = .ok (.iconst 1, 1) := by decide +kernel
theorem dL_law_620 : decode cL_law 620 = .ok (.goto 4, 3) := by decide +kernel
theorem dL_law_623 : decode cL_law 623 = .ok (.iconst 0, 1) := by decide +kernel
theorem dL_law_624 : decode cL_law 624 = .ok (.invokevirtual 58, 3) := by decide +kernel
theorem dL_law_627 : decode cL_law 627 = .ok (.if_icmp .eq 825, 3) := by decide +kernel
theorem dL_law_630 : decode cL_law 630 = .ok (.iconst 0, 1) := by decide +kernel
theorem dL_law_631 : decode cL_law 631 = .ok (.ireturn, 1) := by decide +kernel
theorem dL_law_632 : decode cL_law 632 = .ok (.aload_n 1, 1) := by decide +kernel
theorem dL_law_633 : decode cL_law 633 = .ok (.aload_n 0, 1) := by decide +kernel
theorem dL_law_634 : decode cL_law 634 = .ok (.iload_n 3, 1) := by decide +kernel
theorem dL_law_635 : decode cL_law 635 = .ok (.iconst 1, 1) := by decide +kernel
theorem dL_law_636 : decode cL_law 636 = .ok (.iadd, 1) := by decide +kernel
theorem dL_law_637 : decode cL_law 637 = .ok (.iaload, 1) := by decide +kernel
theorem dL_law_638 : decode cL_law 638 = .ok (.aload_n 0, 1) := by decide +kernel
theorem dL_law_639 : decode cL_law 639 = .ok (.iload_n 3, 1) := by decide +kernel
theorem dL_law_640 : decode cL_law 640 = .ok (.iconst 2, 1) := by decide +kernel
theorem dL_law_641 : decode cL_law 641 = .ok (.iadd, 1) := by decide +kernel
theorem dL_law_642 : decode cL_law 642 = .ok (.iaload, 1) := by decide +kernel
theorem dL_law_643 : decode cL_law 643 = .ok (.invokevirtual 59, 3) := by decide +kernel
theorem dL_law_646 : decode cL_law 646 = .ok (.aload_n 2, 1) := by decide +kernel
theorem dL_law_647 : decode cL_law 647 = .ok (.aload_n 0, 1) := by decide +kernel
theorem dL_law_648 : decode cL_law 648 = .ok (.iload_n 3, 1) := by decide +kernel
theorem dL_law_649 : decode cL_law 649 = .ok (.iconst 1, 1) := by decide +kernel
theorem dL_law_650 : decode cL_law 650 = .ok (.iadd, 1) := by decide +kernel
theorem dL_law_651 : decode cL_law 651 = .ok (.iaload, 1) := by decide +kernel
theorem dL_law_652 : decode cL_law 652 = .ok (.aload_n 0, 1) := by decide +kernel
theorem dL_law_653 : decode cL_law 653 = .ok (.iload_n 3, 1) := by decide +kernel
theorem dL_law_654 : decode cL_law 654 = .ok (.iconst 2, 1) := by decide +kernel
theorem dL_law_655 : decode cL_law 655 = .ok (.iadd, 1) := by decide +kernel
theorem dL_law_656 : decode cL_law 656 = .ok (.iaload, 1) := by decide +kernel
theorem dL_law_657 : decode cL_law 657 = .ok (.invokevirtual 62, 3) := by decide +kernel
theorem dL_law_660 : decode cL_law 660 = .ok (.if_icmp .eq 792, 3) := by decide +kernel
theorem dL_law_663 : decode cL_law 663 = .ok (.iconst 0, 1) := by decide +kernel
theorem dL_law_664 : decode cL_law 664 = .ok (.ireturn, 1) := by decide +kernel
theorem dL_law_665 : decode cL_law 665 = .ok (.aload_n 1, 1) := by decide +kernel
theorem dL_law_666 : decode cL_law 666 = .ok (.aload_n 0, 1) := by decide +kernel
theorem dL_law_667 : decode cL_law 667 = .ok (.iload_n 3, 1) := by decide +kernel
theorem dL_law_668 : decode cL_law 668 = .ok (.iconst 1, 1) := by decide +kernel
theorem dL_law_669 : decode cL_law 669 = .ok (.iadd, 1) := by decide +kernel
theorem dL_law_670 : decode cL_law 670 = .ok (.iaload, 1) := by decide +kernel
theorem dL_law_671 : decode cL_law 671 = .ok (.aload_n 0, 1) := by decide +kernel
theorem dL_law_672 : decode cL_law 672 = .ok (.iload_n 3, 1) := by decide +kernel
theorem dL_law_673 : decode cL_law 673 = .ok (.iconst 2, 1) := by decide +kernel
theorem dL_law_674 : decode cL_law 674 = .ok (.iadd, 1) := by decide +kernel
theorem dL_law_675 : decode cL_law 675 = .ok (.iaload, 1) := by decide +kernel
theorem dL_law_676 : decode cL_law 676 = .ok (.ifCond .eq 7, 3) := by decide +kernel
theorem dL_law_679 : decode cL_law 679 = .ok (.iconst 1, 1) := by decide +kernel
theorem dL_law_680 : decode cL_law 680 = .ok (.goto 4, 3) := by decide +kernel
theorem dL_law_683 : decode cL_law 683 = .ok (.iconst 0, 1) := by decide +kernel
theorem dL_law_684 : decode cL_law 684 = .ok (.invokevirtual 63, 3) := by decide +kernel
theorem dL_law_687 : decode cL_law 687 = .ok (.aload_n 2, 1) := by decide +kernel
theorem dL_law_688 : decode cL_law 688 = .ok (.aload_n 0, 1) := by decide +kernel
theorem dL_law_689 : decode cL_law 689 = .ok (.iload_n 3, 1) := by decide +kernel
theorem dL_law_690 : decode cL_law 690 = .ok (.iconst 1, 1) := by decide +kernel
theorem dL_law_691 : decode cL_law 691 = .ok (.iadd, 1) := by decide +kernel
theorem dL_law_692 : decode cL_law 692 = .ok (.iaload, 1) := by decide +kernel
theorem dL_law_693 : decode cL_law 693 = .ok (.aload_n 0, 1) := by decide +kernel
theorem dL_law_694 : decode cL_law 694 = .ok (.iload_n 3, 1) := by decide +kernel
theorem dL_law_695 : decode cL_law 695 = .ok (.iconst 2, 1) := by decide +kernel
theorem dL_law_696 : decode cL_law 696 = .ok (.iadd, 1) := by decide +kernel
theorem dL_law_697 : decode cL_law 697 = .ok (.iaload, 1) := by decide +kernel
theorem dL_law_698 : decode cL_law 698 = .ok (.ifCond .eq 7, 3) := by decide +kernel
theorem dL_law_701 : decode cL_law 701 = .ok (.iconst 1, 1) := by decide +kernel
theorem dL_law_702 : decode cL_law 702 = .ok (.goto 4, 3) := by decide +kernel
theorem dL_law_705 : decode cL_law 705 = .ok (.iconst 0, 1) := by decide +kernel
theorem dL_law_706 : decode cL_law 706 = .ok (.invokevirtual 67, 3) := by decide +kernel
theorem dL_law_709 : decode cL_law 709 = .ok (.if_icmp .eq 743, 3) := by decide +kernel
theorem dL_law_712 : decode cL_law 712 = .ok (.iconst 0, 1) := by decide +kernel
theorem dL_law_713 : decode cL_law 713 = .ok (.ireturn, 1) := by decide +kernel
theorem dL_law_714 : decode cL_law 714 = .ok (.aload_n 1, 1) := by decide +kernel
theorem dL_law_715 : decode cL_law 715 = .ok (.aload_n 0, 1) := by decide +kernel
theorem dL_law_716 : decode cL_law 716 = .ok (.iload_n 3, 1) := by decide +kernel
theorem dL_law_717 : decode cL_law 717 = .ok (.iconst 1, 1) := by decide +kernel
theorem dL_law_718 : decode cL_law 718 = .ok (.iadd, 1) := by decide +kernel
theorem dL_law_719 : decode cL_law 719 = .ok (.iaload, 1) := by decide +kernel
theorem dL_law_720 : decode cL_law 720 = .ok (.aload_n 0, 1) := by decide +kernel
theorem dL_law_721 : decode cL_law 721 = .ok (.iload_n 3, 1) := by decide +kernel
theorem dL_law_722 : decode cL_law 722 = .ok (.iconst 2, 1) := by decide +kernel
theorem dL_law_723 : decode cL_law 723 = .ok (.iadd, 1) := by decide +kernel
theorem dL_law_724 : decode cL_law 724 = .ok (.iaload, 1) := by decide +kernel
theorem dL_law_725 : decode cL_law 725 = .ok (.invokevirtual 68, 3) := by decide +kernel
theorem dL_law_728 : decode cL_law 728 = .ok (.aload_n 2, 1) := by decide +kernel
theorem dL_law_729 : decode cL_law 729 = .ok (.aload_n 0, 1) := by decide +kernel
theorem dL_law_730 : decode cL_law 730 = .ok (.iload_n 3, 1) := by decide +kernel
theorem dL_law_731 : decode cL_law 731 = .ok (.iconst 1, 1) := by decide +kernel
theorem dL_law_732 : decode cL_law 732 = .ok (.iadd, 1) := by decide +kernel
theorem dL_law_733 : decode cL_law 733 = .ok (.iaload, 1) := by decide +kernel
theorem dL_law_734 : decode cL_law 734 = .ok (.aload_n 0, 1) := by decide +kernel
theorem dL_law_735 : decode cL_law 735 = .ok (.iload_n 3, 1) := by decide +kernel
theorem dL_law_736 : decode cL_law 736 = .ok (.iconst 2, 1) := by decide +kernel
theorem dL_law_737 : decode cL_law 737 = .ok (.iadd, 1) := by decide +kernel
theorem dL_law_738 : decode cL_law 738 = .ok (.iaload, 1) := by decide +kernel
theorem dL_law_739 : decode cL_law 739 = .ok (.invokevirtual 71, 3) := by decide +kernel
theorem dL_law_742 : decode cL_law 742 = .ok (.if_icmp .eq 710, 3) := by decide +kernel
theorem dL_law_745 : decode cL_law 745 = .ok (.iconst 0, 1) := by decide +kernel
theorem dL_law_746 : decode cL_law 746 = .ok (.ireturn, 1) := by decide +kernel
theorem dL_law_747 : decode cL_law 747 = .ok (.aload_n 1, 1) := by decide +kernel
theorem dL_law_748 : decode cL_law 748 = .ok (.aload_n 0, 1) := by decide +kernel
theorem dL_law_749 : decode cL_law 749 = .ok (.iload_n 3, 1) := by decide +kernel
theorem dL_law_750 : decode cL_law 750 = .ok (.iconst 1, 1) := by decide +kernel
theorem dL_law_751 : decode cL_law 751 = .ok (.iadd, 1) := by decide +kernel
theorem dL_law_752 : decode cL_law 752 = .ok (.iaload, 1) := by decide +kernel
theorem dL_law_753 : decode cL_law 753 = .ok (.aload_n 0, 1) := by decide +kernel
theorem dL_law_754 : decode cL_law 754 = .ok (.iload_n 3, 1) := by decide +kernel
theorem dL_law_755 : decode cL_law 755 = .ok (.iconst 2, 1) := by decide +kernel
theorem dL_law_756 : decode cL_law 756 = .ok (.iadd, 1) := by decide +kernel
theorem dL_law_757 : decode cL_law 757 = .ok (.iaload, 1) := by decide +kernel
theorem dL_law_758 : decode cL_law 758 = .ok (.invokevirtual 72, 3) := by decide +kernel
theorem dL_law_761 : decode cL_law 761 = .ok (.aload_n 2, 1) := by decide +kernel
theorem dL_law_762 : decode cL_law 762 = .ok (.aload_n 0, 1) := by decide +kernel
theorem dL_law_763 : decode cL_law 763 = .ok (.iload_n 3, 1) := by decide +kernel
theorem dL_law_764 : decode cL_law 764 = .ok (.iconst 1, 1) := by decide +kernel
theorem dL_law_765 : decode cL_law 765 = .ok (.iadd, 1) := by decide +kernel
theorem dL_law_766 : decode cL_law 766 = .ok (.iaload, 1) := by decide +kernel
theorem dL_law_767 : decode cL_law 767 = .ok (.aload_n 0, 1) := by decide +kernel
theorem dL_law_768 : decode cL_law 768 = .ok (.iload_n 3, 1) := by decide +kernel
theorem dL_law_769 : decode cL_law 769 = .ok (.iconst 2, 1) := by decide +kernel
theorem dL_law_770 : decode cL_law 770 = .ok (.iadd, 1) := by decide +kernel
theorem dL_law_771 : decode cL_law 771 = .ok (.iaload, 1) := by decide +kernel
theorem dL_law_772 : decode cL_law 772 = .ok (.invokevirtual 75, 3) := by decide +kernel
theorem dL_law_775 : decode cL_law 775 = .ok (.if_icmp .eq 677, 3) := by decide +kernel
theorem dL_law_778 : decode cL_law 778 = .ok (.iconst 0, 1) := by decide +kernel
theorem dL_law_779 : decode cL_law 779 = .ok (.ireturn, 1) := by decide +kernel
theorem dL_law_780 : decode cL_law 780 = .ok (.aload_n 1, 1) := by decide +kernel
theorem dL_law_781 : decode cL_law 781 = .ok (.aload_n 0, 1) := by decide +kernel
theorem dL_law_782 : decode cL_law 782 = .ok (.iload_n 3, 1) := by decide +kernel
theorem dL_law_783 : decode cL_law 783 = .ok (.iconst 1, 1) := by decide +kernel
theorem dL_law_784 : decode cL_law 784 = .ok (.iadd, 1) := by decide +kernel
theorem dL_law_785 : decode cL_law 785 = .ok (.iaload, 1) := by decide +kernel
theorem dL_law_786 : decode cL_law 786 = .ok (.aload_n 0, 1) := by decide +kernel
theorem dL_law_787 : decode cL_law 787 = .ok (.iload_n 3, 1) := by decide +kernel
theorem dL_law_788 : decode cL_law 788 = .ok (.iconst 2, 1) := by decide +kernel
theorem dL_law_789 : decode cL_law 789 = .ok (.iadd, 1) := by decide +kernel
theorem dL_law_790 : decode cL_law 790 = .ok (.iaload, 1) := by decide +kernel
theorem dL_law_791 : decode cL_law 791 = .ok (.invokevirtual 76, 3) := by decide +kernel
theorem dL_law_794 : decode cL_law 794 = .ok (.aload_n 2, 1) := by decide +kernel
theorem dL_law_795 : decode cL_law 795 = .ok (.aload_n 0, 1) := by decide +kernel
theorem dL_law_796 : decode cL_law 796 = .ok (.iload_n 3, 1) := by decide +kernel
theorem dL_law_797 : decode cL_law 797 = .ok (.iconst 1, 1) := by decide +kernel
theorem dL_law_798 : decode cL_law 798 = .ok (.iadd, 1) := by decide +kernel
theorem dL_law_799 : decode cL_law 799 = .ok (.iaload, 1) := by decide +kernel
theorem dL_law_800 : decode cL_law 800 = .ok (.aload_n 0, 1) := by decide +kernel
theorem dL_law_801 : decode cL_law 801 = .ok (.iload_n 3, 1) := by decide +kernel
theorem dL_law_802 : decode cL_law 802 = .ok (.iconst 2, 1) := by decide +kernel
theorem dL_law_803 : decode cL_law 803 = .ok (.iadd, 1) := by decide +kernel
theorem dL_law_804 : decode cL_law 804 = .ok (.iaload, 1) := by decide +kernel
theorem dL_law_805 : decode cL_law 805 = .ok (.invokevirtual 79, 3) := by decide +kernel
theorem dL_law_808 : decode cL_law 808 = .ok (.if_icmp .eq 644, 3) := by decide +kernel
theorem dL_law_811 : decode cL_law 811 = .ok (.iconst 0, 1) := by decide +kernel
theorem dL_law_812 : decode cL_law 812 = .ok (.ireturn, 1) := by decide +kernel
theorem dL_law_813 : decode cL_law 813 = .ok (.aload_n 1, 1) := by decide +kernel
theorem dL_law_814 : decode cL_law 814 = .ok (.aload_n 0, 1) := by decide +kernel
theorem dL_law_815 : decode cL_law 815 = .ok (.iload_n 3, 1) := by decide +kernel
theorem dL_law_816 : decode cL_law 816 = .ok (.iconst 1, 1) := by decide +kernel
theorem dL_law_817 : decode cL_law 817 = .ok (.iadd, 1) := by decide +kernel
theorem dL_law_818 : decode cL_law 818 = .ok (.iaload, 1) := by decide +kernel
theorem dL_law_819 : decode cL_law 819 = .ok (.invokevirtual 80, 3) := by decide +kernel
theorem dL_law_822 : decode cL_law 822 = .ok (.aload_n 2, 1) := by decide +kernel
theorem dL_law_823 : decode cL_law 823 = .ok (.aload_n 0, 1) := by decide +kernel
theorem dL_law_824 : decode cL_law 824 = .ok (.iload_n 3, 1) := by decide +kernel
theorem dL_law_825 : decode cL_law 825 = .ok (.iconst 1, 1) := by decide +kernel
theorem dL_law_826 : decode cL_law 826 = .ok (.iadd, 1) := by decide +kernel
theorem dL_law_827 : decode cL_law 827 = .ok (.iaload, 1) := by decide +kernel
theorem dL_law_828 : decode cL_law 828 = .ok (.invokevirtual 83, 3) := by decide +kernel
theorem dL_law_831 : decode cL_law 831 = .ok (.if_icmp .eq 621, 3) := by decide +kernel
theorem dL_law_834 : decode cL_law 834 = .ok (.iconst 0, 1) := by decide +kernel
theorem dL_law_835 : decode cL_law 835 = .ok (.ireturn, 1) := by decide +kernel
theorem dL_law_836 : decode cL_law 836 = .ok (.aload_n 1, 1) := by decide +kernel
theorem dL_law_837 : decode cL_law 837 = .ok (.invokevirtual 84, 3) := by decide +kernel
theorem dL_law_840 : decode cL_law 840 = .ok (.aload_n 2, 1) := by decide +kernel
theorem dL_law_841 : decode cL_law 841 = .ok (.invokevirtual 88, 3) := by decide +kernel
theorem dL_law_844 : decode cL_law 844 = .ok (.if_icmp .eq 608, 3) := by decide +kernel
theorem dL_law_847 : decode cL_law 847 = .ok (.iconst 0, 1) := by decide +kernel
theorem dL_law_848 : decode cL_law 848 = .ok (.ireturn, 1) := by decide +kernel
theorem dL_law_849 : decode cL_law 849 = .ok (.aload_n 1, 1) := by decide +kernel
theorem dL_law_850 : decode cL_law 850 = .ok (.aload_n 0, 1) := by decide +kernel
theorem dL_law_851 : decode cL_law 851 = .ok (.iload_n 3, 1) := by decide +kernel
theorem dL_law_852 : decode cL_law 852 = .ok (.iconst 1, 1) := by decide +kernel
theorem dL_law_853 : decode cL_law 853 = .ok (.iadd, 1) := by decide +kernel
theorem dL_law_854 : decode cL_law 854 = .ok (.iaload, 1) := by decide +kernel
theorem dL_law_855 : decode cL_law 855 = .ok (.aload_n 0, 1) := by decide +kernel
theorem dL_law_856 : decode cL_law 856 = .ok (.iload_n 3, 1) := by decide +kernel
theorem dL_law_857 : decode cL_law 857 = .ok (.iconst 2, 1) := by decide +kernel
theorem dL_law_858 : decode cL_law 858 = .ok (.iadd, 1) := by decide +kernel
theorem dL_law_859 : decode cL_law 859 = .ok (.iaload, 1) := by decide +kernel
theorem dL_law_860 : decode cL_law 860 = .ok (.invokevirtual 89, 3) := by decide +kernel
theorem dL_law_863 : decode cL_law 863 = .ok (.aload_n 2, 1) := by decide +kernel
theorem dL_law_864 : decode cL_law 864 = .ok (.aload_n 0, 1) := by decide +kernel
theorem dL_law_865 : decode cL_law 865 = .ok (.iload_n 3, 1) := by decide +kernel
theorem dL_law_866 : decode cL_law 866 = .ok (.iconst 1, 1) := by decide +kernel
theorem dL_law_867 : decode cL_law 867 = .ok (.iadd, 1) := by decide +kernel
theorem dL_law_868 : decode cL_law 868 = .ok (.iaload, 1) := by decide +kernel
theorem dL_law_869 : decode cL_law 869 = .ok (.aload_n 0, 1) := by decide +kernel
theorem dL_law_870 : decode cL_law 870 = .ok (.iload_n 3, 1) := by decide +kernel
theorem dL_law_871 : decode cL_law 871 = .ok (.iconst 2, 1) := by decide +kernel
theorem dL_law_872 : decode cL_law 872 = .ok (.iadd, 1) := by decide +kernel
theorem dL_law_873 : decode cL_law 873 = .ok (.iaload, 1) := by decide +kernel
theorem dL_law_874 : decode cL_law 874 = .ok (.invokevirtual 92, 3) := by decide +kernel
theorem dL_law_877 : decode cL_law 877 = .ok (.if_icmp .eq 575, 3) := by decide +kernel
theorem dL_law_880 : decode cL_law 880 = .ok (.iconst 0, 1) := by decide +kernel
theorem dL_law_881 : decode cL_law 881 = .ok (.ireturn, 1) := by decide +kernel
theorem dL_law_882 : decode cL_law 882 = .ok (.aload_n 1, 1) := by decide +kernel
theorem dL_law_883 : decode cL_law 883 = .ok (.aload_n 0, 1) := by decide +kernel
theorem dL_law_884 : decode cL_law 884 = .ok (.iload_n 3, 1) := by decide +kernel
theorem dL_law_885 : decode cL_law 885 = .ok (.iconst 1, 1) := by decide +kernel
theorem dL_law_886 : decode cL_law 886 = .ok (.iadd, 1) := by decide +kernel
theorem dL_law_887 : decode cL_law 887 = .ok (.iaload, 1) := by decide +kernel
theorem dL_law_888 : decode cL_law 888 = .ok (.aload_n 0, 1) := by decide +kernel
theorem dL_law_889 : decode cL_law 889 = .ok (.iload_n 3, 1) := by decide +kernel
theorem dL_law_890 : decode cL_law 890 = .ok (.iconst 2, 1) := by decide +kernel
theorem dL_law_891 : decode cL_law 891 = .ok (.iadd, 1) := by decide +kernel
theorem dL_law_892 : decode cL_law 892 = .ok (.iaload, 1) := by decide +kernel
theorem dL_law_893 : decode cL_law 893 = .ok (.invokevirtual 93, 3) := by decide +kernel
theorem dL_law_896 : decode cL_law 896 = .ok (.aload_n 2, 1) := by decide +kernel
theorem dL_law_897 : decode cL_law 897 = .ok (.aload_n 0, 1) := by decide +kernel
theorem dL_law_898 : decode cL_law 898 = .ok (.iload_n 3, 1) := by decide +kernel
theorem dL_law_899 : decode cL_law 899 = .ok (.iconst 1, 1) := by decide +kernel
theorem dL_law_900 : decode cL_law 900 = .ok (.iadd, 1) := by decide +kernel
theorem dL_law_901 : decode cL_law 901 = .ok (.iaload, 1) := by decide +kernel
theorem dL_law_902 : decode cL_law 902 = .ok (.aload_n 0, 1) := by decide +kernel
theorem dL_law_903 : decode cL_law 903 = .ok (.iload_n 3, 1) := by decide +kernel
theorem dL_law_904 : decode cL_law 904 = .ok (.iconst 2, 1) := by decide +kernel
theorem dL_law_905 : decode cL_law 905 = .ok (.iadd, 1) := by decide +kernel
theorem dL_law_906 : decode cL_law 906 = .ok (.iaload, 1) := by decide +kernel
theorem dL_law_907 : decode cL_law 907 = .ok (.invokevirtual 96, 3) := by decide +kernel
theorem dL_law_910 : decode cL_law 910 = .ok (.if_icmp .eq 542, 3) := by decide +kernel
theorem dL_law_913 : decode cL_law 913 = .ok (.iconst 0, 1) := by decide +kernel
theorem dL_law_914 : decode cL_law 914 = .ok (.ireturn, 1) := by decide +kernel
theorem dL_law_915 : decode cL_law 915 = .ok (.aload_n 1, 1) := by decide +kernel
theorem dL_law_916 : decode cL_law 916 = .ok (.aload_n 0, 1) := by decide +kernel
theorem dL_law_917 : decode cL_law 917 = .ok (.iload_n 3, 1) := by decide +kernel
theorem dL_law_918 : decode cL_law 918 = .ok (.iconst 1, 1) := by decide +kernel
theorem dL_law_919 : decode cL_law 919 = .ok (.iadd, 1) := by decide +kernel
theorem dL_law_920 : decode cL_law 920 = .ok (.iaload, 1) := by decide +kernel
theorem dL_law_921 : decode cL_law 921 = .ok (.aload_n 0, 1) := by decide +kernel
theorem dL_law_922 : decode cL_law 922 = .ok (.iload_n 3, 1) := by decide +kernel
theorem dL_law_923 : decode cL_law 923 = .ok (.iconst 2, 1) := by decide +kernel
theorem dL_law_924 : decode cL_law 924 = .ok (.iadd, 1) := by decide +kernel
theorem dL_law_925 : decode cL_law 925 = .ok (.iaload, 1) := by decide +kernel
theorem dL_law_926 : decode cL_law 926 = .ok (.invokevirtual 97, 3) := by decide +kernel
theorem dL_law_929 : decode cL_law 929 = .ok (.aload_n 2, 1) := by decide +kernel
theorem dL_law_930 : decode cL_law 930 = .ok (.aload_n 0, 1) := by decide +kernel
theorem dL_law_931 : decode cL_law 931 = .ok (.iload_n 3, 1) := by decide +kernel
theorem dL_law_932 : decode cL_law 932 = .ok (.iconst 1, 1) := by decide +kernel
theorem dL_law_933 : decode cL_law 933 = .ok (.iadd, 1) := by decide +kernel
theorem dL_law_934 : decode cL_law 934 = .ok (.iaload, 1) := by decide +kernel
theorem dL_law_935 : decode cL_law 935 = .ok (.aload_n 0, 1) := by decide +kernel
theorem dL_law_936 : decode cL_law 936 = .ok (.iload_n 3, 1) := by decide +kernel
theorem dL_law_937 : decode cL_law 937 = .ok (.iconst 2, 1) := by decide +kernel
theorem dL_law_938 : decode cL_law 938 = .ok (.iadd, 1) := by decide +kernel
theorem dL_law_939 : decode cL_law 939 = .ok (.iaload, 1) := by decide +kernel
theorem dL_law_940 : decode cL_law 940 = .ok (.invokevirtual 100, 3) := by decide +kernel
theorem dL_law_943 : decode cL_law 943 = .ok (.if_icmp .eq 509, 3) := by decide +kernel
theorem dL_law_946 : decode cL_law 946 = .ok (.iconst 0, 1) := by decide +kernel
theorem dL_law_947 : decode cL_law 947 = .ok (.ireturn, 1) := by decide +kernel
theorem dL_law_948 : decode cL_law 948 = .ok (.aload_n 1, 1) := by decide +kernel
theorem dL_law_949 : decode cL_law 949 = .ok (.aload_n 0, 1) := by decide +kernel
theorem dL_law_950 : decode cL_law 950 = .ok (.iload_n 3, 1) := by decide +kernel
theorem dL_law_951 : decode cL_law 951 = .ok (.iconst 1, 1) := by decide +kernel
theorem dL_law_952 : decode cL_law 952 = .ok (.iadd, 1) := by decide +kernel
theorem dL_law_953 : decode cL_law 953 = .ok (.iaload, 1) := by decide +kernel
theorem dL_law_954 : decode cL_law 954 = .ok (.invokevirtual 101, 3) := by decide +kernel
theorem dL_law_957 : decode cL_law 957 = .ok (.aload_n 2, 1) := by decide +kernel
theorem dL_law_958 : decode cL_law 958 = .ok (.aload_n 0, 1) := by decide +kernel
theorem dL_law_959 : decode cL_law 959 = .ok (.iload_n 3, 1) := by decide +kernel
theorem dL_law_960 : decode cL_law 960 = .ok (.iconst 1, 1) := by decide +kernel
theorem dL_law_961 : decode cL_law 961 = .ok (.iadd, 1) := by decide +kernel
theorem dL_law_962 : decode cL_law 962 = .ok (.iaload, 1) := by decide +kernel
theorem dL_law_963 : decode cL_law 963 = .ok (.invokevirtual 104, 3) := by decide +kernel
theorem dL_law_966 : decode cL_law 966 = .ok (.if_icmp .eq 486, 3) := by decide +kernel
theorem dL_law_969 : decode cL_law 969 = .ok (.iconst 0, 1) := by decide +kernel
theorem dL_law_970 : decode cL_law 970 = .ok (.ireturn, 1) := by decide +kernel
theorem dL_law_971 : decode cL_law 971 = .ok (.aload_n 1, 1) := by decide +kernel
theorem dL_law_972 : decode cL_law 972 = .ok (.aload_n 0, 1) := by decide +kernel
theorem dL_law_973 : decode cL_law 973 = .ok (.iload_n 3, 1) := by decide +kernel
theorem dL_law_974 : decode cL_law 974 = .ok (.iconst 1, 1) := by decide +kernel
theorem dL_law_975 : decode cL_law 975 = .ok (.iadd, 1) := by decide +kernel
theorem dL_law_976 : decode cL_law 976 = .ok (.iaload, 1) := by decide +kernel
theorem dL_law_977 : decode cL_law 977 = .ok (.aload_n 0, 1) := by decide +kernel
theorem dL_law_978 : decode cL_law 978 = .ok (.iload_n 3, 1) := by decide +kernel
theorem dL_law_979 : decode cL_law 979 = .ok (.iconst 2, 1) := by decide +kernel
theorem dL_law_980 : decode cL_law 980 = .ok (.iadd, 1) := by decide +kernel
theorem dL_law_981 : decode cL_law 981 = .ok (.iaload, 1) := by decide +kernel
theorem dL_law_982 : decode cL_law 982 = .ok (.aload_n 0, 1) := by decide +kernel
theorem dL_law_983 : decode cL_law 983 = .ok (.iload_n 3, 1) := by decide +kernel
theorem dL_law_984 : decode cL_law 984 = .ok (.iconst 3, 1) := by decide +kernel
theorem dL_law_985 : decode cL_law 985 = .ok (.iadd, 1) := by decide +kernel
theorem dL_law_986 : decode cL_law 986 = .ok (.iaload, 1) := by decide +kernel
theorem dL_law_987 : decode cL_law 987 = .ok (.invokevirtual 105, 3) := by decide +kernel
theorem dL_law_990 : decode cL_law 990 = .ok (.aload_n 2, 1) := by decide +kernel
theorem dL_law_991 : decode cL_law 991 = .ok (.aload_n 0, 1) := by decide +kernel
theorem dL_law_992 : decode cL_law 992 = .ok (.iload_n 3, 1) := by decide +kernel
theorem dL_law_993 : decode cL_law 993 = .ok (.iconst 1, 1) := by decide +kernel
theorem dL_law_994 : decode cL_law 994 = .ok (.iadd, 1) := by decide +kernel
theorem dL_law_995 : decode cL_law 995 = .ok (.iaload, 1) := by decide +kernel
theorem dL_law_996 : decode cL_law 996 = .ok (.aload_n 0, 1) := by decide +kernel
theorem dL_law_997 : decode cL_law 997 = .ok (.iload_n 3, 1) := by decide +kernel
theorem dL_law_998 : decode cL_law 998 = .ok (.iconst 2, 1) := by decide +kernel
theorem dL_law_999 : decode cL_law 999 = .ok (.iadd, 1) := by decide +kernel
theorem dL_law_1000 : decode cL_law 1000 = .ok (.iaload, 1) := by decide +kernel
theorem dL_law_1001 : decode cL_law 1001 = .ok (.aload_n 0, 1) := by decide +kernel
theorem dL_law_1002 : decode cL_law 1002 = .ok (.iload_n 3, 1) := by decide +kernel
theorem dL_law_1003 : decode cL_law 1003 = .ok (.iconst 3, 1) := by decide +kernel
theorem dL_law_1004 : decode cL_law 1004 = .ok (.iadd, 1) := by decide +kernel
theorem dL_law_1005 : decode cL_law 1005 = .ok (.iaload, 1) := by decide +kernel
theorem dL_law_1006 : decode cL_law 1006 = .ok (.invokevirtual 108, 3) := by decide +kernel
theorem dL_law_1009 : decode cL_law 1009 = .ok (.if_icmp .eq 443, 3) := by decide +kernel
theorem dL_law_1012 : decode cL_law 1012 = .ok (.iconst 0, 1) := by decide +kernel
theorem dL_law_1013 : decode cL_law 1013 = .ok (.ireturn, 1) := by decide +kernel
theorem dL_law_1014 : decode cL_law 1014 = .ok (.aload_n 1, 1) := by decide +kernel
theorem dL_law_1015 : decode cL_law 1015 = .ok (.aload_n 0, 1) := by decide +kernel
theorem dL_law_1016 : decode cL_law 1016 = .ok (.iload_n 3, 1) := by decide +kernel
theorem dL_law_1017 : decode cL_law 1017 = .ok (.iconst 1, 1) := by decide +kernel
theorem dL_law_1018 : decode cL_law 1018 = .ok (.iadd, 1) := by decide +kernel
theorem dL_law_1019 : decode cL_law 1019 = .ok (.iaload, 1) := by decide +kernel
theorem dL_law_1020 : decode cL_law 1020 = .ok (.aload_n 0, 1) := by decide +kernel
theorem dL_law_1021 : decode cL_law 1021 = .ok (.iload_n 3, 1) := by decide +kernel
theorem dL_law_1022 : decode cL_law 1022 = .ok (.iconst 2, 1) := by decide +kernel
theorem dL_law_1023 : decode cL_law 1023 = .ok (.iadd, 1) := by decide +kernel
theorem dL_law_1024 : decode cL_law 1024 = .ok (.iaload, 1) := by decide +kernel
theorem dL_law_1025 : decode cL_law 1025 = .ok (.invokevirtual 109, 3) := by decide +kernel
theorem dL_law_1028 : decode cL_law 1028 = .ok (.aload_n 2, 1) := by decide +kernel
theorem dL_law_1029 : decode cL_law 1029 = .ok (.aload_n 0, 1) := by decide +kernel
theorem dL_law_1030 : decode cL_law 1030 = .ok (.iload_n 3, 1) := by decide +kernel
theorem dL_law_1031 : decode cL_law 1031 = .ok (.iconst 1, 1) := by decide +kernel
theorem dL_law_1032 : decode cL_law 1032 = .ok (.iadd, 1) := by decide +kernel
theorem dL_law_1033 : decode cL_law 1033 = .ok (.iaload, 1) := by decide +kernel
theorem dL_law_1034 : decode cL_law 1034 = .ok (.aload_n 0, 1) := by decide +kernel
theorem dL_law_1035 : decode cL_law 1035 = .ok (.iload_n 3, 1) := by decide +kernel
theorem dL_law_1036 : decode cL_law 1036 = .ok (.iconst 2, 1) := by decide +kernel
theorem dL_law_1037 : decode cL_law 1037 = .ok (.iadd, 1) := by decide +kernel
theorem dL_law_1038 : decode cL_law 1038 = .ok (.iaload, 1) := by decide +kernel
theorem dL_law_1039 : decode cL_law 1039 = .ok (.invokevirtual 112, 3) := by decide +kernel
theorem dL_law_1042 : decode cL_law 1042 = .ok (.if_icmp .eq 410, 3) := by decide +kernel
theorem dL_law_1045 : decode cL_law 1045 = .ok (.iconst 0, 1) := by decide +kernel
theorem dL_law_1046 : decode cL_law 1046 = .ok (.ireturn, 1) := by decide +kernel
theorem dL_law_1047 : decode cL_law 1047 = .ok (.aload_n 1, 1) := by decide +kernel
theorem dL_law_1048 : decode cL_law 1048 = .ok (.aload_n 0, 1) := by decide +kernel
theorem dL_law_1049 : decode cL_law 1049 = .ok (.iload_n 3, 1) := by decide +kernel
theorem dL_law_1050 : decode cL_law 1050 = .ok (.iconst 1, 1) := by decide +kernel
theorem dL_law_1051 : decode cL_law 1051 = .ok (.iadd, 1) := by decide +kernel
theorem dL_law_1052 : decode cL_law 1052 = .ok (.iaload, 1) := by decide +kernel
theorem dL_law_1053 : decode cL_law 1053 = .ok (.aload_n 0, 1) := by decide +kernel
theorem dL_law_1054 : decode cL_law 1054 = .ok (.iload_n 3, 1) := by decide +kernel
theorem dL_law_1055 : decode cL_law 1055 = .ok (.iconst 2, 1) := by decide +kernel
theorem dL_law_1056 : decode cL_law 1056 = .ok (.iadd, 1) := by decide +kernel
theorem dL_law_1057 : decode cL_law 1057 = .ok (.iaload, 1) := by decide +kernel
theorem dL_law_1058 : decode cL_law 1058 = .ok (.invokevirtual 113, 3) := by decide +kernel
theorem dL_law_1061 : decode cL_law 1061 = .ok (.aload_n 2, 1) := by decide +kernel
theorem dL_law_1062 : decode cL_law 1062 = .ok (.aload_n 0, 1) := by decide +kernel
theorem dL_law_1063 : decode cL_law 1063 = .ok (.iload_n 3, 1) := by decide +kernel
theorem dL_law_1064 : decode cL_law 1064 = .ok (.iconst 1, 1) := by decide +kernel
theorem dL_law_1065 : decode cL_law 1065 = .ok (.iadd, 1) := by decide +kernel
theorem dL_law_1066 : decode cL_law 1066 = .ok (.iaload, 1) := by decide +kernel
theorem dL_law_1067 : decode cL_law 1067 = .ok (.aload_n 0, 1) := by decide +kernel
theorem dL_law_1068 : decode cL_law 1068 = .ok (.iload_n 3, 1) := by decide +kernel
theorem dL_law_1069 : decode cL_law 1069 = .ok (.iconst 2, 1) := by decide +kernel
theorem dL_law_1070 : decode cL_law 1070 = .ok (.iadd, 1) := by decide +kernel
theorem dL_law_1071 : decode cL_law 1071 = .ok (.iaload, 1) := by decide +kernel
theorem dL_law_1072 : decode cL_law 1072 = .ok (.invokevirtual 116, 3) := by decide +kernel
theorem dL_law_1075 : decode cL_law 1075 = .ok (.if_icmp .eq 377, 3) := by decide +kernel
theorem dL_law_1078 : decode cL_law 1078 = .ok (.iconst 0, 1) := by decide +kernel
theorem dL_law_1079 : decode cL_law 1079 = .ok (.ireturn, 1) := by decide +kernel
theorem dL_law_1080 : decode cL_law 1080 = .ok (.aload_n 1, 1) := by decide +kernel
theorem dL_law_1081 : decode cL_law 1081 = .ok (.aload_n 0, 1) := by decide +kernel
theorem dL_law_1082 : decode cL_law 1082 = .ok (.iload_n 3, 1) := by decide +kernel
theorem dL_law_1083 : decode cL_law 1083 = .ok (.iconst 1, 1) := by decide +kernel
theorem dL_law_1084 : decode cL_law 1084 = .ok (.iadd, 1) := by decide +kernel
theorem dL_law_1085 : decode cL_law 1085 = .ok (.iaload, 1) := by decide +kernel
theorem dL_law_1086 : decode cL_law 1086 = .ok (.invokevirtual 117, 3) := by decide +kernel
theorem dL_law_1089 : decode cL_law 1089 = .ok (.aload_n 2, 1) := by decide +kernel
theorem dL_law_1090 : decode cL_law 1090 = .ok (.aload_n 0, 1) := by decide +kernel
theorem dL_law_1091 : decode cL_law 1091 = .ok (.iload_n 3, 1) := by decide +kernel
theorem dL_law_1092 : decode cL_law 1092 = .ok (.iconst 1, 1) := by decide +kernel
theorem dL_law_1093 : decode cL_law 1093 = .ok (.iadd, 1) := by decide +kernel
theorem dL_law_1094 : decode cL_law 1094 = .ok (.iaload, 1) := by decide +kernel
theorem dL_law_1095 : decode cL_law 1095 = .ok (.invokevirtual 120, 3) := by decide +kernel
theorem dL_law_1098 : decode cL_law 1098 = .ok (.if_icmp .eq 354, 3) := by decide +kernel
theorem dL_law_1101 : decode cL_law 1101 = .ok (.iconst 0, 1) := by decide +kernel
theorem dL_law_1102 : decode cL_law 1102 = .ok (.ireturn, 1) := by decide +kernel
theorem dL_law_1103 : decode cL_law 1103 = .ok (.aload_n 1, 1) := by decide +kernel
theorem dL_law_1104 : decode cL_law 1104 = .ok (.aload_n 0, 1) := by decide +kernel
theorem dL_law_1105 : decode cL_law 1105 = .ok (.iload_n 3, 1) := by decide +kernel
theorem dL_law_1106 : decode cL_law 1106 = .ok (.iconst 1, 1) := by decide +kernel
theorem dL_law_1107 : decode cL_law 1107 = .ok (.iadd, 1) := by decide +kernel
theorem dL_law_1108 : decode cL_law 1108 = .ok (.iaload, 1) := by decide +kernel
theorem dL_law_1109 : decode cL_law 1109 = .ok (.aload_n 0, 1) := by decide +kernel
theorem dL_law_1110 : decode cL_law 1110 = .ok (.iload_n 3, 1) := by decide +kernel
theorem dL_law_1111 : decode cL_law 1111 = .ok (.iconst 2, 1) := by decide +kernel
theorem dL_law_1112 : decode cL_law 1112 = .ok (.iadd, 1) := by decide +kernel
theorem dL_law_1113 : decode cL_law 1113 = .ok (.iaload, 1) := by decide +kernel
theorem dL_law_1114 : decode cL_law 1114 = .ok (.invokevirtual 121, 3) := by decide +kernel
theorem dL_law_1117 : decode cL_law 1117 = .ok (.aload_n 2, 1) := by decide +kernel
theorem dL_law_1118 : decode cL_law 1118 = .ok (.aload_n 0, 1) := by decide +kernel
theorem dL_law_1119 : decode cL_law 1119 = .ok (.iload_n 3, 1) := by decide +kernel
theorem dL_law_1120 : decode cL_law 1120 = .ok (.iconst 1, 1) := by decide +kernel
theorem dL_law_1121 : decode cL_law 1121 = .ok (.iadd, 1) := by decide +kernel
theorem dL_law_1122 : decode cL_law 1122 = .ok (.iaload, 1) := by decide +kernel
theorem dL_law_1123 : decode cL_law 1123 = .ok (.aload_n 0, 1) := by decide +kernel
theorem dL_law_1124 : decode cL_law 1124 = .ok (.iload_n 3, 1) := by decide +kernel
theorem dL_law_1125 : decode cL_law 1125 = .ok (.iconst 2, 1) := by decide +kernel
theorem dL_law_1126 : decode cL_law 1126 = .ok (.iadd, 1) := by decide +kernel
theorem dL_law_1127 : decode cL_law 1127 = .ok (.iaload, 1) := by decide +kernel
theorem dL_law_1128 : decode cL_law 1128 = .ok (.invokevirtual 124, 3) := by decide +kernel
theorem dL_law_1131 : decode cL_law 1131 = .ok (.if_icmp .eq 321, 3) := by decide +kernel
theorem dL_law_1134 : decode cL_law 1134 = .ok (.iconst 0, 1) := by decide +kernel
theorem dL_law_1135 : decode cL_law 1135 = .ok (.ireturn, 1) := by decide +kernel
theorem dL_law_1136 : decode cL_law 1136 = .ok (.aload_n 1, 1) := by decide +kernel
theorem dL_law_1137 : decode cL_law 1137 = .ok (.aload_n 0, 1) := by decide +kernel
theorem dL_law_1138 : decode cL_law 1138 = .ok (.iload_n 3, 1) := by decide +kernel
theorem dL_law_1139 : decode cL_law 1139 = .ok (.iconst 1, 1) := by decide +kernel
theorem dL_law_1140 : decode cL_law 1140 = .ok (.iadd, 1) := by decide +kernel
theorem dL_law_1141 : decode cL_law 1141 = .ok (.iaload, 1) := by decide +kernel
theorem dL_law_1142 : decode cL_law 1142 = .ok (.invokevirtual 125, 3) := by decide +kernel
theorem dL_law_1145 : decode cL_law 1145 = .ok (.aload_n 2, 1) := by decide +kernel
theorem dL_law_1146 : decode cL_law 1146 = .ok (.aload_n 0, 1) := by decide +kernel
theorem dL_law_1147 : decode cL_law 1147 = .ok (.iload_n 3, 1) := by decide +kernel
theorem dL_law_1148 : decode cL_law 1148 = .ok (.iconst 1, 1) := by decide +kernel
theorem dL_law_1149 : decode cL_law 1149 = .ok (.iadd, 1) := by decide +kernel
theorem dL_law_1150 : decode cL_law 1150 = .ok (.iaload, 1) := by decide +kernel
theorem dL_law_1151 : decode cL_law 1151 = .ok (.invokevirtual 128, 3) := by decide +kernel
theorem dL_law_1154 : decode cL_law 1154 = .ok (.if_icmp .eq 298, 3) := by decide +kernel
theorem dL_law_1157 : decode cL_law 1157 = .ok (.iconst 0, 1) := by decide +kernel
theorem dL_law_1158 : decode cL_law 1158 = .ok (.ireturn, 1) := by decide +kernel
theorem dL_law_1159 : decode cL_law 1159 = .ok (.aload_n 1, 1) := by decide +kernel
theorem dL_law_1160 : decode cL_law 1160 = .ok (.aload_n 0, 1) := by decide +kernel
theorem dL_law_1161 : decode cL_law 1161 = .ok (.iload_n 3, 1) := by decide +kernel
theorem dL_law_1162 : decode cL_law 1162 = .ok (.iconst 1, 1) := by decide +kernel
theorem dL_law_1163 : decode cL_law 1163 = .ok (.iadd, 1) := by decide +kernel
theorem dL_law_1164 : decode cL_law 1164 = .ok (.iaload, 1) := by decide +kernel
theorem dL_law_1165 : decode cL_law 1165 = .ok (.invokevirtual 129, 3) := by decide +kernel
theorem dL_law_1168 : decode cL_law 1168 = .ok (.aload_n 2, 1) := by decide +kernel
theorem dL_law_1169 : decode cL_law 1169 = .ok (.aload_n 0, 1) := by decide +kernel
theorem dL_law_1170 : decode cL_law 1170 = .ok (.iload_n 3, 1) := by decide +kernel
theorem dL_law_1171 : decode cL_law 1171 = .ok (.iconst 1, 1) := by decide +kernel
theorem dL_law_1172 : decode cL_law 1172 = .ok (.iadd, 1) := by decide +kernel
theorem dL_law_1173 : decode cL_law 1173 = .ok (.iaload, 1) := by decide +kernel
theorem dL_law_1174 : decode cL_law 1174 = .ok (.invokevirtual 132, 3) := by decide +kernel
theorem dL_law_1177 : decode cL_law 1177 = .ok (.if_icmp .eq 275, 3) := by decide +kernel
theorem dL_law_1180 : decode cL_law 1180 = .ok (.iconst 0, 1) := by decide +kernel
theorem dL_law_1181 : decode cL_law 1181 = .ok (.ireturn, 1) := by decide +kernel
theorem dL_law_1182 : decode cL_law 1182 = .ok (.aload_n 1, 1) := by decide +kernel
theorem dL_law_1183 : decode cL_law 1183 = .ok (.aload_n 0, 1) := by decide +kernel
theorem dL_law_1184 : decode cL_law 1184 = .ok (.iload_n 3, 1) := by decide +kernel
theorem dL_law_1185 : decode cL_law 1185 = .ok (.iconst 1, 1) := by decide +kernel
theorem dL_law_1186 : decode cL_law 1186 = .ok (.iadd, 1) := by decide +kernel
theorem dL_law_1187 : decode cL_law 1187 = .ok (.iaload, 1) := by decide +kernel
theorem dL_law_1188 : decode cL_law 1188 = .ok (.aload_n 0, 1) := by decide +kernel
theorem dL_law_1189 : decode cL_law 1189 = .ok (.iload_n 3, 1) := by decide +kernel
theorem dL_law_1190 : decode cL_law 1190 = .ok (.iconst 2, 1) := by decide +kernel
theorem dL_law_1191 : decode cL_law 1191 = .ok (.iadd, 1) := by decide +kernel
theorem dL_law_1192 : decode cL_law 1192 = .ok (.iaload, 1) := by decide +kernel
theorem dL_law_1193 : decode cL_law 1193 = .ok (.invokevirtual 133, 3) := by decide +kernel
theorem dL_law_1196 : decode cL_law 1196 = .ok (.aload_n 2, 1) := by decide +kernel
theorem dL_law_1197 : decode cL_law 1197 = .ok (.aload_n 0, 1) := by decide +kernel
theorem dL_law_1198 : decode cL_law 1198 = .ok (.iload_n 3, 1) := by decide +kernel
theorem dL_law_1199 : decode cL_law 1199 = .ok (.iconst 1, 1) := by decide +kernel
theorem dL_law_1200 : decode cL_law 1200 = .ok (.iadd, 1) := by decide +kernel
theorem dL_law_1201 : decode cL_law 1201 = .ok (.iaload, 1) := by decide +kernel
theorem dL_law_1202 : decode cL_law 1202 = .ok (.aload_n 0, 1) := by decide +kernel
theorem dL_law_1203 : decode cL_law 1203 = .ok (.iload_n 3, 1) := by decide +kernel
theorem dL_law_1204 : decode cL_law 1204 = .ok (.iconst 2, 1) := by decide +kernel
theorem dL_law_1205 : decode cL_law 1205 = .ok (.iadd, 1) := by decide +kernel
theorem dL_law_1206 : decode cL_law 1206 = .ok (.iaload, 1) := by decide +kernel
theorem dL_law_1207 : decode cL_law 1207 = .ok (.invokevirtual 136, 3) := by decide +kernel
theorem dL_law_1210 : decode cL_law 1210 = .ok (.if_icmp .eq 242, 3) := by decide +kernel
theorem dL_law_1213 : decode cL_law 1213 = .ok (.iconst 0, 1) := by decide +kernel
theorem dL_law_1214 : decode cL_law 1214 = .ok (.ireturn, 1) := by decide +kernel
theorem dL_law_1215 : decode cL_law 1215 = .ok (.aload_n 1, 1) := by decide +kernel
theorem dL_law_1216 : decode cL_law 1216 = .ok (.aload_n 0, 1) := by decide +kernel
theorem dL_law_1217 : decode cL_law 1217 = .ok (.iload_n 3, 1) := by decide +kernel
theorem dL_law_1218 : decode cL_law 1218 = .ok (.iconst 1, 1) := by decide +kernel
theorem dL_law_1219 : decode cL_law 1219 = .ok (.iadd, 1) := by decide +kernel
theorem dL_law_1220 : decode cL_law 1220 = .ok (.iaload, 1) := by decide +kernel
theorem dL_law_1221 : decode cL_law 1221 = .ok (.aload_n 0, 1) := by decide +kernel
theorem dL_law_1222 : decode cL_law 1222 = .ok (.iload_n 3, 1) := by decide +kernel
theorem dL_law_1223 : decode cL_law 1223 = .ok (.iconst 2, 1) := by decide +kernel
theorem dL_law_1224 : decode cL_law 1224 = .ok (.iadd, 1) := by decide +kernel
theorem dL_law_1225 : decode cL_law 1225 = .ok (.iaload, 1) := by decide +kernel
theorem dL_law_1226 : decode cL_law 1226 = .ok (.aload_n 0, 1) := by decide +kernel
theorem dL_law_1227 : decode cL_law 1227 = .ok (.iload_n 3, 1) := by decide +kernel
theorem dL_law_1228 : decode cL_law 1228 = .ok (.iconst 3, 1) := by decide +kernel
theorem dL_law_1229 : decode cL_law 1229 = .ok (.iadd, 1) := by decide +kernel
theorem dL_law_1230 : decode cL_law 1230 = .ok (.iaload, 1) := by decide +kernel
theorem dL_law_1231 : decode cL_law 1231 = .ok (.invokevirtual 137, 3) := by decide +kernel
theorem dL_law_1234 : decode cL_law 1234 = .ok (.aload_n 2, 1) := by decide +kernel
theorem dL_law_1235 : decode cL_law 1235 = .ok (.aload_n 0, 1) := by decide +kernel
theorem dL_law_1236 : decode cL_law 1236 = .ok (.iload_n 3, 1) := by decide +kernel
theorem dL_law_1237 : decode cL_law 1237 = .ok (.iconst 1, 1) := by decide +kernel
theorem dL_law_1238 : decode cL_law 1238 = .ok (.iadd, 1) := by decide +kernel
theorem dL_law_1239 : decode cL_law 1239 = .ok (.iaload, 1) := by decide +kernel
theorem dL_law_1240 : decode cL_law 1240 = .ok (.aload_n 0, 1) := by decide +kernel
theorem dL_law_1241 : decode cL_law 1241 = .ok (.iload_n 3, 1) := by decide +kernel
theorem dL_law_1242 : decode cL_law 1242 = .ok (.iconst 2, 1) := by decide +kernel
theorem dL_law_1243 : decode cL_law 1243 = .ok (.iadd, 1) := by decide +kernel
theorem dL_law_1244 : decode cL_law 1244 = .ok (.iaload, 1) := by decide +kernel
theorem dL_law_1245 : decode cL_law 1245 = .ok (.aload_n 0, 1) := by decide +kernel
theorem dL_law_1246 : decode cL_law 1246 = .ok (.iload_n 3, 1) := by decide +kernel
theorem dL_law_1247 : decode cL_law 1247 = .ok (.iconst 3, 1) := by decide +kernel
theorem dL_law_1248 : decode cL_law 1248 = .ok (.iadd, 1) := by decide +kernel
theorem dL_law_1249 : decode cL_law 1249 = .ok (.iaload, 1) := by decide +kernel
theorem dL_law_1250 : decode cL_law 1250 = .ok (.invokevirtual 140, 3) := by decide +kernel
theorem dL_law_1253 : decode cL_law 1253 = .ok (.if_icmp .eq 199, 3) := by decide +kernel
theorem dL_law_1256 : decode cL_law 1256 = .ok (.iconst 0, 1) := by decide +kernel
theorem dL_law_1257 : decode cL_law 1257 = .ok (.ireturn, 1) := by decide +kernel
theorem dL_law_1258 : decode cL_law 1258 = .ok (.aload_n 1, 1) := by decide +kernel
theorem dL_law_1259 : decode cL_law 1259 = .ok (.aload_n 0, 1) := by decide +kernel
theorem dL_law_1260 : decode cL_law 1260 = .ok (.iload_n 3, 1) := by decide +kernel
theorem dL_law_1261 : decode cL_law 1261 = .ok (.iconst 1, 1) := by decide +kernel
theorem dL_law_1262 : decode cL_law 1262 = .ok (.iadd, 1) := by decide +kernel
theorem dL_law_1263 : decode cL_law 1263 = .ok (.iaload, 1) := by decide +kernel
theorem dL_law_1264 : decode cL_law 1264 = .ok (.aload_n 0, 1) := by decide +kernel
theorem dL_law_1265 : decode cL_law 1265 = .ok (.iload_n 3, 1) := by decide +kernel
theorem dL_law_1266 : decode cL_law 1266 = .ok (.iconst 2, 1) := by decide +kernel
theorem dL_law_1267 : decode cL_law 1267 = .ok (.iadd, 1) := by decide +kernel
theorem dL_law_1268 : decode cL_law 1268 = .ok (.iaload, 1) := by decide +kernel
theorem dL_law_1269 : decode cL_law 1269 = .ok (.invokevirtual 141, 3) := by decide +kernel
theorem dL_law_1272 : decode cL_law 1272 = .ok (.aload_n 2, 1) := by decide +kernel
theorem dL_law_1273 : decode cL_law 1273 = .ok (.aload_n 0, 1) := by decide +kernel
theorem dL_law_1274 : decode cL_law 1274 = .ok (.iload_n 3, 1) := by decide +kernel
theorem dL_law_1275 : decode cL_law 1275 = .ok (.iconst 1, 1) := by decide +kernel
theorem dL_law_1276 : decode cL_law 1276 = .ok (.iadd, 1) := by decide +kernel
theorem dL_law_1277 : decode cL_law 1277 = .ok (.iaload, 1) := by decide +kernel
theorem dL_law_1278 : decode cL_law 1278 = .ok (.aload_n 0, 1) := by decide +kernel
theorem dL_law_1279 : decode cL_law 1279 = .ok (.iload_n 3, 1) := by decide +kernel
theorem dL_law_1280 : decode cL_law 1280 = .ok (.iconst 2, 1) := by decide +kernel
theorem dL_law_1281 : decode cL_law 1281 = .ok (.iadd, 1) := by decide +kernel
theorem dL_law_1282 : decode cL_law 1282 = .ok (.iaload, 1) := by decide +kernel
theorem dL_law_1283 : decode cL_law 1283 = .ok (.invokevirtual 144, 3) := by decide +kernel
theorem dL_law_1286 : decode cL_law 1286 = .ok (.if_icmp .eq 166, 3) := by decide +kernel
theorem dL_law_1289 : decode cL_law 1289 = .ok (.iconst 0, 1) := by decide +kernel
theorem dL_law_1290 : decode cL_law 1290 = .ok (.ireturn, 1) := by decide +kernel
theorem dL_law_1291 : decode cL_law 1291 = .ok (.aload_n 1, 1) := by decide +kernel
theorem dL_law_1292 : decode cL_law 1292 = .ok (.aload_n 0, 1) := by decide +kernel
theorem dL_law_1293 : decode cL_law 1293 = .ok (.iload_n 3, 1) := by decide +kernel
theorem dL_law_1294 : decode cL_law 1294 = .ok (.iconst 1, 1) := by decide +kernel
theorem dL_law_1295 : decode cL_law 1295 = .ok (.iadd, 1) := by decide +kernel
theorem dL_law_1296 : decode cL_law 1296 = .ok (.iaload, 1) := by decide +kernel
theorem dL_law_1297 : decode cL_law 1297 = .ok (.invokevirtual 145, 3) := by decide +kernel
theorem dL_law_1300 : decode cL_law 1300 = .ok (.aload_n 2, 1) := by decide +kernel
theorem dL_law_1301 : decode cL_law 1301 = .ok (.aload_n 0, 1) := by decide +kernel
theorem dL_law_1302 : decode cL_law 1302 = .ok (.iload_n 3, 1) := by decide +kernel
theorem dL_law_1303 : decode cL_law 1303 = .ok (.iconst 1, 1) := by decide +kernel
theorem dL_law_1304 : decode cL_law 1304 = .ok (.iadd, 1) := by decide +kernel
theorem dL_law_1305 : decode cL_law 1305 = .ok (.iaload, 1) := by decide +kernel
theorem dL_law_1306 : decode cL_law 1306 = .ok (.invokevirtual 148, 3) := by decide +kernel
theorem dL_law_1309 : decode cL_law 1309 = .ok (.if_icmp .eq 143, 3) := by decide +kernel
theorem dL_law_1312 : decode cL_law 1312 = .ok (.iconst 0, 1) := by decide +kernel
theorem dL_law_1313 : decode cL_law 1313 = .ok (.ireturn, 1) := by decide +kernel
theorem dL_law_1314 : decode cL_law 1314 = .ok (.aload_n 1, 1) := by decide +kernel
theorem dL_law_1315 : decode cL_law 1315 = .ok (.aload_n 0, 1) := by decide +kernel
theorem dL_law_1316 : decode cL_law 1316 = .ok (.iload_n 3, 1) := by decide +kernel
theorem dL_law_1317 : decode cL_law 1317 = .ok (.iconst 1, 1) := by decide +kernel
theorem dL_law_1318 : decode cL_law 1318 = .ok (.iadd, 1) := by decide +kernel
theorem dL_law_1319 : decode cL_law 1319 = .ok (.iaload, 1) := by decide +kernel
theorem dL_law_1320 : decode cL_law 1320 = .ok (.invokevirtual 149, 3) := by decide +kernel
theorem dL_law_1323 : decode cL_law 1323 = .ok (.aload_n 2, 1) := by decide +kernel
theorem dL_law_1324 : decode cL_law 1324 = .ok (.aload_n 0, 1) := by decide +kernel
theorem dL_law_1325 : decode cL_law 1325 = .ok (.iload_n 3, 1) := by decide +kernel
theorem dL_law_1326 : decode cL_law 1326 = .ok (.iconst 1, 1) := by decide +kernel
theorem dL_law_1327 : decode cL_law 1327 = .ok (.iadd, 1) := by decide +kernel
theorem dL_law_1328 : decode cL_law 1328 = .ok (.iaload, 1) := by decide +kernel
theorem dL_law_1329 : decode cL_law 1329 = .ok (.invokevirtual 152, 3) := by decide +kernel
theorem dL_law_1332 : decode cL_law 1332 = .ok (.if_icmp .eq 120, 3) := by decide +kernel
theorem dL_law_1335 : decode cL_law 1335 = .ok (.iconst 0, 1) := by decide +kernel
theorem dL_law_1336 : decode cL_law 1336 = .ok (.ireturn, 1) := by decide +kernel
theorem dL_law_1337 : decode cL_law 1337 = .ok (.aload_n 1, 1) := by decide +kernel
theorem dL_law_1338 : decode cL_law 1338 = .ok (.aload_n 0, 1) := by decide +kernel
theorem dL_law_1339 : decode cL_law 1339 = .ok (.iload_n 3, 1) := by decide +kernel
theorem dL_law_1340 : decode cL_law 1340 = .ok (.iconst 1, 1) := by decide +kernel
theorem dL_law_1341 : decode cL_law 1341 = .ok (.iadd, 1) := by decide +kernel
theorem dL_law_1342 : decode cL_law 1342 = .ok (.iaload, 1) := by decide +kernel
theorem dL_law_1343 : decode cL_law 1343 = .ok (.aload_n 0, 1) := by decide +kernel
theorem dL_law_1344 : decode cL_law 1344 = .ok (.iload_n 3, 1) := by decide +kernel
theorem dL_law_1345 : decode cL_law 1345 = .ok (.iconst 2, 1) := by decide +kernel
theorem dL_law_1346 : decode cL_law 1346 = .ok (.iadd, 1) := by decide +kernel
theorem dL_law_1347 : decode cL_law 1347 = .ok (.iaload, 1) := by decide +kernel
theorem dL_law_1348 : decode cL_law 1348 = .ok (.aload_n 0, 1) := by decide +kernel
theorem dL_law_1349 : decode cL_law 1349 = .ok (.iload_n 3, 1) := by decide +kernel
theorem dL_law_1350 : decode cL_law 1350 = .ok (.iconst 3, 1) := by decide +kernel
theorem dL_law_1351 : decode cL_law 1351 = .ok (.iadd, 1) := by decide +kernel
theorem dL_law_1352 : decode cL_law 1352 = .ok (.iaload, 1) := by decide +kernel
theorem dL_law_1353 : decode cL_law 1353 = .ok (.invokevirtual 153, 3) := by decide +kernel
theorem dL_law_1356 : decode cL_law 1356 = .ok (.aload_n 2, 1) := by decide +kernel
theorem dL_law_1357 : decode cL_law 1357 = .ok (.aload_n 0, 1) := by decide +kernel
theorem dL_law_1358 : decode cL_law 1358 = .ok (.iload_n 3, 1) := by decide +kernel
theorem dL_law_1359 : decode cL_law 1359 = .ok (.iconst 1, 1) := by decide +kernel
theorem dL_law_1360 : decode cL_law 1360 = .ok (.iadd, 1) := by decide +kernel
theorem dL_law_1361 : decode cL_law 1361 = .ok (.iaload, 1) := by decide +kernel
theorem dL_law_1362 : decode cL_law 1362 = .ok (.aload_n 0, 1) := by decide +kernel
theorem dL_law_1363 : decode cL_law 1363 = .ok (.iload_n 3, 1) := by decide +kernel
theorem dL_law_1364 : decode cL_law 1364 = .ok (.iconst 2, 1) := by decide +kernel
theorem dL_law_1365 : decode cL_law 1365 = .ok (.iadd, 1) := by decide +kernel
theorem dL_law_1366 : decode cL_law 1366 = .ok (.iaload, 1) := by decide +kernel
theorem dL_law_1367 : decode cL_law 1367 = .ok (.aload_n 0, 1) := by decide +kernel
theorem dL_law_1368 : decode cL_law 1368 = .ok (.iload_n 3, 1) := by decide +kernel
theorem dL_law_1369 : decode cL_law 1369 = .ok (.iconst 3, 1) := by decide +kernel
theorem dL_law_1370 : decode cL_law 1370 = .ok (.iadd, 1) := by decide +kernel
theorem dL_law_1371 : decode cL_law 1371 = .ok (.iaload, 1) := by decide +kernel
theorem dL_law_1372 : decode cL_law 1372 = .ok (.invokevirtual 156, 3) := by decide +kernel
theorem dL_law_1375 : decode cL_law 1375 = .ok (.if_icmp .eq 77, 3) := by decide +kernel
theorem dL_law_1378 : decode cL_law 1378 = .ok (.iconst 0, 1) := by decide +kernel
theorem dL_law_1379 : decode cL_law 1379 = .ok (.ireturn, 1) := by decide +kernel
theorem dL_law_1380 : decode cL_law 1380 = .ok (.aload_n 1, 1) := by decide +kernel
theorem dL_law_1381 : decode cL_law 1381 = .ok (.aload_n 0, 1) := by decide +kernel
theorem dL_law_1382 : decode cL_law 1382 = .ok (.iload_n 3, 1) := by decide +kernel
theorem dL_law_1383 : decode cL_law 1383 = .ok (.iconst 1, 1) := by decide +kernel
theorem dL_law_1384 : decode cL_law 1384 = .ok (.iadd, 1) := by decide +kernel
theorem dL_law_1385 : decode cL_law 1385 = .ok (.iaload, 1) := by decide +kernel
theorem dL_law_1386 : decode cL_law 1386 = .ok (.invokevirtual 157, 3) := by decide +kernel
theorem dL_law_1389 : decode cL_law 1389 = .ok (.aload_n 2, 1) := by decide +kernel
theorem dL_law_1390 : decode cL_law 1390 = .ok (.aload_n 0, 1) := by decide +kernel
theorem dL_law_1391 : decode cL_law 1391 = .ok (.iload_n 3, 1) := by decide +kernel
theorem dL_law_1392 : decode cL_law 1392 = .ok (.iconst 1, 1) := by decide +kernel
theorem dL_law_1393 : decode cL_law 1393 = .ok (.iadd, 1) := by decide +kernel
theorem dL_law_1394 : decode cL_law 1394 = .ok (.iaload, 1) := by decide +kernel
theorem dL_law_1395 : decode cL_law 1395 = .ok (.invokevirtual 160, 3) := by decide +kernel
theorem dL_law_1398 : decode cL_law 1398 = .ok (.if_icmp .eq 54, 3) := by decide +kernel
theorem dL_law_1401 : decode cL_law 1401 = .ok (.iconst 0, 1) := by decide +kernel
theorem dL_law_1402 : decode cL_law 1402 = .ok (.ireturn, 1) := by decide +kernel
theorem dL_law_1403 : decode cL_law 1403 = .ok (.aload_n 1, 1) := by decide +kernel
theorem dL_law_1404 : decode cL_law 1404 = .ok (.invokevirtual 161, 3) := by decide +kernel
theorem dL_law_1407 : decode cL_law 1407 = .ok (.aload_n 2, 1) := by decide +kernel
theorem dL_law_1408 : decode cL_law 1408 = .ok (.invokevirtual 164, 3) := by decide +kernel
theorem dL_law_1411 : decode cL_law 1411 = .ok (.if_icmp .eq 41, 3) := by decide +kernel
theorem dL_law_1414 : decode cL_law 1414 = .ok (.iconst 0, 1) := by decide +kernel
theorem dL_law_1415 : decode cL_law 1415 = .ok (.ireturn, 1) := by decide +kernel
theorem dL_law_1416 : decode cL_law 1416 = .ok (.aload_n 1, 1) := by decide +kernel
theorem dL_law_1417 : decode cL_law 1417 = .ok (.invokevirtual 165, 3) := by decide +kernel
theorem dL_law_1420 : decode cL_law 1420 = .ok (.aload_n 2, 1) := by decide +kernel
theorem dL_law_1421 : decode cL_law 1421 = .ok (.invokevirtual 168, 3) := by decide +kernel
theorem dL_law_1424 : decode cL_law 1424 = .ok (.if_icmp .eq 28, 3) := by decide +kernel
theorem dL_law_1427 : decode cL_law 1427 = .ok (.iconst 0, 1) := by decide +kernel
theorem dL_law_1428 : decode cL_law 1428 = .ok (.ireturn, 1) := by decide +kernel
theorem dL_law_1429 : decode cL_law 1429 = .ok (.aload_n 1, 1) := by decide +kernel
theorem dL_law_1430 : decode cL_law 1430 = .ok (.aload_n 0, 1) := by decide +kernel
theorem dL_law_1431 : decode cL_law 1431 = .ok (.iload_n 3, 1) := by decide +kernel
theorem dL_law_1432 : decode cL_law 1432 = .ok (.iconst 1, 1) := by decide +kernel
theorem dL_law_1433 : decode cL_law 1433 = .ok (.iadd, 1) := by decide +kernel
theorem dL_law_1434 : decode cL_law 1434 = .ok (.iaload, 1) := by decide +kernel
theorem dL_law_1435 : decode cL_law 1435 = .ok (.invokevirtual 169, 3) := by decide +kernel
theorem dL_law_1438 : decode cL_law 1438 = .ok (.aload_n 2, 1) := by decide +kernel
theorem dL_law_1439 : decode cL_law 1439 = .ok (.aload_n 0, 1) := by decide +kernel
theorem dL_law_1440 : decode cL_law 1440 = .ok (.iload_n 3, 1) := by decide +kernel
theorem dL_law_1441 : decode cL_law 1441 = .ok (.iconst 1, 1) := by decide +kernel
theorem dL_law_1442 : decode cL_law 1442 = .ok (.iadd, 1) := by decide +kernel
theorem dL_law_1443 : decode cL_law 1443 = .ok (.iaload, 1) := by decide +kernel
theorem dL_law_1444 : decode cL_law 1444 = .ok (.invokevirtual 172, 3) := by decide +kernel
theorem dL_law_1447 : decode cL_law 1447 = .ok (.if_icmp .eq 5, 3) := by decide +kernel
theorem dL_law_1450 : decode cL_law 1450 = .ok (.iconst 0, 1) := by decide +kernel
theorem dL_law_1451 : decode cL_law 1451 = .ok (.ireturn, 1) := by decide +kernel
theorem dL_law_1452 : decode cL_law 1452 = .ok (.iinc 3 7, 3) := by decide +kernel
theorem dL_law_1455 : decode cL_law 1455 = .ok (.goto (-1437), 3) := by decide +kernel
theorem dL_law_1458 : decode cL_law 1458 = .ok (.iconst 1, 1) := by decide +kernel
theorem dL_law_1459 : decode cL_law 1459 = .ok (.ireturn, 1) := by decide +kernel
