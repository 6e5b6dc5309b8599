theorem dX8_init_41 : decode cX8_init 41 = .ok (.dup, 1) := by decide +kernel
theorem dX8_init_42 : decode cX8_init 42 = .ok (.invokespecial 24, 3) := by decide +kernel
theorem dX8_init_45 : decode cX8_init 45 = .ok (.putfield 25, 3) := by decide +kernel
theorem dX8_init_48 : decode cX8_init 48 = .ok (.aload_n 0, 1) := by decide +kernel
theorem dX8_init_49 : decode cX8_init 49 = .ok (.new 29, 3) := by decide +kernel
theorem dX8_init_52 : decode cX8_init 52 = .ok (.dup, 1) := by decide +kernel
theorem dX8_init_53 : decode cX8_init 53 = .ok (.invokespecial 31, 3) := by decide +kernel
theorem dX8_init_56 : decode cX8_init 56 = .ok (.putfield 32, 3) := by decide +kernel
theorem dX8_init_59 : decode cX8_init 59 = .ok (.aload_n 0, 1) := by decide +kernel
theorem dX8_init_60 : decode cX8_init 60 = .ok (.new 36, 3) := by decide +kernel
theorem dX8_init_63 : decode cX8_init 63 = .ok (.dup, 1) := by decide +kernel
theorem dX8_init_64 : decode cX8_init 64 = .ok (.invokespecial 38, 3) := by decide +kernel
theorem dX8_init_67 : decode cX8_init 67 = .ok (.putfield 39, 3) := by decide +kernel
theorem dX8_init_70 : decode cX8_init 70 = .ok (.aload_n 0, 1) := by decide +kernel
theorem dX8_init_71 : decode cX8_init 71 = .ok (.new 43, 3) := by decide +kernel
theorem dX8_init_74 : decode cX8_init 74 = .ok (.dup, 1) := by decide +kernel
theorem dX8_init_75 : decode cX8_init 75 = .ok (.invokespecial 45, 3) := by decide +kernel
theorem dX8_init_78 : decode cX8_init 78 = .ok (.putfield 46, 3) := by decide +kernel
theorem dX8_init_81 : decode cX8_init 81 = .ok (.aload_n 0, 1) := by decide +kernel
theorem dX8_init_82 : decode cX8_init 82 = .ok (.new 50, 3) := by decide +kernel
theorem dX8_init_85 : decode cX8_init 85 = .ok (.dup, 1) := by decide +kernel
theorem dX8_init_86 : decode cX8_init 86 = .ok (.invokespecial 52, 3) := by decide +kernel
theorem dX8_init_89 : decode cX8_init 89 = .ok (.putfield 53, 3) := by decide +kernel
theorem dX8_init_92 : decode cX8_init 92 = .ok (.aload_n 0, 1) := by decide +kernel
theorem dX8_init_93 : decode cX8_init 93 = .ok (.bipush 8, 2) := by decide +kernel
theorem dX8_init_95 : decode cX8_init 95 = .ok (.anewarray 57, 3) := by decide +kernel
theorem dX8_init_98 : decode cX8_init 98 = .ok (.putfield 59, 3) := by decide +kernel
theorem dX8_init_101 : decode cX8_init 101 = .ok (.aload_n 0, 1) := by decide +kernel
theorem dX8_init_102 : decode cX8_init 102 = .ok (.bipush 8, 2) := by decide +kernel
theorem dX8_init_104 : decode cX8_init 104 = .ok (.newarray .int, 2) := by decide +kernel
theorem dX8_init_106 : decode cX8_init 106 = .ok (.putfield 63, 3) := by decide +kernel
theorem dX8_init_109 : decode cX8_init 109 = .ok (.iconst 0, 1) := by decide +kernel
theorem dX8_init_110 : decode cX8_init 110 = .ok (.istore_n 1, 1) := by decide +kernel
theorem dX8_init_111 : decode cX8_init 111 = .ok (.iload_n 1, 1) := by decide +kernel
theorem dX8_init_112 : decode cX8_init 112 = .ok (.bipush 8, 2) := by decide +kernel
theorem dX8_init_114 : decode cX8_init 114 = .ok (.if_icmp .ge 22, 3) := by decide +kernel
theorem dX8_init_117 : decode cX8_init 117 = .ok (.aload_n 0, 1) := by decide +kernel
theorem dX8_init_118 : decode cX8_init 118 = .ok (.getfield 59, 3) := by decide +kernel
theorem dX8_init_121 : decode cX8_init 121 = .ok (.iload_n 1, 1) := by decide +kernel
theorem dX8_init_122 : decode cX8_init 122 = .ok (.new 57, 3) := by decide +kernel
theorem dX8_init_125 : decode cX8_init 125 = .ok (.dup, 1) := by decide +kernel
theorem dX8_init_126 : decode cX8_init 126 = .ok (.invokespecial 67, 3) := by decide +kernel
theorem dX8_init_129 : decode cX8_init 129 = .ok (.aastore, 1) := by decide +kernel
theorem dX8_init_130 : decode cX8_init 130 = .ok (.iinc 1 1, 3) := by decide +kernel
theorem dX8_init_133 : decode cX8_init 133 = .ok (.goto (-22), 3) := by decide +kernel
theorem dX8_init_136 : decode cX8_init 136 = .ok (.return_, 1) := by decide +kernel
theorem dX8_row_0 : decode cX8_row 0 = .ok (.iload_n 1, 1) := by decide +kernel
theorem dX8_row_1 : decode cX8_row 1 = .ok (.invokestatic 68, 3) := by decide +kernel
theorem dX8_row_4 : decode cX8_row 4 = .ok (.ifCond .ne 9, 3) := by decide +kernel
theorem dX8_row_7 : decode cX8_row 7 = .ok (.aload_n 0, 1) := by decide +kernel
theorem dX8_row_8 : decode cX8_row 8 = .ok (.iconst (-1), 1) := by decide +kernel
theorem dX8_row_9 : decode cX8_row 9 = .ok (.invokevirtual 72, 3) := by decide +kernel
theorem dX8_row_12 : decode cX8_row 12 = .ok (.ireturn, 1) := by decide +kernel
theorem dX8_row_13 : decode cX8_row 13 = .ok (.iload_n 3, 1) := by decide +kernel
theorem dX8_row_14 : decode cX8_row 14 = .ok (.ifCond .ge 10, 3) := by decide +kernel
theorem dX8_row_17 : decode cX8_row 17 = .ok (.aload_n 0, 1) := by decide +kernel
theorem dX8_row_18 : decode cX8_row 18 = .ok (.bipush (-4), 2) := by decide +kernel
theorem dX8_row_20 : decode cX8_row 20 = .ok (.invokevirtual 72, 3) := by decide +kernel
theorem dX8_row_23 : decode cX8_row 23 = .ok (.ireturn, 1) := by decide +kernel
theorem dX8_row_24 : decode cX8_row 24 = .ok (.iload_n 2, 1) := by decide +kernel
theorem dX8_row_25 : decode cX8_row 25 = .ok (.ifCond .lt 8, 3) := by decide +kernel
theorem dX8_row_28 : decode cX8_row 28 = .ok (.iload_n 2, 1) := by decide +kernel
theorem dX8_row_29 : decode cX8_row 29 = .ok (.iconst 4, 1) := by decide +kernel
theorem dX8_row_30 : decode cX8_row 30 = .ok (.if_icmp .lt 10, 3) := by decide +kernel
theorem dX8_row_33 : decode cX8_row 33 = .ok (.aload_n 0, 1) := by decide +kernel
theorem dX8_row_34 : decode cX8_row 34 = .ok (.bipush (-6), 2) := by decide +kernel
theorem dX8_row_36 : decode cX8_row 36 = .ok (.invokevirtual 72, 3) := by decide +kernel
theorem dX8_row_39 : decode cX8_row 39 = .ok (.ireturn, 1) := by decide +kernel
theorem dX8_row_40 : decode cX8_row 40 = .ok (.iload_n 3, 1) := by decide +kernel
theorem dX8_row_41 : decode cX8_row 41 = .ok (.sipush 160, 3) := by decide +kernel
theorem dX8_row_44 : decode cX8_row 44 = .ok (.if_icmp .le 10, 3) := by decide +kernel
theorem dX8_row_47 : decode cX8_row 47 = .ok (.aload_n 0, 1) := by decide +kernel
theorem dX8_row_48 : decode cX8_row 48 = .ok (.bipush (-7), 2) := by decide +kernel
theorem dX8_row_50 : decode cX8_row 50 = .ok (.invokevirtual 72, 3) := by decide +kernel
theorem dX8_row_53 : decode cX8_row 53 = .ok (.ireturn, 1) := by decide +kernel
theorem dX8_row_54 : decode cX8_row 54 = .ok (.aload_n 0, 1) := by decide +kernel
theorem dX8_row_55 : decode cX8_row 55 = .ok (.getfield 59, 3) := by decide +kernel
theorem dX8_row_58 : decode cX8_row 58 = .ok (.iload_n 1, 1) := by decide +kernel
theorem dX8_row_59 : decode cX8_row 59 = .ok (.aaload, 1) := by decide +kernel
theorem dX8_row_60 : decode cX8_row 60 = .ok (.iload_n 2, 1) := by decide +kernel
theorem dX8_row_61 : decode cX8_row 61 = .ok (.iload_n 3, 1) := by decide +kernel
theorem dX8_row_62 : decode cX8_row 62 = .ok (.invokevirtual 76, 3) := by decide +kernel
theorem dX8_row_65 : decode cX8_row 65 = .ok (.iconst 1, 1) := by decide +kernel
theorem dX8_row_66 : decode cX8_row 66 = .ok (.ireturn, 1) := by decide +kernel
theorem dX8_set_0 : decode cX8_set 0 = .ok (.aload_n 0, 1) := by decide +kernel
theorem dX8_set_1 : decode cX8_set 1 = .ok (.iload_n 1, 1) := by decide +kernel
theorem dX8_set_2 : decode cX8_set 2 = .ok (.invokevirtual 80, 3) := by decide +kernel
theorem dX8_set_5 : decode cX8_set 5 = .ok (.istore 5, 2) := by decide +kernel
theorem dX8_set_7 : decode cX8_set 7 = .ok (.iload 5, 2) := by decide +kernel
theorem dX8_set_9 : decode cX8_set 9 = .ok (.ifCond .eq 10, 3) := by decide +kernel
theorem dX8_set_12 : decode cX8_set 12 = .ok (.aload_n 0, 1) := by decide +kernel
theorem dX8_set_13 : decode cX8_set 13 = .ok (.iload 5, 2) := by decide +kernel
theorem dX8_set_15 : decode cX8_set 15 = .ok (.invokevirtual 72, 3) := by decide +kernel
theorem dX8_set_18 : decode cX8_set 18 = .ok (.ireturn, 1) := by decide +kernel
theorem dX8_set_19 : decode cX8_set 19 = .ok (.aload_n 0, 1) := by decide +kernel
theorem dX8_set_20 : decode cX8_set 20 = .ok (.getfield 59, 3) := by decide +kernel
theorem dX8_set_23 : decode cX8_set 23 = .ok (.iload_n 1, 1) := by decide +kernel
theorem dX8_set_24 : decode cX8_set 24 = .ok (.aaload, 1) := by decide +kernel
theorem dX8_set_25 : decode cX8_set 25 = .ok (.iload_n 2, 1) := by decide +kernel
theorem dX8_set_26 : decode cX8_set 26 = .ok (.invokevirtual 83, 3) := by decide +kernel
theorem dX8_set_29 : decode cX8_set 29 = .ok (.ifCond .ne 10, 3) := by decide +kernel
theorem dX8_set_32 : decode cX8_set 32 = .ok (.aload_n 0, 1) := by decide +kernel
theorem dX8_set_33 : decode cX8_set 33 = .ok (.bipush (-5), 2) := by decide +kernel
theorem dX8_set_35 : decode cX8_set 35 = .ok (.invokevirtual 72, 3) := by decide +kernel
theorem dX8_set_38 : decode cX8_set 38 = .ok (.ireturn, 1) := by decide +kernel
theorem dX8_set_39 : decode cX8_set 39 = .ok (.aload_n 0, 1) := by decide +kernel
theorem dX8_set_40 : decode cX8_set 40 = .ok (.getfield 59, 3) := by decide +kernel
theorem dX8_set_43 : decode cX8_set 43 = .ok (.iload_n 1, 1) := by decide +kernel
theorem dX8_set_44 : decode cX8_set 44 = .ok (.aaload, 1) := by decide +kernel
theorem dX8_set_45 : decode cX8_set 45 = .ok (.iload_n 2, 1) := by decide +kernel
theorem dX8_set_46 : decode cX8_set 46 = .ok (.lload_n 3, 1) := by decide +kernel
theorem dX8_set_47 : decode cX8_set 47 = .ok (.invokevirtual 86, 3) := by decide +kernel
theorem dX8_set_50 : decode cX8_set 50 = .ok (.iconst 1, 1) := by decide +kernel
theorem dX8_set_51 : decode cX8_set 51 = .ok (.ireturn, 1) := by decide +kernel
theorem dX8_copy_0 : decode cX8_copy 0 = .ok (.aload_n 0, 1) := by decide +kernel
theorem dX8_copy_1 : decode cX8_copy 1 = .ok (.iload_n 1, 1) := by decide +kernel
theorem dX8_copy_2 : decode cX8_copy 2 = .ok (.iload_n 2, 1) := by decide +kernel
theorem dX8_copy_3 : decode cX8_copy 3 = .ok (.invokevirtual 90, 3) := by decide +kernel
theorem dX8_copy_6 : decode cX8_copy 6 = .ok (.istore 6, 2) := by decide +kernel
theorem dX8_copy_8 : decode cX8_copy 8 = .ok (.iload 6, 2) := by decide +kernel
theorem dX8_copy_10 : decode cX8_copy 10 = .ok (.ifCond .eq 10, 3) := by decide +kernel
theorem dX8_copy_13 : decode cX8_copy 13 = .ok (.aload_n 0, 1) := by decide +kernel
theorem dX8_copy_14 : decode cX8_copy 14 = .ok (.iload 6, 2) := by decide +kernel
theorem dX8_copy_16 : decode cX8_copy 16 = .ok (.invokevirtual 72, 3) := by decide +kernel
theorem dX8_copy_19 : decode cX8_copy 19 = .ok (.ireturn, 1) := by decide +kernel
theorem dX8_copy_20 : decode cX8_copy 20 = .ok (.iload 5, 2) := by decide +kernel
theorem dX8_copy_22 : decode cX8_copy 22 = .ok (.ifCond .ge 10, 3) := by decide +kernel
theorem dX8_copy_25 : decode cX8_copy 25 = .ok (.aload_n 0, 1) := by decide +kernel
theorem dX8_copy_26 : decode cX8_copy 26 = .ok (.bipush (-4), 2) := by decide +kernel
theorem dX8_copy_28 : decode cX8_copy 28 = .ok (.invokevirtual 72, 3) := by decide +kernel
theorem dX8_copy_31 : decode cX8_copy 31 = .ok (.ireturn, 1) := by decide +kernel
theorem dX8_copy_32 : decode cX8_copy 32 = .ok (.aload_n 0, 1) := by decide +kernel
theorem dX8_copy_33 : decode cX8_copy 33 = .ok (.getfield 59, 3) := by decide +kernel
theorem dX8_copy_36 : decode cX8_copy 36 = .ok (.iload_n 1, 1) := by decide +kernel
theorem dX8_copy_37 : decode cX8_copy 37 = .ok (.aaload, 1) := by decide +kernel
theorem dX8_copy_38 : decode cX8_copy 38 = .ok (.iload_n 3, 1) := by decide +kernel
theorem dX8_copy_39 : decode cX8_copy 39 = .ok (.iload 5, 2) := by decide +kernel
theorem dX8_copy_41 : decode cX8_copy 41 = .ok (.invokevirtual 94, 3) := by decide +kernel
theorem dX8_copy_44 : decode cX8_copy 44 = .ok (.ifCond .eq 19, 3) := by decide +kernel
theorem dX8_copy_47 : decode cX8_copy 47 = .ok (.aload_n 0, 1) := by decide +kernel
theorem dX8_copy_48 : decode cX8_copy 48 = .ok (.getfield 59, 3) := by decide +kernel
theorem dX8_copy_51 : decode cX8_copy 51 = .ok (.iload_n 2, 1) := by decide +kernel
theorem dX8_copy_52 : decode cX8_copy 52 = .ok (.aaload, 1) := by decide +kernel
theorem dX8_copy_53 : decode cX8_copy 53 = .ok (.iload 4, 2) := by decide +kernel
theorem dX8_copy_55 : decode cX8_copy 55 = .ok (.iload 5, 2) := by decide +kernel
theorem dX8_copy_57 : decode cX8_copy 57 = .ok (.invokevirtual 94, 3) := by decide +kernel
theorem dX8_copy_60 : decode cX8_copy 60 = .ok (.ifCond .ne 10, 3) := by decide +kernel
theorem dX8_copy_63 : decode cX8_copy 63 = .ok (.aload_n 0, 1) := by decide +kernel
theorem dX8_copy_64 : decode cX8_copy 64 = .ok (.bipush (-5), 2) := by decide +kernel
theorem dX8_copy_66 : decode cX8_copy 66 = .ok (.invokevirtual 72, 3) := by decide +kernel
theorem dX8_copy_69 : decode cX8_copy 69 = .ok (.ireturn, 1) := by decide +kernel
theorem dX8_copy_70 : decode cX8_copy 70 = .ok (.aload_n 0, 1) := by decide +kernel
theorem dX8_copy_71 : decode cX8_copy 71 = .ok (.getfield 59, 3) := by decide +kernel
theorem dX8_copy_74 : decode cX8_copy 74 = .ok (.iload_n 1, 1) := by decide +kernel
theorem dX8_copy_75 : decode cX8_copy 75 = .ok (.aaload, 1) := by decide +kernel
theorem dX8_copy_76 : decode cX8_copy 76 = .ok (.getfield 98, 3) := by decide +kernel
theorem dX8_copy_79 : decode cX8_copy 79 = .ok (.iload_n 3, 1) := by decide +kernel
theorem dX8_copy_80 : decode cX8_copy 80 = .ok (.aload_n 0, 1) := by decide +kernel
theorem dX8_copy_81 : decode cX8_copy 81 = .ok (.getfield 59, 3) := by decide +kernel
theorem dX8_copy_84 : decode cX8_copy 84 = .ok (.iload_n 2, 1) := by decide +kernel
theorem dX8_copy_85 : decode cX8_copy 85 = .ok (.aaload, 1) := by decide +kernel
theorem dX8_copy_86 : decode cX8_copy 86 = .ok (.getfield 98, 3) := by decide +kernel
theorem dX8_copy_89 : decode cX8_copy 89 = .ok (.iload 4, 2) := by decide +kernel
theorem dX8_copy_91 : decode cX8_copy 91 = .ok (.iload 5, 2) := by decide +kernel
theorem dX8_copy_93 : decode cX8_copy 93 = .ok (.invokestatic 102, 3) := by decide +kernel
theorem dX8_copy_96 : decode cX8_copy 96 = .ok (.iconst 1, 1) := by decide +kernel
theorem dX8_copy_97 : decode cX8_copy 97 = .ok (.ireturn, 1) := by decide +kernel
theorem dX8_element_0 : decode cX8_element 0 = .ok (.iload_n 1, 1) := by decide +kernel
theorem dX8_element_1 : decode cX8_element 1 = .ok (.invokestatic 68, 3) := by decide +kernel
theorem dX8_element_4 : decode cX8_element 4 = .ok (.ifCond .eq 16, 3) := by decide +kernel
theorem dX8_element_7 : decode cX8_element 7 = .ok (.aload_n 0, 1) := by decide +kernel
theorem dX8_element_8 : decode cX8_element 8 = .ok (.getfield 59, 3) := by decide +kernel
theorem dX8_element_11 : decode cX8_element 11 = .ok (.iload_n 1, 1) := by decide +kernel
theorem dX8_element_12 : decode cX8_element 12 = .ok (.aaload, 1) := by decide +kernel
theorem dX8_element_13 : decode cX8_element 13 = .ok (.iload_n 2, 1) := by decide +kernel
theorem dX8_element_14 : decode cX8_element 14 = .ok (.invokevirtual 83, 3) := by decide +kernel
theorem dX8_element_17 : decode cX8_element 17 = .ok (.ifCond .ne 5, 3) := by decide +kernel
theorem dX8_element_20 : decode cX8_element 20 = .ok (.lconst 0, 1) := by decide +kernel
theorem dX8_element_21 : decode cX8_element 21 = .ok (.lreturn, 1) := by decide +kernel
theorem dX8_element_22 : decode cX8_element 22 = .ok (.aload_n 0, 1) := by decide +kernel
theorem dX8_element_23 : decode cX8_element 23 = .ok (.getfield 59, 3) := by decide +kernel
theorem dX8_element_26 : decode cX8_element 26 = .ok (.iload_n 1, 1) := by decide +kernel
theorem dX8_element_27 : decode cX8_element 27 = .ok (.aaload, 1) := by decide +kernel
theorem dX8_element_28 : decode cX8_element 28 = .ok (.getfield 98, 3) := by decide +kernel
theorem dX8_element_31 : decode cX8_element 31 = .ok (.iload_n 2, 1) := by decide +kernel
theorem dX8_element_32 : decode cX8_element 32 = .ok (.laload, 1) := by decide +kernel
theorem dX8_element_33 : decode cX8_element 33 = .ok (.lreturn, 1) := by decide +kernel
theorem dX8_show_0 : decode cX8_show 0 = .ok (.iload_n 1, 1) := by decide +kernel
theorem dX8_show_1 : decode cX8_show 1 = .ok (.invokestatic 68, 3) := by decide +kernel
theorem dX8_show_4 : decode cX8_show 4 = .ok (.ifCond .eq 16, 3) := by decide +kernel
theorem dX8_show_7 : decode cX8_show 7 = .ok (.iload_n 2, 1) := by decide +kernel
theorem dX8_show_8 : decode cX8_show 8 = .ok (.iconst (-1), 1) := by decide +kernel
theorem dX8_show_9 : decode cX8_show 9 = .ok (.if_icmp .eq 17, 3) := by decide +kernel
theorem dX8_show_12 : decode cX8_show 12 = .ok (.aload_n 0, 1) := by decide +kernel
theorem dX8_show_13 : decode cX8_show 13 = .ok (.iload_n 2, 1) := by decide +kernel
theorem dX8_show_14 : decode cX8_show 14 = .ok (.invokevirtual 108, 3) := by decide +kernel
theorem dX8_show_17 : decode cX8_show 17 = .ok (.ifCond .ne 9, 3) := by decide +kernel
theorem dX8_show_20 : decode cX8_show 20 = .ok (.aload_n 0, 1) := by decide +kernel
theorem dX8_show_21 : decode cX8_show 21 = .ok (.iconst (-1), 1) := by decide +kernel
theorem dX8_show_22 : decode cX8_show 22 = .ok (.invokevirtual 72, 3) := by decide +kernel
theorem dX8_show_25 : decode cX8_show 25 = .ok (.ireturn, 1) := by decide +kernel
theorem dX8_show_26 : decode cX8_show 26 = .ok (.iload_n 2, 1) := by decide +kernel
theorem dX8_show_27 : decode cX8_show 27 = .ok (.iconst (-1), 1) := by decide +kernel
theorem dX8_show_28 : decode cX8_show 28 = .ok (.if_icmp .ne 14, 3) := by decide +kernel
theorem dX8_show_31 : decode cX8_show 31 = .ok (.aload_n 0, 1) := by decide +kernel
theorem dX8_show_32 : decode cX8_show 32 = .ok (.getfield 59, 3) := by decide +kernel
theorem dX8_show_35 : decode cX8_show 35 = .ok (.iload_n 1, 1) := by decide +kernel
theorem dX8_show_36 : decode cX8_show 36 = .ok (.aaload, 1) := by decide +kernel
theorem dX8_show_37 : decode cX8_show 37 = .ok (.invokevirtual 111, 3) := by decide +kernel
theorem dX8_show_40 : decode cX8_show 40 = .ok (.iconst 0, 1) := by decide +kernel
theorem dX8_show_41 : decode cX8_show 41 = .ok (.ireturn, 1) := by decide +kernel
theorem dX8_show_42 : decode cX8_show 42 = .ok (.aload_n 0, 1) := by decide +kernel
theorem dX8_show_43 : decode cX8_show 43 = .ok (.getfield 59, 3) := by decide +kernel
theorem dX8_show_46 : decode cX8_show 46 = .ok (.iload_n 1, 1) := by decide +kernel
theorem dX8_show_47 : decode cX8_show 47 = .ok (.aaload, 1) := by decide +kernel
theorem dX8_show_48 : decode cX8_show 48 = .ok (.iload_n 2, 1) := by decide +kernel
theorem dX8_show_49 : decode cX8_show 49 = .ok (.invokevirtual 114, 3) := by decide +kernel
theorem dX8_show_52 : decode cX8_show 52 = .ok (.iconst 1, 1) := by decide +kernel
theorem dX8_show_53 : decode cX8_show 53 = .ok (.ireturn, 1) := by decide +kernel
theorem dX8_holds_0 : decode cX8_holds 0 = .ok (.iload_n 1, 1) := by decide +kernel
theorem dX8_holds_1 : decode cX8_holds 1 = .ok (.invokestatic 68, 3) := by decide +kernel
theorem dX8_holds_4 : decode cX8_holds 4 = .ok (.ifCond .eq 15, 3) := by decide +kernel
theorem dX8_holds_7 : decode cX8_holds 7 = .ok (.aload_n 0, 1) := by decide +kernel
theorem dX8_holds_8 : decode cX8_holds 8 = .ok (.getfield 59, 3) := by decide +kernel
theorem dX8_holds_11 : decode cX8_holds 11 = .ok (.iload_n 1, 1) := by decide +kernel
theorem dX8_holds_12 : decode cX8_holds 12 = .ok (.aaload, 1) := by decide +kernel
theorem dX8_holds_13 : decode cX8_holds 13 = .ok (.invokevirtual 118, 3) := by decide +kernel
theorem dX8_holds_16 : decode cX8_holds 16 = .ok (.goto 4, 3) := by decide +kernel
theorem dX8_holds_19 : decode cX8_holds 19 = .ok (.iconst (-1), 1) := by decide +kernel
theorem dX8_holds_20 : decode cX8_holds 20 = .ok (.ireturn, 1) := by decide +kernel
theorem dX8_says_0 : decode cX8_says 0 = .ok (.iload_n 1, 1) := by decide +kernel
theorem dX8_says_1 : decode cX8_says 1 = .ok (.invokestatic 68, 3) := by decide +kernel
theorem dX8_says_4 : decode cX8_says 4 = .ok (.ifCond .eq 10, 3) := by decide +kernel
theorem dX8_says_7 : decode cX8_says 7 = .ok (.iload_n 2, 1) := by decide +kernel
theorem dX8_says_8 : decode cX8_says 8 = .ok (.invokestatic 122, 3) := by decide +kernel
theorem dX8_says_11 : decode cX8_says 11 = .ok (.ifCond .ne 9, 3) := by decide +kernel
theorem dX8_says_14 : decode cX8_says 14 = .ok (.aload_n 0, 1) := by decide +kernel
theorem dX8_says_15 : decode cX8_says 15 = .ok (.iconst (-1), 1) := by decide +kernel
theorem dX8_says_16 : decode cX8_says 16 = .ok (.invokevirtual 72, 3) := by decide +kernel
theorem dX8_says_19 : decode cX8_says 19 = .ok (.ireturn, 1) := by decide +kernel
theorem dX8_says_20 : decode cX8_says 20 = .ok (.aload_n 0, 1) := by decide +kernel
theorem dX8_says_21 : decode cX8_says 21 = .ok (.getfield 59, 3) := by decide +kernel
theorem dX8_says_24 : decode cX8_says 24 = .ok (.iload_n 1, 1) := by decide +kernel
theorem dX8_says_25 : decode cX8_says 25 = .ok (.aaload, 1) := by decide +kernel
theorem dX8_says_26 : decode cX8_says 26 = .ok (.invokevirtual 125, 3) := by decide +kernel
theorem dX8_says_29 : decode cX8_says 29 = .ok (.ifCond .eq 10, 3) := by decide +kernel
theorem dX8_says_32 : decode cX8_says 32 = .ok (.aload_n 0, 1) := by decide +kernel
theorem dX8_says_33 : decode cX8_says 33 = .ok (.bipush (-2), 2) := by decide +kernel
theorem dX8_says_35 : decode cX8_says 35 = .ok (.invokevirtual 72, 3) := by decide +kernel
theorem dX8_says_38 : decode cX8_says 38 = .ok (.ireturn, 1) := by decide +kernel
theorem dX8_says_39 : decode cX8_says 39 = .ok (.aload_n 0, 1) := by decide +kernel
theorem dX8_says_40 : decode cX8_says 40 = .ok (.getfield 59, 3) := by decide +kernel
theorem dX8_says_43 : decode cX8_says 43 = .ok (.iload_n 1, 1) := by decide +kernel
theorem dX8_says_44 : decode cX8_says 44 = .ok (.aaload, 1) := by decide +kernel
theorem dX8_says_45 : decode cX8_says 45 = .ok (.invokevirtual 129, 3) := by decide +kernel
theorem dX8_says_48 : decode cX8_says 48 = .ok (.ifCond .ne 10, 3) := by decide +kernel
theorem dX8_says_51 : decode cX8_says 51 = .ok (.aload_n 0, 1) := by decide +kernel
theorem dX8_says_52 : decode cX8_says 52 = .ok (.bipush (-3), 2) := by decide +kernel
theorem dX8_says_54 : decode cX8_says 54 = .ok (.invokevirtual 72, 3) := by decide +kernel
theorem dX8_says_57 : decode cX8_says 57 = .ok (.ireturn, 1) := by decide +kernel
theorem dX8_says_58 : decode cX8_says 58 = .ok (.aload_n 0, 1) := by decide +kernel
theorem dX8_says_59 : decode cX8_says 59 = .ok (.getfield 10, 3) := by decide +kernel
theorem dX8_says_62 : decode cX8_says 62 = .ok (.getfield 131, 3) := by decide +kernel
theorem dX8_says_65 : decode cX8_says 65 = .ok (.aload_n 0, 1) := by decide +kernel
theorem dX8_says_66 : decode cX8_says 66 = .ok (.getfield 59, 3) := by decide +kernel
theorem dX8_says_69 : decode cX8_says 69 = .ok (.iload_n 1, 1) := by decide +kernel
theorem dX8_says_70 : decode cX8_says 70 = .ok (.aaload, 1) := by decide +kernel
theorem dX8_says_71 : decode cX8_says 71 = .ok (.getfield 135, 3) := by decide +kernel
theorem dX8_says_74 : decode cX8_says 74 = .ok (.aaload, 1) := by decide +kernel
theorem dX8_says_75 : decode cX8_says 75 = .ok (.astore_n 3, 1) := by decide +kernel
theorem dX8_says_76 : decode cX8_says 76 = .ok (.aload_n 3, 1) := by decide +kernel
theorem dX8_says_77 : decode cX8_says 77 = .ok (.iload_n 2, 1) := by decide +kernel
theorem dX8_says_78 : decode cX8_says 78 = .ok (.invokevirtual 139, 3) := by decide +kernel
theorem dX8_says_81 : decode cX8_says 81 = .ok (.ifCond .ne 10, 3) := by decide +kernel
theorem dX8_says_84 : decode cX8_says 84 = .ok (.aload_n 0, 1) := by decide +kernel
theorem dX8_says_85 : decode cX8_says 85 = .ok (.bipush (-2), 2) := by decide +kernel
theorem dX8_says_87 : decode cX8_says 87 = .ok (.invokevirtual 72, 3) := by decide +kernel
theorem dX8_says_90 : decode cX8_says 90 = .ok (.ireturn, 1) := by decide +kernel
theorem dX8_says_91 : decode cX8_says 91 = .ok (.aload_n 0, 1) := by decide +kernel
theorem dX8_says_92 : decode cX8_says 92 = .ok (.aload_n 3, 1) := by decide +kernel
theorem dX8_says_93 : decode cX8_says 93 = .ok (.iload_n 2, 1) := by decide +kernel
theorem dX8_says_94 : decode cX8_says 94 = .ok (.invokevirtual 144, 3) := by decide +kernel
theorem dX8_says_97 : decode cX8_says 97 = .ok (.ireturn, 1) := by decide +kernel
theorem dX8_person_0 : decode cX8_person 0 = .ok (.iload_n 1, 1) := by decide +kernel
theorem dX8_person_1 : decode cX8_person 1 = .ok (.invokestatic 122, 3) := by decide +kernel
theorem dX8_person_4 : decode cX8_person 4 = .ok (.ifCond .ne 9, 3) := by decide +kernel
theorem dX8_person_7 : decode cX8_person 7 = .ok (.aload_n 0, 1) := by decide +kernel
theorem dX8_person_8 : decode cX8_person 8 = .ok (.iconst (-1), 1) := by decide +kernel
theorem dX8_person_9 : decode cX8_person 9 = .ok (.invokevirtual 72, 3) := by decide +kernel
theorem dX8_person_12 : decode cX8_person 12 = .ok (.ireturn, 1) := by decide +kernel
theorem dX8_person_13 : decode cX8_person 13 = .ok (.iload_n 2, 1) := by decide +kernel
theorem dX8_person_14 : decode cX8_person 14 = .ok (.bipush 9, 2) := by decide +kernel
theorem dX8_person_16 : decode cX8_person 16 = .ok (.invokestatic 148, 3) := by decide +kernel
theorem dX8_person_19 : decode cX8_person 19 = .ok (.ifCond .eq 45, 3) := by decide +kernel
theorem dX8_person_22 : decode cX8_person 22 = .ok (.iload_n 3, 1) := by decide +kernel
theorem dX8_person_23 : decode cX8_person 23 = .ok (.bipush 20, 2) := by decide +kernel
theorem dX8_person_25 : decode cX8_person 25 = .ok (.invokestatic 148, 3) := by decide +kernel
theorem dX8_person_28 : decode cX8_person 28 = .ok (.ifCond .eq 36, 3) := by decide +kernel
theorem dX8_person_31 : decode cX8_person 31 = .ok (.iload 4, 2) := by decide +kernel
theorem dX8_person_33 : decode cX8_person 33 = .ok (.bipush 9, 2) := by decide +kernel
theorem dX8_person_35 : decode cX8_person 35 = .ok (.invokestatic 148, 3) := by decide +kernel
theorem dX8_person_38 : decode cX8_person 38 = .ok (.ifCond .eq 26, 3) := by decide +kernel
theorem dX8_person_41 : decode cX8_person 41 = .ok (.iload 5, 2) := by decide +kernel
theorem dX8_person_43 : decode cX8_person 43 = .ok (.sipush 9999, 3) := by decide +kernel
theorem dX8_person_46 : decode cX8_person 46 = .ok (.invokestatic 148, 3) := by decide +kernel
theorem dX8_person_49 : decode cX8_person 49 = .ok (.ifCond .eq 15, 3) := by decide +kernel
theorem dX8_person_52 : decode cX8_person 52 = .ok (.aload_n 0, 1) := by decide +kernel
theorem dX8_person_53 : decode cX8_person 53 = .ok (.getfield 10, 3) := by decide +kernel
theorem dX8_person_56 : decode cX8_person 56 = .ok (.iload 6, 2) := by decide +kernel
theorem dX8_person_58 : decode cX8_person 58 = .ok (.invokevirtual 151, 3) := by decide +kernel
theorem dX8_person_61 : decode cX8_person 61 = .ok (.ifCond .ne 10, 3) := by decide +kernel
theorem dX8_person_64 : decode cX8_person 64 = .ok (.aload_n 0, 1) := by decide +kernel
theorem dX8_person_65 : decode cX8_person 65 = .ok (.bipush (-6), 2) := by decide +kernel
theorem dX8_person_67 : decode cX8_person 67 = .ok (.invokevirtual 72, 3) := by decide +kernel
theorem dX8_person_70 : decode cX8_person 70 = .ok (.ireturn, 1) := by decide +kernel
theorem dX8_person_71 : decode cX8_person 71 = .ok (.aload_n 0, 1) := by decide +kernel
theorem dX8_person_72 : decode cX8_person 72 = .ok (.getfield 10, 3) := by decide +kernel
theorem dX8_person_75 : decode cX8_person 75 = .ok (.invokevirtual 154, 3) := by decide +kernel
theorem dX8_person_78 : decode cX8_person 78 = .ok (.ifCond .ne 10, 3) := by decide +kernel
theorem dX8_person_81 : decode cX8_person 81 = .ok (.aload_n 0, 1) := by decide +kernel
theorem dX8_person_82 : decode cX8_person 82 = .ok (.bipush (-7), 2) := by decide +kernel
theorem dX8_person_84 : decode cX8_person 84 = .ok (.invokevirtual 72, 3) := by decide +kernel
theorem dX8_person_87 : decode cX8_person 87 = .ok (.ireturn, 1) := by decide +kernel
theorem dX8_person_88 : decode cX8_person 88 = .ok (.aload_n 0, 1) := by decide +kernel
theorem dX8_person_89 : decode cX8_person 89 = .ok (.getfield 10, 3) := by decide +kernel
theorem dX8_person_92 : decode cX8_person 92 = .ok (.getfield 131, 3) := by decide +kernel
theorem dX8_person_95 : decode cX8_person 95 = .ok (.aload_n 0, 1) := by decide +kernel
theorem dX8_person_96 : decode cX8_person 96 = .ok (.getfield 10, 3) := by decide +kernel
theorem dX8_person_99 : decode cX8_person 99 = .ok (.getfield 157, 3) := by decide +kernel
theorem dX8_person_102 : decode cX8_person 102 = .ok (.aaload, 1) := by decide +kernel
theorem dX8_person_103 : decode cX8_person 103 = .ok (.astore 7, 2) := by decide +kernel
theorem dX8_person_105 : decode cX8_person 105 = .ok (.aload 7, 2) := by decide +kernel
theorem dX8_person_107 : decode cX8_person 107 = .ok (.iload_n 1, 1) := by decide +kernel
theorem dX8_person_108 : decode cX8_person 108 = .ok (.iload_n 2, 1) := by decide +kernel
theorem dX8_person_109 : decode cX8_person 109 = .ok (.iload_n 3, 1) := by decide +kernel
theorem dX8_person_110 : decode cX8_person 110 = .ok (.invokevirtual 160, 3) := by decide +kernel
theorem dX8_person_113 : decode cX8_person 113 = .ok (.aload 7, 2) := by decide +kernel
theorem dX8_person_115 : decode cX8_person 115 = .ok (.iload 4, 2) := by decide +kernel
theorem dX8_person_117 : decode cX8_person 117 = .ok (.iload 5, 2) := by decide +kernel
theorem dX8_person_119 : decode cX8_person 119 = .ok (.iload 6, 2) := by decide +kernel
theorem dX8_person_121 : decode cX8_person 121 = .ok (.invokevirtual 164, 3) := by decide +kernel
theorem dX8_person_124 : decode cX8_person 124 = .ok (.aload_n 0, 1) := by decide +kernel
theorem dX8_person_125 : decode cX8_person 125 = .ok (.getfield 10, 3) := by decide +kernel
theorem dX8_person_128 : decode cX8_person 128 = .ok (.dup, 1) := by decide +kernel
theorem dX8_person_129 : decode cX8_person 129 = .ok (.getfield 157, 3) := by decide +kernel
theorem dX8_person_132 : decode cX8_person 132 = .ok (.iconst 1, 1) := by decide +kernel
theorem dX8_person_133 : decode cX8_person 133 = .ok (.iadd, 1) := by decide +kernel
theorem dX8_person_134 : decode cX8_person 134 = .ok (.putfield 157, 3) := by decide +kernel
theorem dX8_person_137 : decode cX8_person 137 = .ok (.aload_n 0, 1) := by decide +kernel
theorem dX8_person_138 : decode cX8_person 138 = .ok (.getfield 10, 3) := by decide +kernel
theorem dX8_person_141 : decode cX8_person 141 = .ok (.getfield 157, 3) := by decide +kernel
theorem dX8_person_144 : decode cX8_person 144 = .ok (.iconst 1, 1) := by decide +kernel
theorem dX8_person_145 : decode cX8_person 145 = .ok (.isub, 1) := by decide +kernel
theorem dX8_person_146 : decode cX8_person 146 = .ok (.ireturn, 1) := by decide +kernel
theorem dX8_build_0 : decode cX8_build 0 = .ok (.iload_n 1, 1) := by decide +kernel
theorem dX8_build_1 : decode cX8_build 1 = .ok (.invokestatic 167, 3) := by decide +kernel
theorem dX8_build_4 : decode cX8_build 4 = .ok (.ifCond .eq 11, 3) := by decide +kernel
theorem dX8_build_7 : decode cX8_build 7 = .ok (.iload_n 2, 1) := by decide +kernel
theorem dX8_build_8 : decode cX8_build 8 = .ok (.iconst 1, 1) := by decide +kernel
theorem dX8_build_9 : decode cX8_build 9 = .ok (.invokestatic 148, 3) := by decide +kernel
theorem dX8_build_12 : decode cX8_build 12 = .ok (.ifCond .ne 10, 3) := by decide +kernel
theorem dX8_build_15 : decode cX8_build 15 = .ok (.aload_n 0, 1) := by decide +kernel
theorem dX8_build_16 : decode cX8_build 16 = .ok (.bipush (-6), 2) := by decide +kernel
theorem dX8_build_18 : decode cX8_build 18 = .ok (.invokevirtual 72, 3) := by decide +kernel
theorem dX8_build_21 : decode cX8_build 21 = .ok (.ireturn, 1) := by decide +kernel
theorem dX8_build_22 : decode cX8_build 22 = .ok (.iload_n 2, 1) := by decide +kernel
theorem dX8_build_23 : decode cX8_build 23 = .ok (.iconst 1, 1) := by decide +kernel
theorem dX8_build_24 : decode cX8_build 24 = .ok (.if_icmp .ne 28, 3) := by decide +kernel
theorem dX8_build_27 : decode cX8_build 27 = .ok (.aload_n 0, 1) := by decide +kernel
theorem dX8_build_28 : decode cX8_build 28 = .ok (.getfield 10, 3) := by decide +kernel
theorem dX8_build_31 : decode cX8_build 31 = .ok (.iload_n 1, 1) := by decide +kernel
theorem dX8_build_32 : decode cX8_build 32 = .ok (.invokevirtual 170, 3) := by decide +kernel
theorem dX8_build_35 : decode cX8_build 35 = .ok (.istore 4, 2) := by decide +kernel
theorem dX8_build_37 : decode cX8_build 37 = .ok (.aload_n 0, 1) := by decide +kernel
theorem dX8_build_38 : decode cX8_build 38 = .ok (.getfield 10, 3) := by decide +kernel
theorem dX8_build_41 : decode cX8_build 41 = .ok (.iload_n 1, 1) := by decide +kernel
theorem dX8_build_42 : decode cX8_build 42 = .ok (.iload_n 3, 1) := by decide +kernel
theorem dX8_build_43 : decode cX8_build 43 = .ok (.invokevirtual 173, 3) := by decide +kernel
theorem dX8_build_46 : decode cX8_build 46 = .ok (.iload 4, 2) := by decide +kernel
theorem dX8_build_48 : decode cX8_build 48 = .ok (.invokestatic 177, 3) := by decide +kernel
theorem dX8_build_51 : decode cX8_build 51 = .ok (.ireturn, 1) := by decide +kernel
theorem dX8_build_52 : decode cX8_build 52 = .ok (.iload_n 3, 1) := by decide +kernel
theorem dX8_build_53 : decode cX8_build 53 = .ok (.ifCond .eq 21, 3) := by decide +kernel
theorem dX8_build_56 : decode cX8_build 56 = .ok (.aload_n 0, 1) := by decide +kernel
theorem dX8_build_57 : decode cX8_build 57 = .ok (.getfield 10, 3) := by decide +kernel
theorem dX8_build_60 : decode cX8_build 60 = .ok (.iload_n 1, 1) := by decide +kernel
theorem dX8_build_61 : decode cX8_build 61 = .ok (.invokevirtual 181, 3) := by decide +kernel
theorem dX8_build_64 : decode cX8_build 64 = .ok (.ifCond .eq 10, 3) := by decide +kernel
theorem dX8_build_67 : decode cX8_build 67 = .ok (.aload_n 0, 1) := by decide +kernel
theorem dX8_build_68 : decode cX8_build 68 = .ok (.bipush (-6), 2) := by decide +kernel
theorem dX8_build_70 : decode cX8_build 70 = .ok (.invokevirtual 72, 3) := by decide +kernel
theorem dX8_build_73 : decode cX8_build 73 = .ok (.ireturn, 1) := by decide +kernel
theorem dX8_build_74 : decode cX8_build 74 = .ok (.aload_n 0, 1) := by decide +kernel
theorem dX8_build_75 : decode cX8_build 75 = .ok (.getfield 10, 3) := by decide +kernel
theorem dX8_build_78 : decode cX8_build 78 = .ok (.iload_n 1, 1) := by decide +kernel
theorem dX8_build_79 : decode cX8_build 79 = .ok (.invokevirtual 184, 3) := by decide +kernel
theorem dX8_build_82 : decode cX8_build 82 = .ok (.istore 4, 2) := by decide +kernel
theorem dX8_build_84 : decode cX8_build 84 = .ok (.aload_n 0, 1) := by decide +kernel
theorem dX8_build_85 : decode cX8_build 85 = .ok (.getfield 10, 3) := by decide +kernel
theorem dX8_build_88 : decode cX8_build 88 = .ok (.iload_n 1, 1) := by decide +kernel
theorem dX8_build_89 : decode cX8_build 89 = .ok (.iload_n 3, 1) := by decide +kernel
theorem dX8_build_90 : decode cX8_build 90 = .ok (.invokevirtual 187, 3) := by decide +kernel
theorem dX8_build_93 : decode cX8_build 93 = .ok (.iload 4, 2) := by decide +kernel
theorem dX8_build_95 : decode cX8_build 95 = .ok (.invokestatic 177, 3) := by decide +kernel
theorem dX8_build_98 : decode cX8_build 98 = .ok (.ireturn, 1) := by decide +kernel
theorem dX8_put_0 : decode cX8_put 0 = .ok (.aload_n 0, 1) := by decide +kernel
theorem dX8_put_1 : decode cX8_put 1 = .ok (.iload_n 1, 1) := by decide +kernel
theorem dX8_put_2 : decode cX8_put 2 = .ok (.invokevirtual 108, 3) := by decide +kernel
theorem dX8_put_5 : decode cX8_put 5 = .ok (.ifCond .ne 9, 3) := by decide +kernel
theorem dX8_put_8 : decode cX8_put 8 = .ok (.aload_n 0, 1) := by decide +kernel
theorem dX8_put_9 : decode cX8_put 9 = .ok (.iconst (-1), 1) := by decide +kernel
theorem dX8_put_10 : decode cX8_put 10 = .ok (.invokevirtual 72, 3) := by decide +kernel
theorem dX8_put_13 : decode cX8_put 13 = .ok (.ireturn, 1) := by decide +kernel
theorem dX8_put_14 : decode cX8_put 14 = .ok (.aload_n 0, 1) := by decide +kernel
theorem dX8_put_15 : decode cX8_put 15 = .ok (.getfield 10, 3) := by decide +kernel
theorem dX8_put_18 : decode cX8_put 18 = .ok (.iload_n 2, 1) := by decide +kernel
theorem dX8_put_19 : decode cX8_put 19 = .ok (.invokevirtual 151, 3) := by decide +kernel
theorem dX8_put_22 : decode cX8_put 22 = .ok (.ifCond .ne 10, 3) := by decide +kernel
theorem dX8_put_25 : decode cX8_put 25 = .ok (.aload_n 0, 1) := by decide +kernel
theorem dX8_put_26 : decode cX8_put 26 = .ok (.bipush (-6), 2) := by decide +kernel
theorem dX8_put_28 : decode cX8_put 28 = .ok (.invokevirtual 72, 3) := by decide +kernel
theorem dX8_put_31 : decode cX8_put 31 = .ok (.ireturn, 1) := by decide +kernel
theorem dX8_put_32 : decode cX8_put 32 = .ok (.aload_n 0, 1) := by decide +kernel
theorem dX8_put_33 : decode cX8_put 33 = .ok (.getfield 10, 3) := by decide +kernel
theorem dX8_put_36 : decode cX8_put 36 = .ok (.getfield 131, 3) := by decide +kernel
theorem dX8_put_39 : decode cX8_put 39 = .ok (.iload_n 1, 1) := by decide +kernel
theorem dX8_put_40 : decode cX8_put 40 = .ok (.aaload, 1) := by decide +kernel
theorem dX8_put_41 : decode cX8_put 41 = .ok (.getfield 190, 3) := by decide +kernel
theorem dX8_put_44 : decode cX8_put 44 = .ok (.istore_n 3, 1) := by decide +kernel
theorem dX8_put_45 : decode cX8_put 45 = .ok (.aload_n 0, 1) := by decide +kernel
theorem dX8_put_46 : decode cX8_put 46 = .ok (.getfield 10, 3) := by decide +kernel
theorem dX8_put_49 : decode cX8_put 49 = .ok (.getfield 131, 3) := by decide +kernel
theorem dX8_put_52 : decode cX8_put 52 = .ok (.iload_n 1, 1) := by decide +kernel
theorem dX8_put_53 : decode cX8_put 53 = .ok (.aaload, 1) := by decide +kernel
theorem dX8_put_54 : decode cX8_put 54 = .ok (.iload_n 2, 1) := by decide +kernel
theorem dX8_put_55 : decode cX8_put 55 = .ok (.putfield 190, 3) := by decide +kernel
theorem dX8_put_58 : decode cX8_put 58 = .ok (.iload_n 3, 1) := by decide +kernel
theorem dX8_put_59 : decode cX8_put 59 = .ok (.ireturn, 1) := by decide +kernel
theorem dX8_sack_0 : decode cX8_sack 0 = .ok (.aload_n 0, 1) := by decide +kernel
theorem dX8_sack_1 : decode cX8_sack 1 = .ok (.iload_n 1, 1) := by decide +kernel
theorem dX8_sack_2 : decode cX8_sack 2 = .ok (.invokevirtual 108, 3) := by decide +kernel
theorem dX8_sack_5 : decode cX8_sack 5 = .ok (.ifCond .ne 9, 3) := by decide +kernel
theorem dX8_sack_8 : decode cX8_sack 8 = .ok (.aload_n 0, 1) := by decide +kernel
theorem dX8_sack_9 : decode cX8_sack 9 = .ok (.iconst (-1), 1) := by decide +kernel
theorem dX8_sack_10 : decode cX8_sack 10 = .ok (.invokevirtual 72, 3) := by decide +kernel
theorem dX8_sack_13 : decode cX8_sack 13 = .ok (.ireturn, 1) := by decide +kernel
theorem dX8_sack_14 : decode cX8_sack 14 = .ok (.aload_n 0, 1) := by decide +kernel
theorem dX8_sack_15 : decode cX8_sack 15 = .ok (.getfield 10, 3) := by decide +kernel
theorem dX8_sack_18 : decode cX8_sack 18 = .ok (.getfield 131, 3) := by decide +kernel
theorem dX8_sack_21 : decode cX8_sack 21 = .ok (.iload_n 1, 1) := by decide +kernel
theorem dX8_sack_22 : decode cX8_sack 22 = .ok (.aaload, 1) := by decide +kernel
theorem dX8_sack_23 : decode cX8_sack 23 = .ok (.getfield 193, 3) := by decide +kernel
theorem dX8_sack_26 : decode cX8_sack 26 = .ok (.istore_n 3, 1) := by decide +kernel
theorem dX8_sack_27 : decode cX8_sack 27 = .ok (.aload_n 0, 1) := by decide +kernel
theorem dX8_sack_28 : decode cX8_sack 28 = .ok (.getfield 10, 3) := by decide +kernel
theorem dX8_sack_31 : decode cX8_sack 31 = .ok (.getfield 131, 3) := by decide +kernel
theorem dX8_sack_34 : decode cX8_sack 34 = .ok (.iload_n 1, 1) := by decide +kernel
theorem dX8_sack_35 : decode cX8_sack 35 = .ok (.aaload, 1) := by decide +kernel
theorem dX8_sack_36 : decode cX8_sack 36 = .ok (.iload_n 2, 1) := by decide +kernel
theorem dX8_sack_37 : decode cX8_sack 37 = .ok (.putfield 193, 3) := by decide +kernel
theorem dX8_sack_40 : decode cX8_sack 40 = .ok (.iload_n 3, 1) := by decide +kernel
theorem dX8_sack_41 : decode cX8_sack 41 = .ok (.invokestatic 177, 3) := by decide +kernel
theorem dX8_sack_44 : decode cX8_sack 44 = .ok (.ireturn, 1) := by decide +kernel
theorem dX8_ask_0 : decode cX8_ask 0 = .ok (.iload_n 1, 1) := by decide +kernel
theorem dX8_ask_1 : decode cX8_ask 1 = .ok (.ifCond .ne 32, 3) := by decide +kernel
theorem dX8_ask_4 : decode cX8_ask 4 = .ok (.iload_n 2, 1) := by decide +kernel
theorem dX8_ask_5 : decode cX8_ask 5 = .ok (.iconst 1, 1) := by decide +kernel
theorem dX8_ask_6 : decode cX8_ask 6 = .ok (.if_icmp .lt 27, 3) := by decide +kernel
theorem dX8_ask_9 : decode cX8_ask 9 = .ok (.iload_n 2, 1) := by decide +kernel
theorem dX8_ask_10 : decode cX8_ask 10 = .ok (.bipush 9, 2) := by decide +kernel
theorem dX8_ask_12 : decode cX8_ask 12 = .ok (.if_icmp .gt 21, 3) := by decide +kernel
theorem dX8_ask_15 : decode cX8_ask 15 = .ok (.aload_n 0, 1) := by decide +kernel
theorem dX8_ask_16 : decode cX8_ask 16 = .ok (.getfield 10, 3) := by decide +kernel
theorem dX8_ask_19 : decode cX8_ask 19 = .ok (.getfield 197, 3) := by decide +kernel
theorem dX8_ask_22 : decode cX8_ask 22 = .ok (.istore_n 3, 1) := by decide +kernel
theorem dX8_ask_23 : decode cX8_ask 23 = .ok (.aload_n 0, 1) := by decide +kernel
theorem dX8_ask_24 : decode cX8_ask 24 = .ok (.getfield 10, 3) := by decide +kernel
theorem dX8_ask_27 : decode cX8_ask 27 = .ok (.iload_n 2, 1) := by decide +kernel
theorem dX8_ask_28 : decode cX8_ask 28 = .ok (.putfield 197, 3) := by decide +kernel
theorem dX8_ask_31 : decode cX8_ask 31 = .ok (.iload_n 3, 1) := by decide +kernel
theorem dX8_ask_32 : decode cX8_ask 32 = .ok (.ireturn, 1) := by decide +kernel
theorem dX8_ask_33 : decode cX8_ask 33 = .ok (.iload_n 1, 1) := by decide +kernel
theorem dX8_ask_34 : decode cX8_ask 34 = .ok (.iconst 1, 1) := by decide +kernel
theorem dX8_ask_35 : decode cX8_ask 35 = .ok (.if_icmp .ne 31, 3) := by decide +kernel
theorem dX8_ask_38 : decode cX8_ask 38 = .ok (.iload_n 2, 1) := by decide +kernel
theorem dX8_ask_39 : decode cX8_ask 39 = .ok (.iconst 1, 1) := by decide +kernel
theorem dX8_ask_40 : decode cX8_ask 40 = .ok (.if_icmp .lt 26, 3) := by decide +kernel
theorem dX8_ask_43 : decode cX8_ask 43 = .ok (.iload_n 2, 1) := by decide +kernel
theorem dX8_ask_44 : decode cX8_ask 44 = .ok (.iconst 5, 1) := by decide +kernel
theorem dX8_ask_45 : decode cX8_ask 45 = .ok (.if_icmp .gt 21, 3) := by decide +kernel
theorem dX8_ask_48 : decode cX8_ask 48 = .ok (.aload_n 0, 1) := by decide +kernel
theorem dX8_ask_49 : decode cX8_ask 49 = .ok (.getfield 10, 3) := by decide +kernel
theorem dX8_ask_52 : decode cX8_ask 52 = .ok (.getfield 200, 3) := by decide +kernel
theorem dX8_ask_55 : decode cX8_ask 55 = .ok (.istore_n 3, 1) := by decide +kernel
theorem dX8_ask_56 : decode cX8_ask 56 = .ok (.aload_n 0, 1) := by decide +kernel
theorem dX8_ask_57 : decode cX8_ask 57 = .ok (.getfield 10, 3) := by decide +kernel
theorem dX8_ask_60 : decode cX8_ask 60 = .ok (.iload_n 2, 1) := by decide +kernel
theorem dX8_ask_61 : decode cX8_ask 61 = .ok (.putfield 200, 3) := by decide +kernel
theorem dX8_ask_64 : decode cX8_ask 64 = .ok (.iload_n 3, 1) := by decide +kernel
theorem dX8_ask_65 : decode cX8_ask 65 = .ok (.ireturn, 1) := by decide +kernel
theorem dX8_ask_66 : decode cX8_ask 66 = .ok (.iload_n 1, 1) := by decide +kernel
theorem dX8_ask_67 : decode cX8_ask 67 = .ok (.iconst 2, 1) := by decide +kernel
theorem dX8_ask_68 : decode cX8_ask 68 = .ok (.if_icmp .ne 41, 3) := by decide +kernel
theorem dX8_ask_71 : decode cX8_ask 71 = .ok (.iload_n 2, 1) := by decide +kernel
theorem dX8_ask_72 : decode cX8_ask 72 = .ok (.iconst 1, 1) := by decide +kernel
theorem dX8_ask_73 : decode cX8_ask 73 = .ok (.invokestatic 148, 3) := by decide +kernel
theorem dX8_ask_76 : decode cX8_ask 76 = .ok (.ifCond .eq 33, 3) := by decide +kernel
theorem dX8_ask_79 : decode cX8_ask 79 = .ok (.aload_n 0, 1) := by decide +kernel
theorem dX8_ask_80 : decode cX8_ask 80 = .ok (.getfield 10, 3) := by decide +kernel
theorem dX8_ask_83 : decode cX8_ask 83 = .ok (.getfield 203, 3) := by decide +kernel
theorem dX8_ask_86 : decode cX8_ask 86 = .ok (.invokestatic 177, 3) := by decide +kernel
theorem dX8_ask_89 : decode cX8_ask 89 = .ok (.istore_n 3, 1) := by decide +kernel
theorem dX8_ask_90 : decode cX8_ask 90 = .ok (.aload_n 0, 1) := by decide +kernel
theorem dX8_ask_91 : decode cX8_ask 91 = .ok (.getfield 10, 3) := by decide +kernel
theorem dX8_ask_94 : decode cX8_ask 94 = .ok (.iload_n 2, 1) := by decide +kernel
theorem dX8_ask_95 : decode cX8_ask 95 = .ok (.iconst 1, 1) := by decide +kernel
theorem dX8_ask_96 : decode cX8_ask 96 = .ok (.if_icmp .ne 7, 3) := by decide +kernel
theorem dX8_ask_99 : decode cX8_ask 99 = .ok (.iconst 1, 1) := by decide +kernel
theorem dX8_ask_100 : decode cX8_ask 100 = .ok (.goto 4, 3) := by decide +kernel
theorem dX8_ask_103 : decode cX8_ask 103 = .ok (.iconst 0, 1) := by decide +kernel
theorem dX8_ask_104 : decode cX8_ask 104 = .ok (.putfield 203, 3) := by decide +kernel
theorem dX8_ask_107 : decode cX8_ask 107 = .ok (.iload_n 3, 1) := by decide +kernel
theorem dX8_ask_108 : decode cX8_ask 108 = .ok (.ireturn, 1) := by decide +kernel
theorem dX8_ask_109 : decode cX8_ask 109 = .ok (.aload_n 0, 1) := by decide +kernel
theorem dX8_ask_110 : decode cX8_ask 110 = .ok (.bipush (-6), 2) := by decide +kernel
theorem dX8_ask_112 : decode cX8_ask 112 = .ok (.invokevirtual 72, 3) := by decide +kernel
theorem dX8_ask_115 : decode cX8_ask 115 = .ok (.ireturn, 1) := by decide +kernel
theorem dX8_personOf_0 : decode cX8_personOf 0 = .ok (.aload_n 0, 1) := by decide +kernel
theorem dX8_personOf_1 : decode cX8_personOf 1 = .ok (.iload_n 1, 1) := by decide +kernel
theorem dX8_personOf_2 : decode cX8_personOf 2 = .ok (.invokevirtual 108, 3) := by decide +kernel
theorem dX8_personOf_5 : decode cX8_personOf 5 = .ok (.ifCond .eq 12, 3) := by decide +kernel
theorem dX8_personOf_8 : decode cX8_personOf 8 = .ok (.iload_n 2, 1) := by decide +kernel
theorem dX8_personOf_9 : decode cX8_personOf 9 = .ok (.bipush 7, 2) := by decide +kernel
theorem dX8_personOf_11 : decode cX8_personOf 11 = .ok (.invokestatic 148, 3) := by decide +kernel
theorem dX8_personOf_14 : decode cX8_personOf 14 = .ok (.ifCond .ne 10, 3) := by decide +kernel
theorem dX8_personOf_17 : decode cX8_personOf 17 = .ok (.aload_n 0, 1) := by decide +kernel
theorem dX8_personOf_18 : decode cX8_personOf 18 = .ok (.bipush (-5), 2) := by decide +kernel
theorem dX8_personOf_20 : decode cX8_personOf 20 = .ok (.invokevirtual 72, 3) := by decide +kernel
theorem dX8_personOf_23 : decode cX8_personOf 23 = .ok (.ireturn, 1) := by decide +kernel
theorem dX8_personOf_24 : decode cX8_personOf 24 = .ok (.aload_n 0, 1) := by decide +kernel
theorem dX8_personOf_25 : decode cX8_personOf 25 = .ok (.getfield 10, 3) := by decide +kernel
theorem dX8_personOf_28 : decode cX8_personOf 28 = .ok (.getfield 131, 3) := by decide +kernel
theorem dX8_personOf_31 : decode cX8_personOf 31 = .ok (.iload_n 1, 1) := by decide +kernel
theorem dX8_personOf_32 : decode cX8_personOf 32 = .ok (.aaload, 1) := by decide +kernel
theorem dX8_personOf_33 : decode cX8_personOf 33 = .ok (.astore_n 3, 1) := by decide +kernel
theorem dX8_personOf_34 : decode cX8_personOf 34 = .ok (.iload_n 2, 1) := by decide +kernel
theorem dX8_personOf_35 : decode cX8_personOf 35 = .ok (.tableswitch 79 0 6 #[41, 46, 51, 56, 61, 66, 71], 41) := by decide +kernel
theorem dX8_personOf_76 : decode cX8_personOf 76 = .ok (.aload_n 3, 1) := by decide +kernel
theorem dX8_personOf_77 : decode cX8_personOf 77 = .ok (.getfield 206, 3) := by decide +kernel
theorem dX8_personOf_80 : decode cX8_personOf 80 = .ok (.ireturn, 1) := by decide +kernel
theorem dX8_personOf_81 : decode cX8_personOf 81 = .ok (.aload_n 3, 1) := by decide +kernel
theorem dX8_personOf_82 : decode cX8_personOf 82 = .ok (.getfield 209, 3) := by decide +kernel
theorem dX8_personOf_85 : decode cX8_personOf 85 = .ok (.ireturn, 1) := by decide +kernel
theorem dX8_personOf_86 : decode cX8_personOf 86 = .ok (.aload_n 3, 1) := by decide +kernel
theorem dX8_personOf_87 : decode cX8_personOf 87 = .ok (.getfield 212, 3) := by decide +kernel
theorem dX8_personOf_90 : decode cX8_personOf 90 = .ok (.ireturn, 1) := by decide +kernel
theorem dX8_personOf_91 : decode cX8_personOf 91 = .ok (.aload_n 3, 1) := by decide +kernel
theorem dX8_personOf_92 : decode cX8_personOf 92 = .ok (.getfield 215, 3) := by decide +kernel
theorem dX8_personOf_95 : decode cX8_personOf 95 = .ok (.ireturn, 1) := by decide +kernel
theorem dX8_personOf_96 : decode cX8_personOf 96 = .ok (.aload_n 3, 1) := by decide +kernel
theorem dX8_personOf_97 : decode cX8_personOf 97 = .ok (.getfield 218, 3) := by decide +kernel
theorem dX8_personOf_100 : decode cX8_personOf 100 = .ok (.ireturn, 1) := by decide +kernel
theorem dX8_personOf_101 : decode cX8_personOf 101 = .ok (.aload_n 3, 1) := by decide +kernel
theorem dX8_personOf_102 : decode cX8_personOf 102 = .ok (.getfield 190, 3) := by decide +kernel
theorem dX8_personOf_105 : decode cX8_personOf 105 = .ok (.ireturn, 1) := by decide +kernel
theorem dX8_personOf_106 : decode cX8_personOf 106 = .ok (.aload_n 3, 1) := by decide +kernel
theorem dX8_personOf_107 : decode cX8_personOf 107 = .ok (.getfield 193, 3) := by decide +kernel
theorem dX8_personOf_110 : decode cX8_personOf 110 = .ok (.invokestatic 177, 3) := by decide +kernel
theorem dX8_personOf_113 : decode cX8_personOf 113 = .ok (.ireturn, 1) := by decide +kernel
theorem dX8_personOf_114 : decode cX8_personOf 114 = .ok (.aload_n 3, 1) := by decide +kernel
theorem dX8_personOf_115 : decode cX8_personOf 115 = .ok (.aload_n 0, 1) := by decide +kernel
theorem dX8_personOf_116 : decode cX8_personOf 116 = .ok (.getfield 10, 3) := by decide +kernel
theorem dX8_personOf_119 : decode cX8_personOf 119 = .ok (.getfield 203, 3) := by decide +kernel
theorem dX8_personOf_122 : decode cX8_personOf 122 = .ok (.invokevirtual 221, 3) := by decide +kernel
theorem dX8_personOf_125 : decode cX8_personOf 125 = .ok (.ireturn, 1) := by decide +kernel
theorem dX8_squareOf_0 : decode cX8_squareOf 0 = .ok (.iload_n 1, 1) := by decide +kernel
theorem dX8_squareOf_1 : decode cX8_squareOf 1 = .ok (.invokestatic 167, 3) := by decide +kernel
theorem dX8_squareOf_4 : decode cX8_squareOf 4 = .ok (.ifCond .eq 11, 3) := by decide +kernel
theorem dX8_squareOf_7 : decode cX8_squareOf 7 = .ok (.iload_n 2, 1) := by decide +kernel
theorem dX8_squareOf_8 : decode cX8_squareOf 8 = .ok (.iconst 2, 1) := by decide +kernel
theorem dX8_squareOf_9 : decode cX8_squareOf 9 = .ok (.invokestatic 148, 3) := by decide +kernel
theorem dX8_squareOf_12 : decode cX8_squareOf 12 = .ok (.ifCond .ne 10, 3) := by decide +kernel
theorem dX8_squareOf_15 : decode cX8_squareOf 15 = .ok (.aload_n 0, 1) := by decide +kernel
theorem dX8_squareOf_16 : decode cX8_squareOf 16 = .ok (.bipush (-5), 2) := by decide +kernel
theorem dX8_squareOf_18 : decode cX8_squareOf 18 = .ok (.invokevirtual 72, 3) := by decide +kernel
theorem dX8_squareOf_21 : decode cX8_squareOf 21 = .ok (.ireturn, 1) := by decide +kernel
theorem dX8_squareOf_22 : decode cX8_squareOf 22 = .ok (.iload_n 2, 1) := by decide +kernel
theorem dX8_squareOf_23 : decode cX8_squareOf 23 = .ok (.lookupswitch 49 #[(0, 25), (1, 37)], 25) := by decide +kernel
theorem dX8_squareOf_48 : decode cX8_squareOf 48 = .ok (.aload_n 0, 1) := by decide +kernel
theorem dX8_squareOf_49 : decode cX8_squareOf 49 = .ok (.getfield 10, 3) := by decide +kernel
theorem dX8_squareOf_52 : decode cX8_squareOf 52 = .ok (.iload_n 1, 1) := by decide +kernel
theorem dX8_squareOf_53 : decode cX8_squareOf 53 = .ok (.invokevirtual 184, 3) := by decide +kernel
theorem dX8_squareOf_56 : decode cX8_squareOf 56 = .ok (.invokestatic 177, 3) := by decide +kernel
theorem dX8_squareOf_59 : decode cX8_squareOf 59 = .ok (.ireturn, 1) := by decide +kernel
theorem dX8_squareOf_60 : decode cX8_squareOf 60 = .ok (.aload_n 0, 1) := by decide +kernel
theorem dX8_squareOf_61 : decode cX8_squareOf 61 = .ok (.getfield 10, 3) := by decide +kernel
theorem dX8_squareOf_64 : decode cX8_squareOf 64 = .ok (.iload_n 1, 1) := by decide +kernel
theorem dX8_squareOf_65 : decode cX8_squareOf 65 = .ok (.invokevirtual 170, 3) := by decide +kernel
theorem dX8_squareOf_68 : decode cX8_squareOf 68 = .ok (.invokestatic 177, 3) := by decide +kernel
theorem dX8_squareOf_71 : decode cX8_squareOf 71 = .ok (.ireturn, 1) := by decide +kernel
theorem dX8_squareOf_72 : decode cX8_squareOf 72 = .ok (.aload_n 0, 1) := by decide +kernel
theorem dX8_squareOf_73 : decode cX8_squareOf 73 = .ok (.getfield 10, 3) := by decide +kernel
theorem dX8_squareOf_76 : decode cX8_squareOf 76 = .ok (.iload_n 1, 1) := by decide +kernel
theorem dX8_squareOf_77 : decode cX8_squareOf 77 = .ok (.invokevirtual 181, 3) := by decide +kernel
theorem dX8_squareOf_80 : decode cX8_squareOf 80 = .ok (.ireturn, 1) := by decide +kernel
theorem dX8_town_0 : decode cX8_town 0 = .ok (.aload_n 0, 1) := by decide +kernel
theorem dX8_town_1 : decode cX8_town 1 = .ok (.iload_n 1, 1) := by decide +kernel
theorem dX8_town_2 : decode cX8_town 2 = .ok (.invokevirtual 80, 3) := by decide +kernel
theorem dX8_town_5 : decode cX8_town 5 = .ok (.istore_n 2, 1) := by decide +kernel
theorem dX8_town_6 : decode cX8_town 6 = .ok (.iload_n 2, 1) := by decide +kernel
theorem dX8_town_7 : decode cX8_town 7 = .ok (.ifCond .eq 9, 3) := by decide +kernel
theorem dX8_town_10 : decode cX8_town 10 = .ok (.aload_n 0, 1) := by decide +kernel
theorem dX8_town_11 : decode cX8_town 11 = .ok (.iload_n 2, 1) := by decide +kernel
theorem dX8_town_12 : decode cX8_town 12 = .ok (.invokevirtual 72, 3) := by decide +kernel
theorem dX8_town_15 : decode cX8_town 15 = .ok (.ireturn, 1) := by decide +kernel
theorem dX8_town_16 : decode cX8_town 16 = .ok (.aload_n 0, 1) := by decide +kernel
theorem dX8_town_17 : decode cX8_town 17 = .ok (.getfield 16, 3) := by decide +kernel
theorem dX8_town_20 : decode cX8_town 20 = .ok (.aload_n 0, 1) := by decide +kernel
theorem dX8_town_21 : decode cX8_town 21 = .ok (.getfield 10, 3) := by decide +kernel
theorem dX8_town_24 : decode cX8_town 24 = .ok (.invokevirtual 224, 3) := by decide +kernel
theorem dX8_town_27 : decode cX8_town 27 = .ok (.aload_n 0, 1) := by decide +kernel
theorem dX8_town_28 : decode cX8_town 28 = .ok (.getfield 46, 3) := by decide +kernel
theorem dX8_town_31 : decode cX8_town 31 = .ok (.aload_n 0, 1) := by decide +kernel
theorem dX8_town_32 : decode cX8_town 32 = .ok (.getfield 59, 3) := by decide +kernel
theorem dX8_town_35 : decode cX8_town 35 = .ok (.iload_n 1, 1) := by decide +kernel
theorem dX8_town_36 : decode cX8_town 36 = .ok (.aaload, 1) := by decide +kernel
theorem dX8_town_37 : decode cX8_town 37 = .ok (.aload_n 0, 1) := by decide +kernel
theorem dX8_town_38 : decode cX8_town 38 = .ok (.getfield 16, 3) := by decide +kernel
theorem dX8_town_41 : decode cX8_town 41 = .ok (.invokevirtual 228, 3) := by decide +kernel
theorem dX8_town_44 : decode cX8_town 44 = .ok (.istore_n 3, 1) := by decide +kernel
theorem dX8_town_45 : decode cX8_town 45 = .ok (.iload_n 3, 1) := by decide +kernel
theorem dX8_town_46 : decode cX8_town 46 = .ok (.iconst (-1), 1) := by decide +kernel
theorem dX8_town_47 : decode cX8_town 47 = .ok (.if_icmp .ne 10, 3) := by decide +kernel
theorem dX8_town_50 : decode cX8_town 50 = .ok (.aload_n 0, 1) := by decide +kernel
theorem dX8_town_51 : decode cX8_town 51 = .ok (.bipush (-6), 2) := by decide +kernel
theorem dX8_town_53 : decode cX8_town 53 = .ok (.invokevirtual 72, 3) := by decide +kernel
theorem dX8_town_56 : decode cX8_town 56 = .ok (.ireturn, 1) := by decide +kernel
theorem dX8_town_57 : decode cX8_town 57 = .ok (.aload_n 0, 1) := by decide +kernel
theorem dX8_town_58 : decode cX8_town 58 = .ok (.getfield 10, 3) := by decide +kernel
theorem dX8_town_61 : decode cX8_town 61 = .ok (.aload_n 0, 1) := by decide +kernel
theorem dX8_town_62 : decode cX8_town 62 = .ok (.getfield 16, 3) := by decide +kernel
theorem dX8_town_65 : decode cX8_town 65 = .ok (.invokevirtual 224, 3) := by decide +kernel
theorem dX8_town_68 : decode cX8_town 68 = .ok (.iload_n 3, 1) := by decide +kernel
theorem dX8_town_69 : decode cX8_town 69 = .ok (.ireturn, 1) := by decide +kernel
theorem dX8_fault_0 : decode cX8_fault 0 = .ok (.aload_n 0, 1) := by decide +kernel
theorem dX8_fault_1 : decode cX8_fault 1 = .ok (.getfield 46, 3) := by decide +kernel
theorem dX8_fault_4 : decode cX8_fault 4 = .ok (.getfield 232, 3) := by decide +kernel
theorem dX8_fault_7 : decode cX8_fault 7 = .ok (.ireturn, 1) := by decide +kernel
theorem dX8_view_0 : decode cX8_view 0 = .ok (.iload_n 1, 1) := by decide +kernel
theorem dX8_view_1 : decode cX8_view 1 = .ok (.invokestatic 167, 3) := by decide +kernel
theorem dX8_view_4 : decode cX8_view 4 = .ok (.ifCond .eq 10, 3) := by decide +kernel
theorem dX8_view_7 : decode cX8_view 7 = .ok (.iload_n 2, 1) := by decide +kernel
theorem dX8_view_8 : decode cX8_view 8 = .ok (.invokestatic 167, 3) := by decide +kernel
theorem dX8_view_11 : decode cX8_view 11 = .ok (.ifCond .ne 10, 3) := by decide +kernel
theorem dX8_view_14 : decode cX8_view 14 = .ok (.aload_n 0, 1) := by decide +kernel
theorem dX8_view_15 : decode cX8_view 15 = .ok (.bipush (-6), 2) := by decide +kernel
theorem dX8_view_17 : decode cX8_view 17 = .ok (.invokevirtual 72, 3) := by decide +kernel
theorem dX8_view_20 : decode cX8_view 20 = .ok (.ireturn, 1) := by decide +kernel
theorem dX8_view_21 : decode cX8_view 21 = .ok (.aload_n 0, 1) := by decide +kernel
theorem dX8_view_22 : decode cX8_view 22 = .ok (.getfield 10, 3) := by decide +kernel
theorem dX8_view_25 : decode cX8_view 25 = .ok (.iload_n 1, 1) := by decide +kernel
theorem dX8_view_26 : decode cX8_view 26 = .ok (.invokevirtual 235, 3) := by decide +kernel
theorem dX8_view_29 : decode cX8_view 29 = .ok (.iload_n 2, 1) := by decide +kernel
theorem dX8_view_30 : decode cX8_view 30 = .ok (.invokestatic 239, 3) := by decide +kernel
theorem dX8_view_33 : decode cX8_view 33 = .ok (.invokestatic 177, 3) := by decide +kernel
theorem dX8_view_36 : decode cX8_view 36 = .ok (.ireturn, 1) := by decide +kernel
theorem dX8_glances_0 : decode cX8_glances 0 = .ok (.aload_n 0, 1) := by decide +kernel
theorem dX8_glances_1 : decode cX8_glances 1 = .ok (.iload_n 1, 1) := by decide +kernel
theorem dX8_glances_2 : decode cX8_glances 2 = .ok (.invokevirtual 108, 3) := by decide +kernel
theorem dX8_glances_5 : decode cX8_glances 5 = .ok (.ifCond .ne 9, 3) := by decide +kernel
theorem dX8_glances_8 : decode cX8_glances 8 = .ok (.aload_n 0, 1) := by decide +kernel
theorem dX8_glances_9 : decode cX8_glances 9 = .ok (.iconst (-1), 1) := by decide +kernel
theorem dX8_glances_10 : decode cX8_glances 10 = .ok (.invokevirtual 72, 3) := by decide +kernel
theorem dX8_glances_13 : decode cX8_glances 13 = .ok (.ireturn, 1) := by decide +kernel
theorem dX8_glances_14 : decode cX8_glances 14 = .ok (.iload_n 2, 1) := by decide +kernel
theorem dX8_glances_15 : decode cX8_glances 15 = .ok (.iconst 1, 1) := by decide +kernel
theorem dX8_glances_16 : decode cX8_glances 16 = .ok (.invokestatic 148, 3) := by decide +kernel
theorem dX8_glances_19 : decode cX8_glances 19 = .ok (.ifCond .ne 10, 3) := by decide +kernel
theorem dX8_glances_22 : decode cX8_glances 22 = .ok (.aload_n 0, 1) := by decide +kernel
theorem dX8_glances_23 : decode cX8_glances 23 = .ok (.bipush (-5), 2) := by decide +kernel
theorem dX8_glances_25 : decode cX8_glances 25 = .ok (.invokevirtual 72, 3) := by decide +kernel
theorem dX8_glances_28 : decode cX8_glances 28 = .ok (.ireturn, 1) := by decide +kernel
theorem dX8_glances_29 : decode cX8_glances 29 = .ok (.aload_n 0, 1) := by decide +kernel
theorem dX8_glances_30 : decode cX8_glances 30 = .ok (.getfield 25, 3) := by decide +kernel
theorem dX8_glances_33 : decode cX8_glances 33 = .ok (.aload_n 0, 1) := by decide +kernel
theorem dX8_glances_34 : decode cX8_glances 34 = .ok (.getfield 10, 3) := by decide +kernel
theorem dX8_glances_37 : decode cX8_glances 37 = .ok (.invokevirtual 243, 3) := by decide +kernel
theorem dX8_glances_40 : decode cX8_glances 40 = .ok (.iload_n 2, 1) := by decide +kernel
theorem dX8_glances_41 : decode cX8_glances 41 = .ok (.ifCond .ne 18, 3) := by decide +kernel
theorem dX8_glances_44 : decode cX8_glances 44 = .ok (.aload_n 0, 1) := by decide +kernel
theorem dX8_glances_45 : decode cX8_glances 45 = .ok (.getfield 25, 3) := by decide +kernel
theorem dX8_glances_48 : decode cX8_glances 48 = .ok (.aload_n 0, 1) := by decide +kernel
theorem dX8_glances_49 : decode cX8_glances 49 = .ok (.getfield 10, 3) := by decide +kernel
theorem dX8_glances_52 : decode cX8_glances 52 = .ok (.iload_n 1, 1) := by decide +kernel
theorem dX8_glances_53 : decode cX8_glances 53 = .ok (.invokevirtual 246, 3) := by decide +kernel
theorem dX8_glances_56 : decode cX8_glances 56 = .ok (.goto 12, 3) := by decide +kernel
theorem dX8_glances_59 : decode cX8_glances 59 = .ok (.aload_n 0, 1) := by decide +kernel
theorem dX8_glances_60 : decode cX8_glances 60 = .ok (.getfield 25, 3) := by decide +kernel
theorem dX8_glances_63 : decode cX8_glances 63 = .ok (.getfield 250, 3) := by decide +kernel
theorem dX8_glances_66 : decode cX8_glances 66 = .ok (.iload_n 1, 1) := by decide +kernel
theorem dX8_glances_67 : decode cX8_glances 67 = .ok (.iaload, 1) := by decide +kernel
theorem dX8_glances_68 : decode cX8_glances 68 = .ok (.ireturn, 1) := by decide +kernel
theorem dX8_duty_0 : decode cX8_duty 0 = .ok (.aload_n 0, 1) := by decide +kernel
theorem dX8_duty_1 : decode cX8_duty 1 = .ok (.iload_n 1, 1) := by decide +kernel
theorem dX8_duty_2 : decode cX8_duty 2 = .ok (.invokevirtual 108, 3) := by decide +kernel
theorem dX8_duty_5 : decode cX8_duty 5 = .ok (.ifCond .ne 9, 3) := by decide +kernel
theorem dX8_duty_8 : decode cX8_duty 8 = .ok (.aload_n 0, 1) := by decide +kernel
theorem dX8_duty_9 : decode cX8_duty 9 = .ok (.iconst (-1), 1) := by decide +kernel
theorem dX8_duty_10 : decode cX8_duty 10 = .ok (.invokevirtual 72, 3) := by decide +kernel
theorem dX8_duty_13 : decode cX8_duty 13 = .ok (.ireturn, 1) := by decide +kernel
theorem dX8_duty_14 : decode cX8_duty 14 = .ok (.iload_n 2, 1) := by decide +kernel
theorem dX8_duty_15 : decode cX8_duty 15 = .ok (.iconst 1, 1) := by decide +kernel
theorem dX8_duty_16 : decode cX8_duty 16 = .ok (.invokestatic 148, 3) := by decide +kernel
theorem dX8_duty_19 : decode cX8_duty 19 = .ok (.ifCond .ne 10, 3) := by decide +kernel
theorem dX8_duty_22 : decode cX8_duty 22 = .ok (.aload_n 0, 1) := by decide +kernel
theorem dX8_duty_23 : decode cX8_duty 23 = .ok (.bipush (-5), 2) := by decide +kernel
theorem dX8_duty_25 : decode cX8_duty 25 = .ok (.invokevirtual 72, 3) := by decide +kernel
theorem dX8_duty_28 : decode cX8_duty 28 = .ok (.ireturn, 1) := by decide +kernel
theorem dX8_duty_29 : decode cX8_duty 29 = .ok (.aload_n 0, 1) := by decide +kernel
theorem dX8_duty_30 : decode cX8_duty 30 = .ok (.getfield 25, 3) := by decide +kernel
theorem dX8_duty_33 : decode cX8_duty 33 = .ok (.aload_n 0, 1) := by decide +kernel
theorem dX8_duty_34 : decode cX8_duty 34 = .ok (.getfield 10, 3) := by decide +kernel
theorem dX8_duty_37 : decode cX8_duty 37 = .ok (.invokevirtual 243, 3) := by decide +kernel
theorem dX8_duty_40 : decode cX8_duty 40 = .ok (.iload_n 2, 1) := by decide +kernel
theorem dX8_duty_41 : decode cX8_duty 41 = .ok (.ifCond .ne 15, 3) := by decide +kernel
theorem dX8_duty_44 : decode cX8_duty 44 = .ok (.aload_n 0, 1) := by decide +kernel
theorem dX8_duty_45 : decode cX8_duty 45 = .ok (.getfield 25, 3) := by decide +kernel
theorem dX8_duty_48 : decode cX8_duty 48 = .ok (.getfield 253, 3) := by decide +kernel
theorem dX8_duty_51 : decode cX8_duty 51 = .ok (.iload_n 1, 1) := by decide +kernel
theorem dX8_duty_52 : decode cX8_duty 52 = .ok (.iaload, 1) := by decide +kernel
theorem dX8_duty_53 : decode cX8_duty 53 = .ok (.goto 12, 3) := by decide +kernel
theorem dX8_duty_56 : decode cX8_duty 56 = .ok (.aload_n 0, 1) := by decide +kernel
theorem dX8_duty_57 : decode cX8_duty 57 = .ok (.getfield 25, 3) := by decide +kernel
theorem dX8_duty_60 : decode cX8_duty 60 = .ok (.getfield 256, 3) := by decide +kernel
theorem dX8_duty_63 : decode cX8_duty 63 = .ok (.iload_n 1, 1) := by decide +kernel
theorem dX8_duty_64 : decode cX8_duty 64 = .ok (.iaload, 1) := by decide +kernel
theorem dX8_duty_65 : decode cX8_duty 65 = .ok (.ireturn, 1) := by decide +kernel
theorem dX8_all_0 : decode cX8_all 0 = .ok (.iload_n 1, 1) := by decide +kernel
theorem dX8_all_1 : decode cX8_all 1 = .ok (.iconst 3, 1) := by decide +kernel
theorem dX8_all_2 : decode cX8_all 2 = .ok (.invokestatic 148, 3) := by decide +kernel
theorem dX8_all_5 : decode cX8_all 5 = .ok (.ifCond .ne 10, 3) := by decide +kernel
theorem dX8_all_8 : decode cX8_all 8 = .ok (.aload_n 0, 1) := by decide +kernel
theorem dX8_all_9 : decode cX8_all 9 = .ok (.bipush (-5), 2) := by decide +kernel
theorem dX8_all_11 : decode cX8_all 11 = .ok (.invokevirtual 72, 3) := by decide +kernel
theorem dX8_all_14 : decode cX8_all 14 = .ok (.ireturn, 1) := by decide +kernel
theorem dX8_all_15 : decode cX8_all 15 = .ok (.aload_n 0, 1) := by decide +kernel
theorem dX8_all_16 : decode cX8_all 16 = .ok (.getfield 25, 3) := by decide +kernel
theorem dX8_all_19 : decode cX8_all 19 = .ok (.aload_n 0, 1) := by decide +kernel
theorem dX8_all_20 : decode cX8_all 20 = .ok (.getfield 10, 3) := by decide +kernel
theorem dX8_all_23 : decode cX8_all 23 = .ok (.invokevirtual 243, 3) := by decide +kernel
theorem dX8_all_26 : decode cX8_all 26 = .ok (.iload_n 1, 1) := by decide +kernel
theorem dX8_all_27 : decode cX8_all 27 = .ok (.tableswitch 65 0 2 #[25, 37, 53], 25) := by decide +kernel
theorem dX8_all_52 : decode cX8_all 52 = .ok (.aload_n 0, 1) := by decide +kernel
theorem dX8_all_53 : decode cX8_all 53 = .ok (.getfield 25, 3) := by decide +kernel
theorem dX8_all_56 : decode cX8_all 56 = .ok (.aload_n 0, 1) := by decide +kernel
theorem dX8_all_57 : decode cX8_all 57 = .ok (.getfield 10, 3) := by decide +kernel
theorem dX8_all_60 : decode cX8_all 60 = .ok (.invokevirtual 259, 3) := by decide +kernel
theorem dX8_all_63 : decode cX8_all 63 = .ok (.ireturn, 1) := by decide +kernel
theorem dX8_all_64 : decode cX8_all 64 = .ok (.aload_n 0, 1) := by decide +kernel
theorem dX8_all_65 : decode cX8_all 65 = .ok (.getfield 25, 3) := by decide +kernel
theorem dX8_all_68 : decode cX8_all 68 = .ok (.getfield 263, 3) := by decide +kernel
theorem dX8_all_71 : decode cX8_all 71 = .ok (.aload_n 0, 1) := by decide +kernel
theorem dX8_all_72 : decode cX8_all 72 = .ok (.getfield 10, 3) := by decide +kernel
theorem dX8_all_75 : decode cX8_all 75 = .ok (.getfield 197, 3) := by decide +kernel
theorem dX8_all_78 : decode cX8_all 78 = .ok (.imul, 1) := by decide +kernel
theorem dX8_all_79 : decode cX8_all 79 = .ok (.ireturn, 1) := by decide +kernel
theorem dX8_all_80 : decode cX8_all 80 = .ok (.aload_n 0, 1) := by decide +kernel
theorem dX8_all_81 : decode cX8_all 81 = .ok (.getfield 25, 3) := by decide +kernel
theorem dX8_all_84 : decode cX8_all 84 = .ok (.aload_n 0, 1) := by decide +kernel
theorem dX8_all_85 : decode cX8_all 85 = .ok (.getfield 10, 3) := by decide +kernel
theorem dX8_all_88 : decode cX8_all 88 = .ok (.invokevirtual 266, 3) := by decide +kernel
theorem dX8_all_91 : decode cX8_all 91 = .ok (.ireturn, 1) := by decide +kernel
theorem dX8_all_92 : decode cX8_all 92 = .ok (.aload_n 0, 1) := by decide +kernel
theorem dX8_all_93 : decode cX8_all 93 = .ok (.getfield 25, 3) := by decide +kernel
theorem dX8_all_96 : decode cX8_all 96 = .ok (.aload_n 0, 1) := by decide +kernel
theorem dX8_all_97 : decode cX8_all 97 = .ok (.getfield 10, 3) := by decide +kernel
theorem dX8_all_100 : decode cX8_all 100 = .ok (.invokevirtual 269, 3) := by decide +kernel
theorem dX8_all_103 : decode cX8_all 103 = .ok (.ireturn, 1) := by decide +kernel
theorem dX8_walk_0 : decode cX8_walk 0 = .ok (.aload_n 0, 1) := by decide +kernel
theorem dX8_walk_1 : decode cX8_walk 1 = .ok (.iload_n 1, 1) := by decide +kernel
theorem dX8_walk_2 : decode cX8_walk 2 = .ok (.invokevirtual 108, 3) := by decide +kernel
theorem dX8_walk_5 : decode cX8_walk 5 = .ok (.ifCond .ne 9, 3) := by decide +kernel
theorem dX8_walk_8 : decode cX8_walk 8 = .ok (.aload_n 0, 1) := by decide +kernel
theorem dX8_walk_9 : decode cX8_walk 9 = .ok (.iconst (-1), 1) := by decide +kernel
theorem dX8_walk_10 : decode cX8_walk 10 = .ok (.invokevirtual 272, 3) := by decide +kernel
theorem dX8_walk_13 : decode cX8_walk 13 = .ok (.ireturn, 1) := by decide +kernel
theorem dX8_walk_14 : decode cX8_walk 14 = .ok (.iload_n 3, 1) := by decide +kernel
theorem dX8_walk_15 : decode cX8_walk 15 = .ok (.iconst 2, 1) := by decide +kernel
theorem dX8_walk_16 : decode cX8_walk 16 = .ok (.invokestatic 148, 3) := by decide +kernel
theorem dX8_walk_19 : decode cX8_walk 19 = .ok (.ifCond .ne 10, 3) := by decide +kernel
theorem dX8_walk_22 : decode cX8_walk 22 = .ok (.aload_n 0, 1) := by decide +kernel
theorem dX8_walk_23 : decode cX8_walk 23 = .ok (.bipush (-5), 2) := by decide +kernel
theorem dX8_walk_25 : decode cX8_walk 25 = .ok (.invokevirtual 272, 3) := by decide +kernel
theorem dX8_walk_28 : decode cX8_walk 28 = .ok (.ireturn, 1) := by decide +kernel
theorem dX8_walk_29 : decode cX8_walk 29 = .ok (.aload_n 0, 1) := by decide +kernel
theorem dX8_walk_30 : decode cX8_walk 30 = .ok (.getfield 10, 3) := by decide +kernel
theorem dX8_walk_33 : decode cX8_walk 33 = .ok (.iload_n 2, 1) := by decide +kernel
theorem dX8_walk_34 : decode cX8_walk 34 = .ok (.invokevirtual 151, 3) := by decide +kernel
theorem dX8_walk_37 : decode cX8_walk 37 = .ok (.ifCond .ne 10, 3) := by decide +kernel
theorem dX8_walk_40 : decode cX8_walk 40 = .ok (.aload_n 0, 1) := by decide +kernel
theorem dX8_walk_41 : decode cX8_walk 41 = .ok (.bipush (-6), 2) := by decide +kernel
theorem dX8_walk_43 : decode cX8_walk 43 = .ok (.invokevirtual 272, 3) := by decide +kernel
theorem dX8_walk_46 : decode cX8_walk 46 = .ok (.ireturn, 1) := by decide +kernel
theorem dX8_walk_47 : decode cX8_walk 47 = .ok (.aload_n 0, 1) := by decide +kernel
theorem dX8_walk_48 : decode cX8_walk 48 = .ok (.getfield 32, 3) := by decide +kernel
theorem dX8_walk_51 : decode cX8_walk 51 = .ok (.aload_n 0, 1) := by decide +kernel
theorem dX8_walk_52 : decode cX8_walk 52 = .ok (.getfield 10, 3) := by decide +kernel
theorem dX8_walk_55 : decode cX8_walk 55 = .ok (.iload_n 1, 1) := by decide +kernel
theorem dX8_walk_56 : decode cX8_walk 56 = .ok (.iload_n 2, 1) := by decide +kernel
theorem dX8_walk_57 : decode cX8_walk 57 = .ok (.iload_n 3, 1) := by decide +kernel
theorem dX8_walk_58 : decode cX8_walk 58 = .ok (.invokevirtual 275, 3) := by decide +kernel
theorem dX8_walk_61 : decode cX8_walk 61 = .ok (.ireturn, 1) := by decide +kernel
theorem dX8_stand_0 : decode cX8_stand 0 = .ok (.aload_n 0, 1) := by decide +kernel
theorem dX8_stand_1 : decode cX8_stand 1 = .ok (.iload_n 1, 1) := by decide +kernel
theorem dX8_stand_2 : decode cX8_stand 2 = .ok (.invokevirtual 108, 3) := by decide +kernel
theorem dX8_stand_5 : decode cX8_stand 5 = .ok (.ifCond .ne 9, 3) := by decide +kernel
theorem dX8_stand_8 : decode cX8_stand 8 = .ok (.aload_n 0, 1) := by decide +kernel
theorem dX8_stand_9 : decode cX8_stand 9 = .ok (.iconst (-1), 1) := by decide +kernel
theorem dX8_stand_10 : decode cX8_stand 10 = .ok (.invokevirtual 72, 3) := by decide +kernel
theorem dX8_stand_13 : decode cX8_stand 13 = .ok (.ireturn, 1) := by decide +kernel
theorem dX8_stand_14 : decode cX8_stand 14 = .ok (.iload_n 2, 1) := by decide +kernel
theorem dX8_stand_15 : decode cX8_stand 15 = .ok (.iconst 1, 1) := by decide +kernel
theorem dX8_stand_16 : decode cX8_stand 16 = .ok (.invokestatic 148, 3) := by decide +kernel
theorem dX8_stand_19 : decode cX8_stand 19 = .ok (.ifCond .ne 10, 3) := by decide +kernel
theorem dX8_stand_22 : decode cX8_stand 22 = .ok (.aload_n 0, 1) := by decide +kernel
theorem dX8_stand_23 : decode cX8_stand 23 = .ok (.bipush (-5), 2) := by decide +kernel
theorem dX8_stand_25 : decode cX8_stand 25 = .ok (.invokevirtual 72, 3) := by decide +kernel
theorem dX8_stand_28 : decode cX8_stand 28 = .ok (.ireturn, 1) := by decide +kernel
theorem dX8_stand_29 : decode cX8_stand 29 = .ok (.aload_n 0, 1) := by decide +kernel
theorem dX8_stand_30 : decode cX8_stand 30 = .ok (.getfield 32, 3) := by decide +kernel
theorem dX8_stand_33 : decode cX8_stand 33 = .ok (.aload_n 0, 1) := by decide +kernel
theorem dX8_stand_34 : decode cX8_stand 34 = .ok (.getfield 10, 3) := by decide +kernel
theorem dX8_stand_37 : decode cX8_stand 37 = .ok (.iload_n 1, 1) := by decide +kernel
theorem dX8_stand_38 : decode cX8_stand 38 = .ok (.iload_n 2, 1) := by decide +kernel
theorem dX8_stand_39 : decode cX8_stand 39 = .ok (.invokevirtual 279, 3) := by decide +kernel
theorem dX8_stand_42 : decode cX8_stand 42 = .ok (.ireturn, 1) := by decide +kernel
theorem dX8_sacks_0 : decode cX8_sacks 0 = .ok (.iload_n 2, 1) := by decide +kernel
theorem dX8_sacks_1 : decode cX8_sacks 1 = .ok (.iconst 1, 1) := by decide +kernel
theorem dX8_sacks_2 : decode cX8_sacks 2 = .ok (.invokestatic 148, 3) := by decide +kernel
theorem dX8_sacks_5 : decode cX8_sacks 5 = .ok (.ifCond .ne 10, 3) := by decide +kernel
theorem dX8_sacks_8 : decode cX8_sacks 8 = .ok (.aload_n 0, 1) := by decide +kernel
theorem dX8_sacks_9 : decode cX8_sacks 9 = .ok (.bipush (-5), 2) := by decide +kernel
theorem dX8_sacks_11 : decode cX8_sacks 11 = .ok (.invokevirtual 272, 3) := by decide +kernel
theorem dX8_sacks_14 : decode cX8_sacks 14 = .ok (.ireturn, 1) := by decide +kernel
theorem dX8_sacks_15 : decode cX8_sacks 15 = .ok (.iload_n 1, 1) := by decide +kernel
theorem dX8_sacks_16 : decode cX8_sacks 16 = .ok (.iconst 3, 1) := by decide +kernel
theorem dX8_sacks_17 : decode cX8_sacks 17 = .ok (.invokestatic 148, 3) := by decide +kernel
theorem dX8_sacks_20 : decode cX8_sacks 20 = .ok (.ifCond .ne 10, 3) := by decide +kernel
theorem dX8_sacks_23 : decode cX8_sacks 23 = .ok (.aload_n 0, 1) := by decide +kernel
theorem dX8_sacks_24 : decode cX8_sacks 24 = .ok (.bipush (-6), 2) := by decide +kernel
theorem dX8_sacks_26 : decode cX8_sacks 26 = .ok (.invokevirtual 272, 3) := by decide +kernel
theorem dX8_sacks_29 : decode cX8_sacks 29 = .ok (.ireturn, 1) := by decide +kernel
theorem dX8_sacks_30 : decode cX8_sacks 30 = .ok (.aload_n 0, 1) := by decide +kernel
theorem dX8_sacks_31 : decode cX8_sacks 31 = .ok (.getfield 32, 3) := by decide +kernel
theorem dX8_sacks_34 : decode cX8_sacks 34 = .ok (.aload_n 0, 1) := by decide +kernel
theorem dX8_sacks_35 : decode cX8_sacks 35 = .ok (.getfield 10, 3) := by decide +kernel
theorem dX8_sacks_38 : decode cX8_sacks 38 = .ok (.iload_n 1, 1) := by decide +kernel
theorem dX8_sacks_39 : decode cX8_sacks 39 = .ok (.iload_n 2, 1) := by decide +kernel
theorem dX8_sacks_40 : decode cX8_sacks 40 = .ok (.invokevirtual 283, 3) := by decide +kernel
theorem dX8_sacks_43 : decode cX8_sacks 43 = .ok (.ireturn, 1) := by decide +kernel
theorem dX8_balconies_0 : decode cX8_balconies 0 = .ok (.iload_n 1, 1) := by decide +kernel
theorem dX8_balconies_1 : decode cX8_balconies 1 = .ok (.iconst 1, 1) := by decide +kernel
theorem dX8_balconies_2 : decode cX8_balconies 2 = .ok (.invokestatic 148, 3) := by decide +kernel
theorem dX8_balconies_5 : decode cX8_balconies 5 = .ok (.ifCond .ne 10, 3) := by decide +kernel
theorem dX8_balconies_8 : decode cX8_balconies 8 = .ok (.aload_n 0, 1) := by decide +kernel
theorem dX8_balconies_9 : decode cX8_balconies 9 = .ok (.bipush (-5), 2) := by decide +kernel
theorem dX8_balconies_11 : decode cX8_balconies 11 = .ok (.invokevirtual 72, 3) := by decide +kernel
theorem dX8_balconies_14 : decode cX8_balconies 14 = .ok (.ireturn, 1) := by decide +kernel
theorem dX8_balconies_15 : decode cX8_balconies 15 = .ok (.aload_n 0, 1) := by decide +kernel
theorem dX8_balconies_16 : decode cX8_balconies 16 = .ok (.getfield 32, 3) := by decide +kernel
theorem dX8_balconies_19 : decode cX8_balconies 19 = .ok (.aload_n 0, 1) := by decide +kernel
theorem dX8_balconies_20 : decode cX8_balconies 20 = .ok (.getfield 10, 3) := by decide +kernel
theorem dX8_balconies_23 : decode cX8_balconies 23 = .ok (.iload_n 1, 1) := by decide +kernel
theorem dX8_balconies_24 : decode cX8_balconies 24 = .ok (.invokevirtual 286, 3) := by decide +kernel
theorem dX8_balconies_27 : decode cX8_balconies 27 = .ok (.ireturn, 1) := by decide +kernel
theorem dX8_fits_0 : decode cX8_fits 0 = .ok (.aload_n 0, 1) := by decide +kernel
theorem dX8_fits_1 : decode cX8_fits 1 = .ok (.iload_n 2, 1) := by decide +kernel
theorem dX8_fits_2 : decode cX8_fits 2 = .ok (.invokevirtual 108, 3) := by decide +kernel
theorem dX8_fits_5 : decode cX8_fits 5 = .ok (.ifCond .ne 9, 3) := by decide +kernel
theorem dX8_fits_8 : decode cX8_fits 8 = .ok (.aload_n 0, 1) := by decide +kernel
theorem dX8_fits_9 : decode cX8_fits 9 = .ok (.iconst (-1), 1) := by decide +kernel
theorem dX8_fits_10 : decode cX8_fits 10 = .ok (.invokevirtual 72, 3) := by decide +kernel
theorem dX8_fits_13 : decode cX8_fits 13 = .ok (.ireturn, 1) := by decide +kernel
theorem dX8_fits_14 : decode cX8_fits 14 = .ok (.aload_n 0, 1) := by decide +kernel
theorem dX8_fits_15 : decode cX8_fits 15 = .ok (.iload_n 1, 1) := by decide +kernel
theorem dX8_fits_16 : decode cX8_fits 16 = .ok (.invokevirtual 80, 3) := by decide +kernel
theorem dX8_fits_19 : decode cX8_fits 19 = .ok (.istore_n 3, 1) := by decide +kernel
theorem dX8_fits_20 : decode cX8_fits 20 = .ok (.iload_n 3, 1) := by decide +kernel
theorem dX8_fits_21 : decode cX8_fits 21 = .ok (.ifCond .eq 9, 3) := by decide +kernel
theorem dX8_fits_24 : decode cX8_fits 24 = .ok (.aload_n 0, 1) := by decide +kernel
theorem dX8_fits_25 : decode cX8_fits 25 = .ok (.iload_n 3, 1) := by decide +kernel
theorem dX8_fits_26 : decode cX8_fits 26 = .ok (.invokevirtual 72, 3) := by decide +kernel
theorem dX8_fits_29 : decode cX8_fits 29 = .ok (.ireturn, 1) := by decide +kernel
theorem dX8_fits_30 : decode cX8_fits 30 = .ok (.aload_n 0, 1) := by decide +kernel
theorem dX8_fits_31 : decode cX8_fits 31 = .ok (.getfield 59, 3) := by decide +kernel
theorem dX8_fits_34 : decode cX8_fits 34 = .ok (.iload_n 1, 1) := by decide +kernel
theorem dX8_fits_35 : decode cX8_fits 35 = .ok (.aaload, 1) := by decide +kernel
theorem dX8_fits_36 : decode cX8_fits 36 = .ok (.getfield 289, 3) := by decide +kernel
theorem dX8_fits_39 : decode cX8_fits 39 = .ok (.aload_n 0, 1) := by decide +kernel
theorem dX8_fits_40 : decode cX8_fits 40 = .ok (.getfield 10, 3) := by decide +kernel
theorem dX8_fits_43 : decode cX8_fits 43 = .ok (.getfield 157, 3) := by decide +kernel
theorem dX8_fits_46 : decode cX8_fits 46 = .ok (.if_icmp .ge 10, 3) := by decide +kernel
theorem dX8_fits_49 : decode cX8_fits 49 = .ok (.aload_n 0, 1) := by decide +kernel
theorem dX8_fits_50 : decode cX8_fits 50 = .ok (.bipush (-5), 2) := by decide +kernel
theorem dX8_fits_52 : decode cX8_fits 52 = .ok (.invokevirtual 72, 3) := by decide +kernel
theorem dX8_fits_55 : decode cX8_fits 55 = .ok (.ireturn, 1) := by decide +kernel
theorem dX8_fits_56 : decode cX8_fits 56 = .ok (.aload_n 0, 1) := by decide +kernel
theorem dX8_fits_57 : decode cX8_fits 57 = .ok (.getfield 32, 3) := by decide +kernel
theorem dX8_fits_60 : decode cX8_fits 60 = .ok (.aload_n 0, 1) := by decide +kernel
theorem dX8_fits_61 : decode cX8_fits 61 = .ok (.getfield 10, 3) := by decide +kernel
theorem dX8_fits_64 : decode cX8_fits 64 = .ok (.iload_n 2, 1) := by decide +kernel
theorem dX8_fits_65 : decode cX8_fits 65 = .ok (.aload_n 0, 1) := by decide +kernel
theorem dX8_fits_66 : decode cX8_fits 66 = .ok (.getfield 59, 3) := by decide +kernel
theorem dX8_fits_69 : decode cX8_fits 69 = .ok (.iload_n 1, 1) := by decide +kernel
theorem dX8_fits_70 : decode cX8_fits 70 = .ok (.aaload, 1) := by decide +kernel
theorem dX8_fits_71 : decode cX8_fits 71 = .ok (.invokevirtual 292, 3) := by decide +kernel
theorem dX8_fits_74 : decode cX8_fits 74 = .ok (.ireturn, 1) := by decide +kernel
theorem dX8_most_0 : decode cX8_most 0 = .ok (.aload_n 0, 1) := by decide +kernel
theorem dX8_most_1 : decode cX8_most 1 = .ok (.getfield 10, 3) := by decide +kernel
theorem dX8_most_4 : decode cX8_most 4 = .ok (.getfield 157, 3) := by decide +kernel
theorem dX8_most_7 : decode cX8_most 7 = .ok (.ifCond .eq 11, 3) := by decide +kernel
theorem dX8_most_10 : decode cX8_most 10 = .ok (.iload_n 1, 1) := by decide +kernel
theorem dX8_most_11 : decode cX8_most 11 = .ok (.iconst 1, 1) := by decide +kernel
theorem dX8_most_12 : decode cX8_most 12 = .ok (.invokestatic 148, 3) := by decide +kernel
theorem dX8_most_15 : decode cX8_most 15 = .ok (.ifCond .ne 10, 3) := by decide +kernel
theorem dX8_most_18 : decode cX8_most 18 = .ok (.aload_n 0, 1) := by decide +kernel
theorem dX8_most_19 : decode cX8_most 19 = .ok (.bipush (-5), 2) := by decide +kernel
theorem dX8_most_21 : decode cX8_most 21 = .ok (.invokevirtual 72, 3) := by decide +kernel
theorem dX8_most_24 : decode cX8_most 24 = .ok (.ireturn, 1) := by decide +kernel
theorem dX8_most_25 : decode cX8_most 25 = .ok (.iload_n 1, 1) := by decide +kernel
theorem dX8_most_26 : decode cX8_most 26 = .ok (.ifCond .ne 17, 3) := by decide +kernel
theorem dX8_most_29 : decode cX8_most 29 = .ok (.aload_n 0, 1) := by decide +kernel
theorem dX8_most_30 : decode cX8_most 30 = .ok (.getfield 32, 3) := by decide +kernel
theorem dX8_most_33 : decode cX8_most 33 = .ok (.aload_n 0, 1) := by decide +kernel
theorem dX8_most_34 : decode cX8_most 34 = .ok (.getfield 10, 3) := by decide +kernel
theorem dX8_most_37 : decode cX8_most 37 = .ok (.invokevirtual 296, 3) := by decide +kernel
theorem dX8_most_40 : decode cX8_most 40 = .ok (.goto 14, 3) := by decide +kernel
theorem dX8_most_43 : decode cX8_most 43 = .ok (.aload_n 0, 1) := by decide +kernel
theorem dX8_most_44 : decode cX8_most 44 = .ok (.getfield 32, 3) := by decide +kernel
theorem dX8_most_47 : decode cX8_most 47 = .ok (.aload_n 0, 1) := by decide +kernel
theorem dX8_most_48 : decode cX8_most 48 = .ok (.getfield 10, 3) := by decide +kernel
theorem dX8_most_51 : decode cX8_most 51 = .ok (.invokevirtual 299, 3) := by decide +kernel
theorem dX8_most_54 : decode cX8_most 54 = .ok (.ireturn, 1) := by decide +kernel
theorem dX8_crowd_0 : decode cX8_crowd 0 = .ok (.iload_n 1, 1) := by decide +kernel
theorem dX8_crowd_1 : decode cX8_crowd 1 = .ok (.iconst 1, 1) := by decide +kernel
theorem dX8_crowd_2 : decode cX8_crowd 2 = .ok (.invokestatic 148, 3) := by decide +kernel
theorem dX8_crowd_5 : decode cX8_crowd 5 = .ok (.ifCond .ne 10, 3) := by decide +kernel
theorem dX8_crowd_8 : decode cX8_crowd 8 = .ok (.aload_n 0, 1) := by decide +kernel
theorem dX8_crowd_9 : decode cX8_crowd 9 = .ok (.bipush (-5), 2) := by decide +kernel
theorem dX8_crowd_11 : decode cX8_crowd 11 = .ok (.invokevirtual 72, 3) := by decide +kernel
theorem dX8_crowd_14 : decode cX8_crowd 14 = .ok (.ireturn, 1) := by decide +kernel
theorem dX8_crowd_15 : decode cX8_crowd 15 = .ok (.iload_n 1, 1) := by decide +kernel
theorem dX8_crowd_16 : decode cX8_crowd 16 = .ok (.ifCond .ne 17, 3) := by decide +kernel
theorem dX8_crowd_19 : decode cX8_crowd 19 = .ok (.aload_n 0, 1) := by decide +kernel
theorem dX8_crowd_20 : decode cX8_crowd 20 = .ok (.getfield 32, 3) := by decide +kernel
theorem dX8_crowd_23 : decode cX8_crowd 23 = .ok (.aload_n 0, 1) := by decide +kernel
theorem dX8_crowd_24 : decode cX8_crowd 24 = .ok (.getfield 10, 3) := by decide +kernel
theorem dX8_crowd_27 : decode cX8_crowd 27 = .ok (.invokevirtual 302, 3) := by decide +kernel
theorem dX8_crowd_30 : decode cX8_crowd 30 = .ok (.goto 13, 3) := by decide +kernel
theorem dX8_crowd_33 : decode cX8_crowd 33 = .ok (.aload_n 0, 1) := by decide +kernel
theorem dX8_crowd_34 : decode cX8_crowd 34 = .ok (.getfield 10, 3) := by decide +kernel
theorem dX8_crowd_37 : decode cX8_crowd 37 = .ok (.invokevirtual 305, 3) := by decide +kernel
theorem dX8_crowd_40 : decode cX8_crowd 40 = .ok (.invokestatic 309, 3) := by decide +kernel
theorem dX8_crowd_43 : decode cX8_crowd 43 = .ok (.ireturn, 1) := by decide +kernel
theorem dX8_judge_0 : decode cX8_judge 0 = .ok (.aload_n 0, 1) := by decide +kernel
theorem dX8_judge_1 : decode cX8_judge 1 = .ok (.iload_n 1, 1) := by decide +kernel
theorem dX8_judge_2 : decode cX8_judge 2 = .ok (.iload_n 2, 1) := by decide +kernel
theorem dX8_judge_3 : decode cX8_judge 3 = .ok (.iconst 0, 1) := by decide +kernel
theorem dX8_judge_4 : decode cX8_judge 4 = .ok (.invokevirtual 315, 3) := by decide +kernel
theorem dX8_judge_7 : decode cX8_judge 7 = .ok (.istore_n 3, 1) := by decide +kernel
theorem dX8_judge_8 : decode cX8_judge 8 = .ok (.iload_n 3, 1) := by decide +kernel
theorem dX8_judge_9 : decode cX8_judge 9 = .ok (.ifCond .eq 9, 3) := by decide +kernel
theorem dX8_judge_12 : decode cX8_judge 12 = .ok (.aload_n 0, 1) := by decide +kernel
theorem dX8_judge_13 : decode cX8_judge 13 = .ok (.iload_n 3, 1) := by decide +kernel
theorem dX8_judge_14 : decode cX8_judge 14 = .ok (.invokevirtual 272, 3) := by decide +kernel
theorem dX8_judge_17 : decode cX8_judge 17 = .ok (.ireturn, 1) := by decide +kernel
theorem dX8_judge_18 : decode cX8_judge 18 = .ok (.aload_n 0, 1) := by decide +kernel
theorem dX8_judge_19 : decode cX8_judge 19 = .ok (.getfield 16, 3) := by decide +kernel
theorem dX8_judge_22 : decode cX8_judge 22 = .ok (.aload_n 0, 1) := by decide +kernel
theorem dX8_judge_23 : decode cX8_judge 23 = .ok (.getfield 10, 3) := by decide +kernel
theorem dX8_judge_26 : decode cX8_judge 26 = .ok (.invokevirtual 224, 3) := by decide +kernel
theorem dX8_judge_29 : decode cX8_judge 29 = .ok (.aload_n 0, 1) := by decide +kernel
theorem dX8_judge_30 : decode cX8_judge 30 = .ok (.getfield 39, 3) := by decide +kernel
theorem dX8_judge_33 : decode cX8_judge 33 = .ok (.aload_n 0, 1) := by decide +kernel
theorem dX8_judge_34 : decode cX8_judge 34 = .ok (.getfield 16, 3) := by decide +kernel
theorem dX8_judge_37 : decode cX8_judge 37 = .ok (.aload_n 0, 1) := by decide +kernel
theorem dX8_judge_38 : decode cX8_judge 38 = .ok (.getfield 59, 3) := by decide +kernel
theorem dX8_judge_41 : decode cX8_judge 41 = .ok (.iload_n 1, 1) := by decide +kernel
theorem dX8_judge_42 : decode cX8_judge 42 = .ok (.aaload, 1) := by decide +kernel
theorem dX8_judge_43 : decode cX8_judge 43 = .ok (.iload_n 2, 1) := by decide +kernel
theorem dX8_judge_44 : decode cX8_judge 44 = .ok (.invokevirtual 319, 3) := by decide +kernel
theorem dX8_judge_47 : decode cX8_judge 47 = .ok (.ireturn, 1) := by decide +kernel
theorem dX8_behind_0 : decode cX8_behind 0 = .ok (.iload_n 3, 1) := by decide +kernel
theorem dX8_behind_1 : decode cX8_behind 1 = .ok (.iconst 2, 1) := by decide +kernel
theorem dX8_behind_2 : decode cX8_behind 2 = .ok (.invokestatic 148, 3) := by decide +kernel
theorem dX8_behind_5 : decode cX8_behind 5 = .ok (.ifCond .eq 18, 3) := by decide +kernel
theorem dX8_behind_8 : decode cX8_behind 8 = .ok (.iload_n 3, 1) := by decide +kernel
theorem dX8_behind_9 : decode cX8_behind 9 = .ok (.iconst 1, 1) := by decide +kernel
theorem dX8_behind_10 : decode cX8_behind 10 = .ok (.if_icmp .ne 17, 3) := by decide +kernel
theorem dX8_behind_13 : decode cX8_behind 13 = .ok (.aload_n 0, 1) := by decide +kernel
theorem dX8_behind_14 : decode cX8_behind 14 = .ok (.getfield 10, 3) := by decide +kernel
theorem dX8_behind_17 : decode cX8_behind 17 = .ok (.getfield 157, 3) := by decide +kernel
theorem dX8_behind_20 : decode cX8_behind 20 = .ok (.ifCond .ne 7, 3) := by decide +kernel
theorem dX8_behind_23 : decode cX8_behind 23 = .ok (.iconst 1, 1) := by decide +kernel
theorem dX8_behind_24 : decode cX8_behind 24 = .ok (.goto 4, 3) := by decide +kernel
theorem dX8_behind_27 : decode cX8_behind 27 = .ok (.iconst 0, 1) := by decide +kernel
theorem dX8_behind_28 : decode cX8_behind 28 = .ok (.istore 4, 2) := by decide +kernel
theorem dX8_behind_30 : decode cX8_behind 30 = .ok (.aload_n 0, 1) := by decide +kernel
theorem dX8_behind_31 : decode cX8_behind 31 = .ok (.iload_n 1, 1) := by decide +kernel
theorem dX8_behind_32 : decode cX8_behind 32 = .ok (.iload_n 2, 1) := by decide +kernel
theorem dX8_behind_33 : decode cX8_behind 33 = .ok (.iload 4, 2) := by decide +kernel
theorem dX8_behind_35 : decode cX8_behind 35 = .ok (.invokevirtual 323, 3) := by decide +kernel
theorem dX8_behind_38 : decode cX8_behind 38 = .ok (.istore 5, 2) := by decide +kernel
theorem dX8_behind_40 : decode cX8_behind 40 = .ok (.iload 5, 2) := by decide +kernel
theorem dX8_behind_42 : decode cX8_behind 42 = .ok (.ifCond .eq 10, 3) := by decide +kernel
theorem dX8_behind_45 : decode cX8_behind 45 = .ok (.aload_n 0, 1) := by decide +kernel
theorem dX8_behind_46 : decode cX8_behind 46 = .ok (.iload 5, 2) := by decide +kernel
theorem dX8_behind_48 : decode cX8_behind 48 = .ok (.invokevirtual 72, 3) := by decide +kernel
theorem dX8_behind_51 : decode cX8_behind 51 = .ok (.ireturn, 1) := by decide +kernel
theorem dX8_behind_52 : decode cX8_behind 52 = .ok (.iload_n 3, 1) := by decide +kernel
theorem dX8_behind_53 : decode cX8_behind 53 = .ok (.lookupswitch 56 #[(0, 27), (1, 43)], 27) := by decide +kernel
theorem dX8_behind_80 : decode cX8_behind 80 = .ok (.aload_n 0, 1) := by decide +kernel
theorem dX8_behind_81 : decode cX8_behind 81 = .ok (.getfield 16, 3) := by decide +kernel
theorem dX8_behind_84 : decode cX8_behind 84 = .ok (.getfield 326, 3) := by decide +kernel
theorem dX8_behind_87 : decode cX8_behind 87 = .ok (.aload_n 0, 1) := by decide +kernel
theorem dX8_behind_88 : decode cX8_behind 88 = .ok (.getfield 10, 3) := by decide +kernel
theorem dX8_behind_91 : decode cX8_behind 91 = .ok (.getfield 326, 3) := by decide +kernel
theorem dX8_behind_94 : decode cX8_behind 94 = .ok (.isub, 1) := by decide +kernel
theorem dX8_behind_95 : decode cX8_behind 95 = .ok (.ireturn, 1) := by decide +kernel
theorem dX8_behind_96 : decode cX8_behind 96 = .ok (.aload_n 0, 1) := by decide +kernel
theorem dX8_behind_97 : decode cX8_behind 97 = .ok (.getfield 16, 3) := by decide +kernel
theorem dX8_behind_100 : decode cX8_behind 100 = .ok (.getfield 131, 3) := by decide +kernel
theorem dX8_behind_103 : decode cX8_behind 103 = .ok (.iconst 0, 1) := by decide +kernel
theorem dX8_behind_104 : decode cX8_behind 104 = .ok (.aaload, 1) := by decide +kernel
theorem dX8_behind_105 : decode cX8_behind 105 = .ok (.getfield 190, 3) := by decide +kernel
theorem dX8_behind_108 : decode cX8_behind 108 = .ok (.ireturn, 1) := by decide +kernel
theorem dX8_behind_109 : decode cX8_behind 109 = .ok (.aload_n 0, 1) := by decide +kernel
theorem dX8_behind_110 : decode cX8_behind 110 = .ok (.getfield 16, 3) := by decide +kernel
theorem dX8_behind_113 : decode cX8_behind 113 = .ok (.invokevirtual 329, 3) := by decide +kernel
theorem dX8_behind_116 : decode cX8_behind 116 = .ok (.ireturn, 1) := by decide +kernel
theorem dX8_done_0 : decode cX8_done 0 = .ok (.aload_n 0, 1) := by decide +kernel
theorem dX8_done_1 : decode cX8_done 1 = .ok (.iload_n 1, 1) := by decide +kernel
theorem dX8_done_2 : decode cX8_done 2 = .ok (.iload_n 2, 1) := by decide +kernel
theorem dX8_done_3 : decode cX8_done 3 = .ok (.iconst 0, 1) := by decide +kernel
theorem dX8_done_4 : decode cX8_done 4 = .ok (.invokevirtual 323, 3) := by decide +kernel
theorem dX8_done_7 : decode cX8_done 7 = .ok (.istore_n 3, 1) := by decide +kernel
theorem dX8_done_8 : decode cX8_done 8 = .ok (.iload_n 3, 1) := by decide +kernel
theorem dX8_done_9 : decode cX8_done 9 = .ok (.ifCond .eq 9, 3) := by decide +kernel
theorem dX8_done_12 : decode cX8_done 12 = .ok (.aload_n 0, 1) := by decide +kernel
theorem dX8_done_13 : decode cX8_done 13 = .ok (.iload_n 3, 1) := by decide +kernel
theorem dX8_done_14 : decode cX8_done 14 = .ok (.invokevirtual 72, 3) := by decide +kernel
theorem dX8_done_17 : decode cX8_done 17 = .ok (.ireturn, 1) := by decide +kernel
theorem dX8_done_18 : decode cX8_done 18 = .ok (.aload_n 0, 1) := by decide +kernel
theorem dX8_done_19 : decode cX8_done 19 = .ok (.getfield 10, 3) := by decide +kernel
theorem dX8_done_22 : decode cX8_done 22 = .ok (.aload_n 0, 1) := by decide +kernel
theorem dX8_done_23 : decode cX8_done 23 = .ok (.getfield 16, 3) := by decide +kernel
theorem dX8_done_26 : decode cX8_done 26 = .ok (.invokevirtual 224, 3) := by decide +kernel
theorem dX8_done_29 : decode cX8_done 29 = .ok (.aload_n 0, 1) := by decide +kernel
theorem dX8_done_30 : decode cX8_done 30 = .ok (.getfield 10, 3) := by decide +kernel
theorem dX8_done_33 : decode cX8_done 33 = .ok (.dup, 1) := by decide +kernel
theorem dX8_done_34 : decode cX8_done 34 = .ok (.getfield 332, 3) := by decide +kernel
theorem dX8_done_37 : decode cX8_done 37 = .ok (.iconst 1, 1) := by decide +kernel
theorem dX8_done_38 : decode cX8_done 38 = .ok (.iadd, 1) := by decide +kernel
theorem dX8_done_39 : decode cX8_done 39 = .ok (.putfield 332, 3) := by decide +kernel
theorem dX8_done_42 : decode cX8_done 42 = .ok (.aload_n 0, 1) := by decide +kernel
theorem dX8_done_43 : decode cX8_done 43 = .ok (.getfield 10, 3) := by decide +kernel
theorem dX8_done_46 : decode cX8_done 46 = .ok (.getfield 326, 3) := by decide +kernel
theorem dX8_done_49 : decode cX8_done 49 = .ok (.ireturn, 1) := by decide +kernel
theorem dX8_hours_0 : decode cX8_hours 0 = .ok (.iload_n 1, 1) := by decide +kernel
theorem dX8_hours_1 : decode cX8_hours 1 = .ok (.iconst 1, 1) := by decide +kernel
theorem dX8_hours_2 : decode cX8_hours 2 = .ok (.if_icmp .lt 9, 3) := by decide +kernel
theorem dX8_hours_5 : decode cX8_hours 5 = .ok (.iload_n 1, 1) := by decide +kernel
theorem dX8_hours_6 : decode cX8_hours 6 = .ok (.bipush 40, 2) := by decide +kernel
theorem dX8_hours_8 : decode cX8_hours 8 = .ok (.if_icmp .le 10, 3) := by decide +kernel
theorem dX8_hours_11 : decode cX8_hours 11 = .ok (.aload_n 0, 1) := by decide +kernel
theorem dX8_hours_12 : decode cX8_hours 12 = .ok (.bipush (-6), 2) := by decide +kernel
theorem dX8_hours_14 : decode cX8_hours 14 = .ok (.invokevirtual 72, 3) := by decide +kernel
theorem dX8_hours_17 : decode cX8_hours 17 = .ok (.ireturn, 1) := by decide +kernel
theorem dX8_hours_18 : decode cX8_hours 18 = .ok (.iconst 0, 1) := by decide +kernel
theorem dX8_hours_19 : decode cX8_hours 19 = .ok (.istore_n 2, 1) := by decide +kernel
theorem dX8_hours_20 : decode cX8_hours 20 = .ok (.iload_n 2, 1) := by decide +kernel
theorem dX8_hours_21 : decode cX8_hours 21 = .ok (.iload_n 1, 1) := by decide +kernel
theorem dX8_hours_22 : decode cX8_hours 22 = .ok (.if_icmp .ge 20, 3) := by decide +kernel
theorem dX8_hours_25 : decode cX8_hours 25 = .ok (.aload_n 0, 1) := by decide +kernel
theorem dX8_hours_26 : decode cX8_hours 26 = .ok (.getfield 39, 3) := by decide +kernel
theorem dX8_hours_29 : decode cX8_hours 29 = .ok (.aload_n 0, 1) := by decide +kernel
theorem dX8_hours_30 : decode cX8_hours 30 = .ok (.getfield 10, 3) := by decide +kernel
theorem dX8_hours_33 : decode cX8_hours 33 = .ok (.invokevirtual 335, 3) := by decide +kernel
theorem dX8_hours_36 : decode cX8_hours 36 = .ok (.iinc 2 1, 3) := by decide +kernel
theorem dX8_hours_39 : decode cX8_hours 39 = .ok (.goto (-19), 3) := by decide +kernel
theorem dX8_hours_42 : decode cX8_hours 42 = .ok (.aload_n 0, 1) := by decide +kernel
theorem dX8_hours_43 : decode cX8_hours 43 = .ok (.getfield 10, 3) := by decide +kernel
theorem dX8_hours_46 : decode cX8_hours 46 = .ok (.getfield 326, 3) := by decide +kernel
theorem dX8_hours_49 : decode cX8_hours 49 = .ok (.ireturn, 1) := by decide +kernel
theorem dX8_seed_0 : decode cX8_seed 0 = .ok (.aload_n 0, 1) := by decide +kernel
theorem dX8_seed_1 : decode cX8_seed 1 = .ok (.getfield 10, 3) := by decide +kernel
theorem dX8_seed_4 : decode cX8_seed 4 = .ok (.getfield 338, 3) := by decide +kernel
theorem dX8_seed_7 : decode cX8_seed 7 = .ok (.istore_n 2, 1) := by decide +kernel
theorem dX8_seed_8 : decode cX8_seed 8 = .ok (.aload_n 0, 1) := by decide +kernel
theorem dX8_seed_9 : decode cX8_seed 9 = .ok (.getfield 10, 3) := by decide +kernel
theorem dX8_seed_12 : decode cX8_seed 12 = .ok (.iload_n 1, 1) := by decide +kernel
theorem dX8_seed_13 : decode cX8_seed 13 = .ok (.putfield 338, 3) := by decide +kernel
theorem dX8_seed_16 : decode cX8_seed 16 = .ok (.iload_n 2, 1) := by decide +kernel
theorem dX8_seed_17 : decode cX8_seed 17 = .ok (.ireturn, 1) := by decide +kernel
theorem dX8_act_0 : decode cX8_act 0 = .ok (.aload_n 0, 1) := by decide +kernel
theorem dX8_act_1 : decode cX8_act 1 = .ok (.iload_n 1, 1) := by decide +kernel
theorem dX8_act_2 : decode cX8_act 2 = .ok (.invokevirtual 108, 3) := by decide +kernel
theorem dX8_act_5 : decode cX8_act 5 = .ok (.ifCond .eq 11, 3) := by decide +kernel
theorem dX8_act_8 : decode cX8_act 8 = .ok (.iload_n 2, 1) := by decide +kernel
theorem dX8_act_9 : decode cX8_act 9 = .ok (.iconst 2, 1) := by decide +kernel
theorem dX8_act_10 : decode cX8_act 10 = .ok (.invokestatic 148, 3) := by decide +kernel
theorem dX8_act_13 : decode cX8_act 13 = .ok (.ifCond .ne 12, 3) := by decide +kernel
theorem dX8_act_16 : decode cX8_act 16 = .ok (.aload_n 0, 1) := by decide +kernel
theorem dX8_act_17 : decode cX8_act 17 = .ok (.getfield 53, 3) := by decide +kernel
theorem dX8_act_20 : decode cX8_act 20 = .ok (.invokevirtual 341, 3) := by decide +kernel
theorem dX8_act_23 : decode cX8_act 23 = .ok (.iconst 0, 1) := by decide +kernel
theorem dX8_act_24 : decode cX8_act 24 = .ok (.ireturn, 1) := by decide +kernel
theorem dX8_act_25 : decode cX8_act 25 = .ok (.aload_n 0, 1) := by decide +kernel
theorem dX8_act_26 : decode cX8_act 26 = .ok (.getfield 53, 3) := by decide +kernel
theorem dX8_act_29 : decode cX8_act 29 = .ok (.aload_n 0, 1) := by decide +kernel
theorem dX8_act_30 : decode cX8_act 30 = .ok (.getfield 10, 3) := by decide +kernel
theorem dX8_act_33 : decode cX8_act 33 = .ok (.getfield 131, 3) := by decide +kernel
theorem dX8_act_36 : decode cX8_act 36 = .ok (.iload_n 1, 1) := by decide +kernel
theorem dX8_act_37 : decode cX8_act 37 = .ok (.aaload, 1) := by decide +kernel
theorem dX8_act_38 : decode cX8_act 38 = .ok (.iload_n 1, 1) := by decide +kernel
theorem dX8_act_39 : decode cX8_act 39 = .ok (.iload_n 2, 1) := by decide +kernel
theorem dX8_act_40 : decode cX8_act 40 = .ok (.iload_n 3, 1) := by decide +kernel
theorem dX8_act_41 : decode cX8_act 41 = .ok (.invokevirtual 344, 3) := by decide +kernel
theorem dX8_act_44 : decode cX8_act 44 = .ok (.ireturn, 1) := by decide +kernel
theorem dX8_trace_0 : decode cX8_trace 0 = .ok (.iload_n 1, 1) := by decide +kernel
theorem dX8_trace_1 : decode cX8_trace 1 = .ok (.ifCond .lt 32, 3) := by decide +kernel
theorem dX8_trace_4 : decode cX8_trace 4 = .ok (.iload_n 1, 1) := by decide +kernel
theorem dX8_trace_5 : decode cX8_trace 5 = .ok (.aload_n 0, 1) := by decide +kernel
theorem dX8_trace_6 : decode cX8_trace 6 = .ok (.getfield 53, 3) := by decide +kernel
theorem dX8_trace_9 : decode cX8_trace 9 = .ok (.getfield 348, 3) := by decide +kernel
theorem dX8_trace_12 : decode cX8_trace 12 = .ok (.if_icmp .ge 21, 3) := by decide +kernel
theorem dX8_trace_15 : decode cX8_trace 15 = .ok (.iload_n 1, 1) := by decide +kernel
theorem dX8_trace_16 : decode cX8_trace 16 = .ok (.bipush 20, 2) := by decide +kernel
theorem dX8_trace_18 : decode cX8_trace 18 = .ok (.if_icmp .ge 15, 3) := by decide +kernel
theorem dX8_trace_21 : decode cX8_trace 21 = .ok (.aload_n 0, 1) := by decide +kernel
theorem dX8_trace_22 : decode cX8_trace 22 = .ok (.getfield 53, 3) := by decide +kernel
theorem dX8_trace_25 : decode cX8_trace 25 = .ok (.getfield 351, 3) := by decide +kernel
theorem dX8_trace_28 : decode cX8_trace 28 = .ok (.iload_n 1, 1) := by decide +kernel
theorem dX8_trace_29 : decode cX8_trace 29 = .ok (.iaload, 1) := by decide +kernel
theorem dX8_trace_30 : decode cX8_trace 30 = .ok (.goto 4, 3) := by decide +kernel
theorem dX8_trace_33 : decode cX8_trace 33 = .ok (.iconst (-1), 1) := by decide +kernel
theorem dX8_trace_34 : decode cX8_trace 34 = .ok (.ireturn, 1) := by decide +kernel
theorem dX8_image_0 : decode cX8_image 0 = .ok (.aload_n 0, 1) := by decide +kernel
theorem dX8_image_1 : decode cX8_image 1 = .ok (.getfield 19, 3) := by decide +kernel
theorem dX8_image_4 : decode cX8_image 4 = .ok (.aload_n 0, 1) := by decide +kernel
theorem dX8_image_5 : decode cX8_image 5 = .ok (.getfield 10, 3) := by decide +kernel
theorem dX8_image_8 : decode cX8_image 8 = .ok (.invokevirtual 224, 3) := by decide +kernel
theorem dX8_image_11 : decode cX8_image 11 = .ok (.aload_n 0, 1) := by decide +kernel
theorem dX8_image_12 : decode cX8_image 12 = .ok (.iconst 1, 1) := by decide +kernel
theorem dX8_image_13 : decode cX8_image 13 = .ok (.putfield 354, 3) := by decide +kernel
theorem dX8_image_16 : decode cX8_image 16 = .ok (.aload_n 0, 1) := by decide +kernel
theorem dX8_image_17 : decode cX8_image 17 = .ok (.getfield 10, 3) := by decide +kernel
theorem dX8_image_20 : decode cX8_image 20 = .ok (.getfield 157, 3) := by decide +kernel
theorem dX8_image_23 : decode cX8_image 23 = .ok (.ireturn, 1) := by decide +kernel
theorem dX8_restore_0 : decode cX8_restore 0 = .ok (.aload_n 0, 1) := by decide +kernel
theorem dX8_restore_1 : decode cX8_restore 1 = .ok (.getfield 354, 3) := by decide +kernel
theorem dX8_restore_4 : decode cX8_restore 4 = .ok (.ifCond .ne 10, 3) := by decide +kernel
theorem dX8_restore_7 : decode cX8_restore 7 = .ok (.aload_n 0, 1) := by decide +kernel
theorem dX8_restore_8 : decode cX8_restore 8 = .ok (.bipush (-6), 2) := by decide +kernel
theorem dX8_restore_10 : decode cX8_restore 10 = .ok (.invokevirtual 72, 3) := by decide +kernel
theorem dX8_restore_13 : decode cX8_restore 13 = .ok (.ireturn, 1) := by decide +kernel
theorem dX8_restore_14 : decode cX8_restore 14 = .ok (.aload_n 0, 1) := by decide +kernel
theorem dX8_restore_15 : decode cX8_restore 15 = .ok (.getfield 10, 3) := by decide +kernel
theorem dX8_restore_18 : decode cX8_restore 18 = .ok (.aload_n 0, 1) := by decide +kernel
theorem dX8_restore_19 : decode cX8_restore 19 = .ok (.getfield 19, 3) := by decide +kernel
theorem dX8_restore_22 : decode cX8_restore 22 = .ok (.invokevirtual 224, 3) := by decide +kernel
theorem dX8_restore_25 : decode cX8_restore 25 = .ok (.aload_n 0, 1) := by decide +kernel
theorem dX8_restore_26 : decode cX8_restore 26 = .ok (.getfield 59, 3) := by decide +kernel
theorem dX8_restore_29 : decode cX8_restore 29 = .ok (.astore_n 1, 1) := by decide +kernel
theorem dX8_restore_30 : decode cX8_restore 30 = .ok (.aload_n 1, 1) := by decide +kernel
theorem dX8_restore_31 : decode cX8_restore 31 = .ok (.arraylength, 1) := by decide +kernel
theorem dX8_restore_32 : decode cX8_restore 32 = .ok (.istore_n 2, 1) := by decide +kernel
theorem dX8_restore_33 : decode cX8_restore 33 = .ok (.iconst 0, 1) := by decide +kernel
theorem dX8_restore_34 : decode cX8_restore 34 = .ok (.istore_n 3, 1) := by decide +kernel
theorem dX8_restore_35 : decode cX8_restore 35 = .ok (.iload_n 3, 1) := by decide +kernel
theorem dX8_restore_36 : decode cX8_restore 36 = .ok (.iload_n 2, 1) := by decide +kernel
theorem dX8_restore_37 : decode cX8_restore 37 = .ok (.if_icmp .ge 42, 3) := by decide +kernel
theorem dX8_restore_40 : decode cX8_restore 40 = .ok (.aload_n 1, 1) := by decide +kernel
theorem dX8_restore_41 : decode cX8_restore 41 = .ok (.iload_n 3, 1) := by decide +kernel
theorem dX8_restore_42 : decode cX8_restore 42 = .ok (.aaload, 1) := by decide +kernel
theorem dX8_restore_43 : decode cX8_restore 43 = .ok (.astore 4, 2) := by decide +kernel
theorem dX8_restore_45 : decode cX8_restore 45 = .ok (.aload 4, 2) := by decide +kernel
theorem dX8_restore_47 : decode cX8_restore 47 = .ok (.invokevirtual 129, 3) := by decide +kernel
theorem dX8_restore_50 : decode cX8_restore 50 = .ok (.ifCond .eq 23, 3) := by decide +kernel
theorem dX8_restore_53 : decode cX8_restore 53 = .ok (.aload 4, 2) := by decide +kernel
theorem dX8_restore_55 : decode cX8_restore 55 = .ok (.getfield 135, 3) := by decide +kernel
theorem dX8_restore_58 : decode cX8_restore 58 = .ok (.aload_n 0, 1) := by decide +kernel
theorem dX8_restore_59 : decode cX8_restore 59 = .ok (.getfield 10, 3) := by decide +kernel
theorem dX8_restore_62 : decode cX8_restore 62 = .ok (.getfield 157, 3) := by decide +kernel
theorem dX8_restore_65 : decode cX8_restore 65 = .ok (.if_icmp .lt 8, 3) := by decide +kernel
theorem dX8_restore_68 : decode cX8_restore 68 = .ok (.aload 4, 2) := by decide +kernel
theorem dX8_restore_70 : decode cX8_restore 70 = .ok (.invokevirtual 111, 3) := by decide +kernel
theorem dX8_restore_73 : decode cX8_restore 73 = .ok (.iinc 3 1, 3) := by decide +kernel
theorem dX8_restore_76 : decode cX8_restore 76 = .ok (.goto (-41), 3) := by decide +kernel
theorem dX8_restore_79 : decode cX8_restore 79 = .ok (.aload_n 0, 1) := by decide +kernel
theorem dX8_restore_80 : decode cX8_restore 80 = .ok (.getfield 10, 3) := by decide +kernel
theorem dX8_restore_83 : decode cX8_restore 83 = .ok (.getfield 157, 3) := by decide +kernel
theorem dX8_restore_86 : decode cX8_restore 86 = .ok (.ireturn, 1) := by decide +kernel
theorem dX8_status_0 : decode cX8_status 0 = .ok (.iload_n 1, 1) := by decide +kernel
theorem dX8_status_1 : decode cX8_status 1 = .ok (.bipush 10, 2) := by decide +kernel
theorem dX8_status_3 : decode cX8_status 3 = .ok (.if_icmp .le 19, 3) := by decide +kernel
theorem dX8_status_6 : decode cX8_status 6 = .ok (.iload_n 1, 1) := by decide +kernel
theorem dX8_status_7 : decode cX8_status 7 = .ok (.bipush 17, 2) := by decide +kernel
theorem dX8_status_9 : decode cX8_status 9 = .ok (.if_icmp .gt 13, 3) := by decide +kernel
theorem dX8_status_12 : decode cX8_status 12 = .ok (.aload_n 0, 1) := by decide +kernel
theorem dX8_status_13 : decode cX8_status 13 = .ok (.getfield 63, 3) := by decide +kernel
theorem dX8_status_16 : decode cX8_status 16 = .ok (.iload_n 1, 1) := by decide +kernel
theorem dX8_status_17 : decode cX8_status 17 = .ok (.bipush 10, 2) := by decide +kernel
theorem dX8_status_19 : decode cX8_status 19 = .ok (.isub, 1) := by decide +kernel
theorem dX8_status_20 : decode cX8_status 20 = .ok (.iaload, 1) := by decide +kernel
theorem dX8_status_21 : decode cX8_status 21 = .ok (.ireturn, 1) := by decide +kernel
theorem dX8_status_22 : decode cX8_status 22 = .ok (.iload_n 1, 1) := by decide +kernel
theorem dX8_status_23 : decode cX8_status 23 = .ok (.tableswitch 154 0 10 #[57, 65, 76, 87, 95, 103, 114, 122, 130, 138, 146], 57) := by decide +kernel
theorem dX8_status_80 : decode cX8_status 80 = .ok (.aload_n 0, 1) := by decide +kernel
theorem dX8_status_81 : decode cX8_status 81 = .ok (.getfield 10, 3) := by decide +kernel
theorem dX8_status_84 : decode cX8_status 84 = .ok (.getfield 157, 3) := by decide +kernel
theorem dX8_status_87 : decode cX8_status 87 = .ok (.ireturn, 1) := by decide +kernel
theorem dX8_status_88 : decode cX8_status 88 = .ok (.aload_n 0, 1) := by decide +kernel
theorem dX8_status_89 : decode cX8_status 89 = .ok (.getfield 10, 3) := by decide +kernel
theorem dX8_status_92 : decode cX8_status 92 = .ok (.getfield 357, 3) := by decide +kernel
theorem dX8_status_95 : decode cX8_status 95 = .ok (.invokestatic 309, 3) := by decide +kernel
theorem dX8_status_98 : decode cX8_status 98 = .ok (.ireturn, 1) := by decide +kernel
theorem dX8_status_99 : decode cX8_status 99 = .ok (.aload_n 0, 1) := by decide +kernel
theorem dX8_status_100 : decode cX8_status 100 = .ok (.getfield 10, 3) := by decide +kernel
theorem dX8_status_103 : decode cX8_status 103 = .ok (.getfield 361, 3) := by decide +kernel
theorem dX8_status_106 : decode cX8_status 106 = .ok (.invokestatic 309, 3) := by decide +kernel
theorem dX8_status_109 : decode cX8_status 109 = .ok (.ireturn, 1) := by decide +kernel
theorem dX8_status_110 : decode cX8_status 110 = .ok (.aload_n 0, 1) := by decide +kernel
theorem dX8_status_111 : decode cX8_status 111 = .ok (.getfield 10, 3) := by decide +kernel
theorem dX8_status_114 : decode cX8_status 114 = .ok (.getfield 197, 3) := by decide +kernel
theorem dX8_status_117 : decode cX8_status 117 = .ok (.ireturn, 1) := by decide +kernel
theorem dX8_status_118 : decode cX8_status 118 = .ok (.aload_n 0, 1) := by decide +kernel
theorem dX8_status_119 : decode cX8_status 119 = .ok (.getfield 10, 3) := by decide +kernel
theorem dX8_status_122 : decode cX8_status 122 = .ok (.getfield 200, 3) := by decide +kernel
theorem dX8_status_125 : decode cX8_status 125 = .ok (.ireturn, 1) := by decide +kernel
theorem dX8_status_126 : decode cX8_status 126 = .ok (.aload_n 0, 1) := by decide +kernel
theorem dX8_status_127 : decode cX8_status 127 = .ok (.getfield 10, 3) := by decide +kernel
theorem dX8_status_130 : decode cX8_status 130 = .ok (.getfield 203, 3) := by decide +kernel
theorem dX8_status_133 : decode cX8_status 133 = .ok (.invokestatic 177, 3) := by decide +kernel
theorem dX8_status_136 : decode cX8_status 136 = .ok (.ireturn, 1) := by decide +kernel
theorem dX8_status_137 : decode cX8_status 137 = .ok (.aload_n 0, 1) := by decide +kernel
theorem dX8_status_138 : decode cX8_status 138 = .ok (.getfield 10, 3) := by decide +kernel
theorem dX8_status_141 : decode cX8_status 141 = .ok (.getfield 332, 3) := by decide +kernel
theorem dX8_status_144 : decode cX8_status 144 = .ok (.ireturn, 1) := by decide +kernel
theorem dX8_status_145 : decode cX8_status 145 = .ok (.aload_n 0, 1) := by decide +kernel
theorem dX8_status_146 : decode cX8_status 146 = .ok (.getfield 10, 3) := by decide +kernel
theorem dX8_status_149 : decode cX8_status 149 = .ok (.getfield 326, 3) := by decide +kernel
theorem dX8_status_152 : decode cX8_status 152 = .ok (.ireturn, 1) := by decide +kernel
theorem dX8_status_153 : decode cX8_status 153 = .ok (.aload_n 0, 1) := by decide +kernel
theorem dX8_status_154 : decode cX8_status 154 = .ok (.getfield 10, 3) := by decide +kernel
theorem dX8_status_157 : decode cX8_status 157 = .ok (.invokevirtual 364, 3) := by decide +kernel
theorem dX8_status_160 : decode cX8_status 160 = .ok (.ireturn, 1) := by decide +kernel
theorem dX8_status_161 : decode cX8_status 161 = .ok (.aload_n 0, 1) := by decide +kernel
theorem dX8_status_162 : decode cX8_status 162 = .ok (.getfield 10, 3) := by decide +kernel
theorem dX8_status_165 : decode cX8_status 165 = .ok (.getfield 338, 3) := by decide +kernel
theorem dX8_status_168 : decode cX8_status 168 = .ok (.ireturn, 1) := by decide +kernel
theorem dX8_status_169 : decode cX8_status 169 = .ok (.aload_n 0, 1) := by decide +kernel
theorem dX8_status_170 : decode cX8_status 170 = .ok (.getfield 53, 3) := by decide +kernel
theorem dX8_status_173 : decode cX8_status 173 = .ok (.getfield 348, 3) := by decide +kernel
theorem dX8_status_176 : decode cX8_status 176 = .ok (.ireturn, 1) := by decide +kernel
theorem dX8_status_177 : decode cX8_status 177 = .ok (.iconst (-1), 1) := by decide +kernel
theorem dX8_status_178 : decode cX8_status 178 = .ok (.ireturn, 1) := by decide +kernel
theorem dX8_refuse_0 : decode cX8_refuse 0 = .ok (.iload_n 1, 1) := by decide +kernel
theorem dX8_refuse_1 : decode cX8_refuse 1 = .ok (.ineg, 1) := by decide +kernel
theorem dX8_refuse_2 : decode cX8_refuse 2 = .ok (.istore_n 2, 1) := by decide +kernel
theorem dX8_refuse_3 : decode cX8_refuse 3 = .ok (.iload_n 2, 1) := by decide +kernel
theorem dX8_refuse_4 : decode cX8_refuse 4 = .ok (.iconst 1, 1) := by decide +kernel
theorem dX8_refuse_5 : decode cX8_refuse 5 = .ok (.if_icmp .lt 19, 3) := by decide +kernel
theorem dX8_refuse_8 : decode cX8_refuse 8 = .ok (.iload_n 2, 1) := by decide +kernel
theorem dX8_refuse_9 : decode cX8_refuse 9 = .ok (.bipush 7, 2) := by decide +kernel
theorem dX8_refuse_11 : decode cX8_refuse 11 = .ok (.if_icmp .gt 13, 3) := by decide +kernel
theorem dX8_refuse_14 : decode cX8_refuse 14 = .ok (.aload_n 0, 1) := by decide +kernel
theorem dX8_refuse_15 : decode cX8_refuse 15 = .ok (.getfield 63, 3) := by decide +kernel
theorem dX8_refuse_18 : decode cX8_refuse 18 = .ok (.iload_n 2, 1) := by decide +kernel
theorem dX8_refuse_19 : decode cX8_refuse 19 = .ok (.dup2, 1) := by decide +kernel
theorem dX8_refuse_20 : decode cX8_refuse 20 = .ok (.iaload, 1) := by decide +kernel
theorem dX8_refuse_21 : decode cX8_refuse 21 = .ok (.iconst 1, 1) := by decide +kernel
theorem dX8_refuse_22 : decode cX8_refuse 22 = .ok (.iadd, 1) := by decide +kernel
theorem dX8_refuse_23 : decode cX8_refuse 23 = .ok (.iastore, 1) := by decide +kernel
theorem dX8_refuse_24 : decode cX8_refuse 24 = .ok (.iload_n 1, 1) := by decide +kernel
theorem dX8_refuse_25 : decode cX8_refuse 25 = .ok (.ireturn, 1) := by decide +kernel
theorem dX8_refuseLowered_0 : decode cX8_refuseLowered 0 = .ok (.aload_n 0, 1) := by decide +kernel
theorem dX8_refuseLowered_1 : decode cX8_refuseLowered 1 = .ok (.iload_n 1, 1) := by decide +kernel
theorem dX8_refuseLowered_2 : decode cX8_refuseLowered 2 = .ok (.invokevirtual 72, 3) := by decide +kernel
theorem dX8_refuseLowered_5 : decode cX8_refuseLowered 5 = .ok (.bipush 10, 2) := by decide +kernel
theorem dX8_refuseLowered_7 : decode cX8_refuseLowered 7 = .ok (.isub, 1) := by decide +kernel
theorem dX8_refuseLowered_8 : decode cX8_refuseLowered 8 = .ok (.ireturn, 1) := by decide +kernel
theorem dX8_rowRefusal_0 : decode cX8_rowRefusal 0 = .ok (.iload_n 1, 1) := by decide +kernel
theorem dX8_rowRefusal_1 : decode cX8_rowRefusal 1 = .ok (.invokestatic 68, 3) := by decide +kernel
theorem dX8_rowRefusal_4 : decode cX8_rowRefusal 4 = .ok (.ifCond .ne 5, 3) := by decide +kernel
theorem dX8_rowRefusal_7 : decode cX8_rowRefusal 7 = .ok (.iconst (-1), 1) := by decide +kernel
theorem dX8_rowRefusal_8 : decode cX8_rowRefusal 8 = .ok (.ireturn, 1) := by decide +kernel
theorem dX8_rowRefusal_9 : decode cX8_rowRefusal 9 = .ok (.aload_n 0, 1) := by decide +kernel
theorem dX8_rowRefusal_10 : decode cX8_rowRefusal 10 = .ok (.getfield 59, 3) := by decide +kernel
theorem dX8_rowRefusal_13 : decode cX8_rowRefusal 13 = .ok (.iload_n 1, 1) := by decide +kernel
theorem dX8_rowRefusal_14 : decode cX8_rowRefusal 14 = .ok (.aaload, 1) := by decide +kernel
theorem dX8_rowRefusal_15 : decode cX8_rowRefusal 15 = .ok (.invokevirtual 129, 3) := by decide +kernel
theorem dX8_rowRefusal_18 : decode cX8_rowRefusal 18 = .ok (.ifCond .eq 6, 3) := by decide +kernel
theorem dX8_rowRefusal_21 : decode cX8_rowRefusal 21 = .ok (.bipush (-2), 2) := by decide +kernel
theorem dX8_rowRefusal_23 : decode cX8_rowRefusal 23 = .ok (.ireturn, 1) := by decide +kernel
theorem dX8_rowRefusal_24 : decode cX8_rowRefusal 24 = .ok (.aload_n 0, 1) := by decide +kernel
theorem dX8_rowRefusal_25 : decode cX8_rowRefusal 25 = .ok (.getfield 59, 3) := by decide +kernel
theorem dX8_rowRefusal_28 : decode cX8_rowRefusal 28 = .ok (.iload_n 1, 1) := by decide +kernel
theorem dX8_rowRefusal_29 : decode cX8_rowRefusal 29 = .ok (.aaload, 1) := by decide +kernel
theorem dX8_rowRefusal_30 : decode cX8_rowRefusal 30 = .ok (.invokevirtual 125, 3) := by decide +kernel
theorem dX8_rowRefusal_33 : decode cX8_rowRefusal 33 = .ok (.ifCond .eq 7, 3) := by decide +kernel
theorem dX8_rowRefusal_36 : decode cX8_rowRefusal 36 = .ok (.iconst 0, 1) := by decide +kernel
theorem dX8_rowRefusal_37 : decode cX8_rowRefusal 37 = .ok (.goto 5, 3) := by decide +kernel
theorem dX8_rowRefusal_40 : decode cX8_rowRefusal 40 = .ok (.bipush (-3), 2) := by decide +kernel
theorem dX8_rowRefusal_42 : decode cX8_rowRefusal 42 = .ok (.ireturn, 1) := by decide +kernel
theorem dX8_copyRefusal_0 : decode cX8_copyRefusal 0 = .ok (.iload_n 1, 1) := by decide +kernel
theorem dX8_copyRefusal_1 : decode cX8_copyRefusal 1 = .ok (.invokestatic 68, 3) := by decide +kernel
theorem dX8_copyRefusal_4 : decode cX8_copyRefusal 4 = .ok (.ifCond .eq 10, 3) := by decide +kernel
theorem dX8_copyRefusal_7 : decode cX8_copyRefusal 7 = .ok (.iload_n 2, 1) := by decide +kernel
theorem dX8_copyRefusal_8 : decode cX8_copyRefusal 8 = .ok (.invokestatic 68, 3) := by decide +kernel
theorem dX8_copyRefusal_11 : decode cX8_copyRefusal 11 = .ok (.ifCond .ne 5, 3) := by decide +kernel
theorem dX8_copyRefusal_14 : decode cX8_copyRefusal 14 = .ok (.iconst (-1), 1) := by decide +kernel
theorem dX8_copyRefusal_15 : decode cX8_copyRefusal 15 = .ok (.ireturn, 1) := by decide +kernel
theorem dX8_copyRefusal_16 : decode cX8_copyRefusal 16 = .ok (.aload_n 0, 1) := by decide +kernel
theorem dX8_copyRefusal_17 : decode cX8_copyRefusal 17 = .ok (.getfield 59, 3) := by decide +kernel
theorem dX8_copyRefusal_20 : decode cX8_copyRefusal 20 = .ok (.iload_n 1, 1) := by decide +kernel
theorem dX8_copyRefusal_21 : decode cX8_copyRefusal 21 = .ok (.aaload, 1) := by decide +kernel
theorem dX8_copyRefusal_22 : decode cX8_copyRefusal 22 = .ok (.astore_n 3, 1) := by decide +kernel
theorem dX8_copyRefusal_23 : decode cX8_copyRefusal 23 = .ok (.aload_n 0, 1) := by decide +kernel
theorem dX8_copyRefusal_24 : decode cX8_copyRefusal 24 = .ok (.getfield 59, 3) := by decide +kernel
theorem dX8_copyRefusal_27 : decode cX8_copyRefusal 27 = .ok (.iload_n 2, 1) := by decide +kernel
theorem dX8_copyRefusal_28 : decode cX8_copyRefusal 28 = .ok (.aaload, 1) := by decide +kernel
theorem dX8_copyRefusal_29 : decode cX8_copyRefusal 29 = .ok (.astore 4, 2) := by decide +kernel
theorem dX8_copyRefusal_31 : decode cX8_copyRefusal 31 = .ok (.aload_n 3, 1) := by decide +kernel
theorem dX8_copyRefusal_32 : decode cX8_copyRefusal 32 = .ok (.invokevirtual 129, 3) := by decide +kernel
theorem dX8_copyRefusal_35 : decode cX8_copyRefusal 35 = .ok (.ifCond .ne 11, 3) := by decide +kernel
theorem dX8_copyRefusal_38 : decode cX8_copyRefusal 38 = .ok (.aload 4, 2) := by decide +kernel
theorem dX8_copyRefusal_40 : decode cX8_copyRefusal 40 = .ok (.invokevirtual 129, 3) := by decide +kernel
theorem dX8_copyRefusal_43 : decode cX8_copyRefusal 43 = .ok (.ifCond .eq 6, 3) := by decide +kernel
theorem dX8_copyRefusal_46 : decode cX8_copyRefusal 46 = .ok (.bipush (-2), 2) := by decide +kernel
theorem dX8_copyRefusal_48 : decode cX8_copyRefusal 48 = .ok (.ireturn, 1) := by decide +kernel
theorem dX8_copyRefusal_49 : decode cX8_copyRefusal 49 = .ok (.aload_n 3, 1) := by decide +kernel
theorem dX8_copyRefusal_50 : decode cX8_copyRefusal 50 = .ok (.invokevirtual 125, 3) := by decide +kernel
theorem dX8_copyRefusal_53 : decode cX8_copyRefusal 53 = .ok (.ifCond .eq 11, 3) := by decide +kernel
theorem dX8_copyRefusal_56 : decode cX8_copyRefusal 56 = .ok (.aload 4, 2) := by decide +kernel
theorem dX8_copyRefusal_58 : decode cX8_copyRefusal 58 = .ok (.invokevirtual 125, 3) := by decide +kernel
theorem dX8_copyRefusal_61 : decode cX8_copyRefusal 61 = .ok (.ifCond .ne 6, 3) := by decide +kernel
theorem dX8_copyRefusal_64 : decode cX8_copyRefusal 64 = .ok (.bipush (-3), 2) := by decide +kernel
theorem dX8_copyRefusal_66 : decode cX8_copyRefusal 66 = .ok (.ireturn, 1) := by decide +kernel
theorem dX8_copyRefusal_67 : decode cX8_copyRefusal 67 = .ok (.aload_n 3, 1) := by decide +kernel
theorem dX8_copyRefusal_68 : decode cX8_copyRefusal 68 = .ok (.getfield 367, 3) := by decide +kernel
theorem dX8_copyRefusal_71 : decode cX8_copyRefusal 71 = .ok (.aload 4, 2) := by decide +kernel
theorem dX8_copyRefusal_73 : decode cX8_copyRefusal 73 = .ok (.getfield 367, 3) := by decide +kernel
theorem dX8_copyRefusal_76 : decode cX8_copyRefusal 76 = .ok (.if_icmp .ne 7, 3) := by decide +kernel
theorem dX8_copyRefusal_79 : decode cX8_copyRefusal 79 = .ok (.iconst 0, 1) := by decide +kernel
theorem dX8_copyRefusal_80 : decode cX8_copyRefusal 80 = .ok (.goto 5, 3) := by decide +kernel
theorem dX8_copyRefusal_83 : decode cX8_copyRefusal 83 = .ok (.bipush (-2), 2) := by decide +kernel
theorem dX8_copyRefusal_85 : decode cX8_copyRefusal 85 = .ok (.ireturn, 1) := by decide +kernel
theorem dX8_strollRefusal_0 : decode cX8_strollRefusal 0 = .ok (.aload_n 0, 1) := by decide +kernel
theorem dX8_strollRefusal_1 : decode cX8_strollRefusal 1 = .ok (.iload_n 1, 1) := by decide +kernel
theorem dX8_strollRefusal_2 : decode cX8_strollRefusal 2 = .ok (.invokevirtual 80, 3) := by decide +kernel
theorem dX8_strollRefusal_5 : decode cX8_strollRefusal 5 = .ok (.istore 4, 2) := by decide +kernel
theorem dX8_strollRefusal_7 : decode cX8_strollRefusal 7 = .ok (.iload 4, 2) := by decide +kernel
theorem dX8_strollRefusal_9 : decode cX8_strollRefusal 9 = .ok (.ifCond .eq 6, 3) := by decide +kernel
theorem dX8_strollRefusal_12 : decode cX8_strollRefusal 12 = .ok (.iload 4, 2) := by decide +kernel
theorem dX8_strollRefusal_14 : decode cX8_strollRefusal 14 = .ok (.ireturn, 1) := by decide +kernel
theorem dX8_strollRefusal_15 : decode cX8_strollRefusal 15 = .ok (.iload_n 2, 1) := by decide +kernel
theorem dX8_strollRefusal_16 : decode cX8_strollRefusal 16 = .ok (.ifCond .ge 6, 3) := by decide +kernel
theorem dX8_strollRefusal_19 : decode cX8_strollRefusal 19 = .ok (.bipush (-4), 2) := by decide +kernel
theorem dX8_strollRefusal_21 : decode cX8_strollRefusal 21 = .ok (.ireturn, 1) := by decide +kernel
theorem dX8_strollRefusal_22 : decode cX8_strollRefusal 22 = .ok (.iload_n 2, 1) := by decide +kernel
theorem dX8_strollRefusal_23 : decode cX8_strollRefusal 23 = .ok (.aload_n 0, 1) := by decide +kernel
theorem dX8_strollRefusal_24 : decode cX8_strollRefusal 24 = .ok (.getfield 59, 3) := by decide +kernel
theorem dX8_strollRefusal_27 : decode cX8_strollRefusal 27 = .ok (.iload_n 1, 1) := by decide +kernel
theorem dX8_strollRefusal_28 : decode cX8_strollRefusal 28 = .ok (.aaload, 1) := by decide +kernel
theorem dX8_strollRefusal_29 : decode cX8_strollRefusal 29 = .ok (.getfield 289, 3) := by decide +kernel
theorem dX8_strollRefusal_32 : decode cX8_strollRefusal 32 = .ok (.if_icmp .gt 7, 3) := by decide +kernel
theorem dX8_strollRefusal_35 : decode cX8_strollRefusal 35 = .ok (.iload_n 3, 1) := by decide +kernel
theorem dX8_strollRefusal_36 : decode cX8_strollRefusal 36 = .ok (.ifCond .eq 6, 3) := by decide +kernel
theorem dX8_strollRefusal_39 : decode cX8_strollRefusal 39 = .ok (.bipush (-5), 2) := by decide +kernel
theorem dX8_strollRefusal_41 : decode cX8_strollRefusal 41 = .ok (.ireturn, 1) := by decide +kernel
theorem dX8_strollRefusal_42 : decode cX8_strollRefusal 42 = .ok (.iload_n 2, 1) := by decide +kernel
theorem dX8_strollRefusal_43 : decode cX8_strollRefusal 43 = .ok (.bipush 40, 2) := by decide +kernel
theorem dX8_strollRefusal_45 : decode cX8_strollRefusal 45 = .ok (.if_icmp .le 8, 3) := by decide +kernel
theorem dX8_strollRefusal_48 : decode cX8_strollRefusal 48 = .ok (.bipush (-6), 2) := by decide +kernel
theorem dX8_strollRefusal_50 : decode cX8_strollRefusal 50 = .ok (.goto 4, 3) := by decide +kernel
theorem dX8_strollRefusal_53 : decode cX8_strollRefusal 53 = .ok (.iconst 0, 1) := by decide +kernel
theorem dX8_strollRefusal_54 : decode cX8_strollRefusal 54 = .ok (.ireturn, 1) := by decide +kernel
theorem dX8_tryStroll_0 : decode cX8_tryStroll 0 = .ok (.aload_n 0, 1) := by decide +kernel
theorem dX8_tryStroll_1 : decode cX8_tryStroll 1 = .ok (.iload_n 1, 1) := by decide +kernel
theorem dX8_tryStroll_2 : decode cX8_tryStroll 2 = .ok (.iload_n 2, 1) := by decide +kernel
theorem dX8_tryStroll_3 : decode cX8_tryStroll 3 = .ok (.iload_n 3, 1) := by decide +kernel
theorem dX8_tryStroll_4 : decode cX8_tryStroll 4 = .ok (.invokevirtual 315, 3) := by decide +kernel
theorem dX8_tryStroll_7 : decode cX8_tryStroll 7 = .ok (.istore 4, 2) := by decide +kernel
theorem dX8_tryStroll_9 : decode cX8_tryStroll 9 = .ok (.iload 4, 2) := by decide +kernel
theorem dX8_tryStroll_11 : decode cX8_tryStroll 11 = .ok (.ifCond .eq 6, 3) := by decide +kernel
theorem dX8_tryStroll_14 : decode cX8_tryStroll 14 = .ok (.iload 4, 2) := by decide +kernel
theorem dX8_tryStroll_16 : decode cX8_tryStroll 16 = .ok (.ireturn, 1) := by decide +kernel
theorem dX8_tryStroll_17 : decode cX8_tryStroll 17 = .ok (.aload_n 0, 1) := by decide +kernel
theorem dX8_tryStroll_18 : decode cX8_tryStroll 18 = .ok (.getfield 16, 3) := by decide +kernel
theorem dX8_tryStroll_21 : decode cX8_tryStroll 21 = .ok (.aload_n 0, 1) := by decide +kernel
theorem dX8_tryStroll_22 : decode cX8_tryStroll 22 = .ok (.getfield 10, 3) := by decide +kernel
theorem dX8_tryStroll_25 : decode cX8_tryStroll 25 = .ok (.invokevirtual 224, 3) := by decide +kernel
theorem dX8_tryStroll_28 : decode cX8_tryStroll 28 = .ok (.aload_n 0, 1) := by decide +kernel
theorem dX8_tryStroll_29 : decode cX8_tryStroll 29 = .ok (.getfield 39, 3) := by decide +kernel
theorem dX8_tryStroll_32 : decode cX8_tryStroll 32 = .ok (.aload_n 0, 1) := by decide +kernel
theorem dX8_tryStroll_33 : decode cX8_tryStroll 33 = .ok (.getfield 16, 3) := by decide +kernel
theorem dX8_tryStroll_36 : decode cX8_tryStroll 36 = .ok (.aload_n 0, 1) := by decide +kernel
theorem dX8_tryStroll_37 : decode cX8_tryStroll 37 = .ok (.getfield 59, 3) := by decide +kernel
theorem dX8_tryStroll_40 : decode cX8_tryStroll 40 = .ok (.iload_n 1, 1) := by decide +kernel
theorem dX8_tryStroll_41 : decode cX8_tryStroll 41 = .ok (.aaload, 1) := by decide +kernel
theorem dX8_tryStroll_42 : decode cX8_tryStroll 42 = .ok (.iload_n 2, 1) := by decide +kernel
theorem dX8_tryStroll_43 : decode cX8_tryStroll 43 = .ok (.invokevirtual 319, 3) := by decide +kernel
theorem dX8_tryStroll_46 : decode cX8_tryStroll 46 = .ok (.iconst (-1), 1) := by decide +kernel
theorem dX8_tryStroll_47 : decode cX8_tryStroll 47 = .ok (.if_icmp .ne 7, 3) := by decide +kernel
theorem dX8_tryStroll_50 : decode cX8_tryStroll 50 = .ok (.iconst 0, 1) := by decide +kernel
theorem dX8_tryStroll_51 : decode cX8_tryStroll 51 = .ok (.goto 5, 3) := by decide +kernel
theorem dX8_tryStroll_54 : decode cX8_tryStroll 54 = .ok (.bipush (-6), 2) := by decide +kernel
theorem dX8_tryStroll_56 : decode cX8_tryStroll 56 = .ok (.ireturn, 1) := by decide +kernel
theorem dX8_isPerson_0 : decode cX8_isPerson 0 = .ok (.iload_n 1, 1) := by decide +kernel
theorem dX8_isPerson_1 : decode cX8_isPerson 1 = .ok (.ifCond .lt 18, 3) := by decide +kernel
theorem dX8_isPerson_4 : decode cX8_isPerson 4 = .ok (.iload_n 1, 1) := by decide +kernel
theorem dX8_isPerson_5 : decode cX8_isPerson 5 = .ok (.aload_n 0, 1) := by decide +kernel
theorem dX8_isPerson_6 : decode cX8_isPerson 6 = .ok (.getfield 10, 3) := by decide +kernel
theorem dX8_isPerson_9 : decode cX8_isPerson 9 = .ok (.getfield 157, 3) := by decide +kernel
theorem dX8_isPerson_12 : decode cX8_isPerson 12 = .ok (.if_icmp .ge 7, 3) := by decide +kernel
theorem dX8_isPerson_15 : decode cX8_isPerson 15 = .ok (.iconst 1, 1) := by decide +kernel
theorem dX8_isPerson_16 : decode cX8_isPerson 16 = .ok (.goto 4, 3) := by decide +kernel
theorem dX8_isPerson_19 : decode cX8_isPerson 19 = .ok (.iconst 0, 1) := by decide +kernel
theorem dX8_isPerson_20 : decode cX8_isPerson 20 = .ok (.ireturn, 1) := by decide +kernel
theorem dX8_sayingOf_0 : decode cX8_sayingOf 0 = .ok (.iload_n 2, 1) := by decide +kernel
theorem dX8_sayingOf_1 : decode cX8_sayingOf 1 = .ok (.tableswitch 61 1 6 #[39, 39, 51, 56, 51, 56], 39) := by decide +kernel
theorem dX8_sayingOf_40 : decode cX8_sayingOf 40 = .ok (.aload_n 1, 1) := by decide +kernel
theorem dX8_sayingOf_41 : decode cX8_sayingOf 41 = .ok (.aload_n 0, 1) := by decide +kernel
theorem dX8_sayingOf_42 : decode cX8_sayingOf 42 = .ok (.getfield 10, 3) := by decide +kernel
theorem dX8_sayingOf_45 : decode cX8_sayingOf 45 = .ok (.getfield 203, 3) := by decide +kernel
theorem dX8_sayingOf_48 : decode cX8_sayingOf 48 = .ok (.invokevirtual 221, 3) := by decide +kernel
theorem dX8_sayingOf_51 : decode cX8_sayingOf 51 = .ok (.ireturn, 1) := by decide +kernel
theorem dX8_sayingOf_52 : decode cX8_sayingOf 52 = .ok (.aload_n 1, 1) := by decide +kernel
theorem dX8_sayingOf_53 : decode cX8_sayingOf 53 = .ok (.getfield 218, 3) := by decide +kernel
theorem dX8_sayingOf_56 : decode cX8_sayingOf 56 = .ok (.ireturn, 1) := by decide +kernel
theorem dX8_sayingOf_57 : decode cX8_sayingOf 57 = .ok (.aload_n 1, 1) := by decide +kernel
theorem dX8_sayingOf_58 : decode cX8_sayingOf 58 = .ok (.getfield 215, 3) := by decide +kernel
theorem dX8_sayingOf_61 : decode cX8_sayingOf 61 = .ok (.ireturn, 1) := by decide +kernel
theorem dX8_sayingOf_62 : decode cX8_sayingOf 62 = .ok (.aload_n 1, 1) := by decide +kernel
theorem dX8_sayingOf_63 : decode cX8_sayingOf 63 = .ok (.getfield 190, 3) := by decide +kernel
theorem dX8_sayingOf_66 : decode cX8_sayingOf 66 = .ok (.ireturn, 1) := by decide +kernel
theorem dX8_within_0 : decode cX8_within 0 = .ok (.iload_n 0, 1) := by decide +kernel
theorem dX8_within_1 : decode cX8_within 1 = .ok (.ifCond .lt 12, 3) := by decide +kernel
theorem dX8_within_4 : decode cX8_within 4 = .ok (.iload_n 0, 1) := by decide +kernel
theorem dX8_within_5 : decode cX8_within 5 = .ok (.iload_n 1, 1) := by decide +kernel
theorem dX8_within_6 : decode cX8_within 6 = .ok (.if_icmp .gt 7, 3) := by decide +kernel
theorem dX8_within_9 : decode cX8_within 9 = .ok (.iconst 1, 1) := by decide +kernel
theorem dX8_within_10 : decode cX8_within 10 = .ok (.goto 4, 3) := by decide +kernel
theorem dX8_within_13 : decode cX8_within 13 = .ok (.iconst 0, 1) := by decide +kernel
theorem dX8_within_14 : decode cX8_within 14 = .ok (.ireturn, 1) := by decide +kernel
theorem dX8_isShelf_0 : decode cX8_isShelf 0 = .ok (.iload_n 0, 1) := by decide +kernel
theorem dX8_isShelf_1 : decode cX8_isShelf 1 = .ok (.bipush 7, 2) := by decide +kernel
theorem dX8_isShelf_3 : decode cX8_isShelf 3 = .ok (.invokestatic 148, 3) := by decide +kernel
theorem dX8_isShelf_6 : decode cX8_isShelf 6 = .ok (.ireturn, 1) := by decide +kernel
theorem dX8_isKind_0 : decode cX8_isKind 0 = .ok (.iload_n 0, 1) := by decide +kernel
theorem dX8_isKind_1 : decode cX8_isKind 1 = .ok (.bipush 6, 2) := by decide +kernel
theorem dX8_isKind_3 : decode cX8_isKind 3 = .ok (.invokestatic 148, 3) := by decide +kernel
theorem dX8_isKind_6 : decode cX8_isKind 6 = .ok (.ireturn, 1) := by decide +kernel
theorem dX8_isSquare_0 : decode cX8_isSquare 0 = .ok (.iload_n 0, 1) := by decide +kernel
theorem dX8_isSquare_1 : decode cX8_isSquare 1 = .ok (.ifCond .lt 13, 3) := by decide +kernel
theorem dX8_isSquare_4 : decode cX8_isSquare 4 = .ok (.iload_n 0, 1) := by decide +kernel
theorem dX8_isSquare_5 : decode cX8_isSquare 5 = .ok (.bipush 36, 2) := by decide +kernel
theorem dX8_isSquare_7 : decode cX8_isSquare 7 = .ok (.if_icmp .ge 7, 3) := by decide +kernel
theorem dX8_isSquare_10 : decode cX8_isSquare 10 = .ok (.iconst 1, 1) := by decide +kernel
theorem dX8_isSquare_11 : decode cX8_isSquare 11 = .ok (.goto 4, 3) := by decide +kernel
theorem dX8_isSquare_14 : decode cX8_isSquare 14 = .ok (.iconst 0, 1) := by decide +kernel
theorem dX8_isSquare_15 : decode cX8_isSquare 15 = .ok (.ireturn, 1) := by decide +kernel
theorem dX8_bit_0 : decode cX8_bit 0 = .ok (.iload_n 0, 1) := by decide +kernel
theorem dX8_bit_1 : decode cX8_bit 1 = .ok (.ifCond .eq 7, 3) := by decide +kernel
theorem dX8_bit_4 : decode cX8_bit 4 = .ok (.iconst 1, 1) := by decide +kernel
theorem dX8_bit_5 : decode cX8_bit 5 = .ok (.goto 4, 3) := by decide +kernel
theorem dX8_bit_8 : decode cX8_bit 8 = .ok (.iconst 0, 1) := by decide +kernel
theorem dX8_bit_9 : decode cX8_bit 9 = .ok (.ireturn, 1) := by decide +kernel
theorem dX8_hasBit_0 : decode cX8_hasBit 0 = .ok (.lload_n 0, 1) := by decide +kernel
theorem dX8_hasBit_1 : decode cX8_hasBit 1 = .ok (.iload_n 2, 1) := by decide +kernel
theorem dX8_hasBit_2 : decode cX8_hasBit 2 = .ok (.lushr, 1) := by decide +kernel
theorem dX8_hasBit_3 : decode cX8_hasBit 3 = .ok (.lconst 1, 1) := by decide +kernel
theorem dX8_hasBit_4 : decode cX8_hasBit 4 = .ok (.land, 1) := by decide +kernel
theorem dX8_hasBit_5 : decode cX8_hasBit 5 = .ok (.lconst 0, 1) := by decide +kernel
theorem dX8_hasBit_6 : decode cX8_hasBit 6 = .ok (.lcmp, 1) := by decide +kernel
theorem dX8_hasBit_7 : decode cX8_hasBit 7 = .ok (.ifCond .eq 7, 3) := by decide +kernel
theorem dX8_hasBit_10 : decode cX8_hasBit 10 = .ok (.iconst 1, 1) := by decide +kernel
theorem dX8_hasBit_11 : decode cX8_hasBit 11 = .ok (.goto 4, 3) := by decide +kernel
theorem dX8_hasBit_14 : decode cX8_hasBit 14 = .ok (.iconst 0, 1) := by decide +kernel
theorem dX8_hasBit_15 : decode cX8_hasBit 15 = .ok (.ireturn, 1) := by decide +kernel
theorem dX8_withBit_0 : decode cX8_withBit 0 = .ok (.iload_n 3, 1) := by decide +kernel
theorem dX8_withBit_1 : decode cX8_withBit 1 = .ok (.ifCond .eq 11, 3) := by decide +kernel
theorem dX8_withBit_4 : decode cX8_withBit 4 = .ok (.lload_n 0, 1) := by decide +kernel
theorem dX8_withBit_5 : decode cX8_withBit 5 = .ok (.lconst 1, 1) := by decide +kernel
theorem dX8_withBit_6 : decode cX8_withBit 6 = .ok (.iload_n 2, 1) := by decide +kernel
theorem dX8_withBit_7 : decode cX8_withBit 7 = .ok (.lshl, 1) := by decide +kernel
theorem dX8_withBit_8 : decode cX8_withBit 8 = .ok (.lor, 1) := by decide +kernel
theorem dX8_withBit_9 : decode cX8_withBit 9 = .ok (.goto 12, 3) := by decide +kernel
theorem dX8_withBit_12 : decode cX8_withBit 12 = .ok (.lload_n 0, 1) := by decide +kernel
theorem dX8_withBit_13 : decode cX8_withBit 13 = .ok (.lconst 1, 1) := by decide +kernel
theorem dX8_withBit_14 : decode cX8_withBit 14 = .ok (.iload_n 2, 1) := by decide +kernel
theorem dX8_withBit_15 : decode cX8_withBit 15 = .ok (.lshl, 1) := by decide +kernel
theorem dX8_withBit_16 : decode cX8_withBit 16 = .ok (.ldc2_w 370, 3) := by decide +kernel
theorem dX8_withBit_19 : decode cX8_withBit 19 = .ok (.lxor, 1) := by decide +kernel
theorem dX8_withBit_20 : decode cX8_withBit 20 = .ok (.land, 1) := by decide +kernel
theorem dX8_withBit_21 : decode cX8_withBit 21 = .ok (.lreturn, 1) := by decide +kernel
theorem dX8_above_0 : decode cX8_above 0 = .ok (.iload_n 0, 1) := by decide +kernel
theorem dX8_above_1 : decode cX8_above 1 = .ok (.ifCond .lt 17, 3) := by decide +kernel
theorem dX8_above_4 : decode cX8_above 4 = .ok (.iload_n 0, 1) := by decide +kernel
theorem dX8_above_5 : decode cX8_above 5 = .ok (.bipush 7, 2) := by decide +kernel
theorem dX8_above_7 : decode cX8_above 7 = .ok (.if_icmp .ge 11, 3) := by decide +kernel
theorem dX8_above_10 : decode cX8_above 10 = .ok (.getstatic 372, 3) := by decide +kernel
theorem dX8_above_13 : decode cX8_above 13 = .ok (.iload_n 0, 1) := by decide +kernel
theorem dX8_above_14 : decode cX8_above 14 = .ok (.iaload, 1) := by decide +kernel
theorem dX8_above_15 : decode cX8_above 15 = .ok (.goto 4, 3) := by decide +kernel
theorem dX8_above_18 : decode cX8_above 18 = .ok (.iconst (-1), 1) := by decide +kernel
theorem dX8_above_19 : decode cX8_above 19 = .ok (.ireturn, 1) := by decide +kernel
theorem dX8_distance_0 : decode cX8_distance 0 = .ok (.iload_n 0, 1) := by decide +kernel
theorem dX8_distance_1 : decode cX8_distance 1 = .ok (.bipush 6, 2) := by decide +kernel
theorem dX8_distance_3 : decode cX8_distance 3 = .ok (.idiv, 1) := by decide +kernel
theorem dX8_distance_4 : decode cX8_distance 4 = .ok (.iload_n 1, 1) := by decide +kernel
theorem dX8_distance_5 : decode cX8_distance 5 = .ok (.bipush 6, 2) := by decide +kernel
theorem dX8_distance_7 : decode cX8_distance 7 = .ok (.idiv, 1) := by decide +kernel
theorem dX8_distance_8 : decode cX8_distance 8 = .ok (.isub, 1) := by decide +kernel
theorem dX8_distance_9 : decode cX8_distance 9 = .ok (.invokestatic 375, 3) := by decide +kernel
theorem dX8_distance_12 : decode cX8_distance 12 = .ok (.iload_n 0, 1) := by decide +kernel
theorem dX8_distance_13 : decode cX8_distance 13 = .ok (.bipush 6, 2) := by decide +kernel
theorem dX8_distance_15 : decode cX8_distance 15 = .ok (.irem, 1) := by decide +kernel
theorem dX8_distance_16 : decode cX8_distance 16 = .ok (.iload_n 1, 1) := by decide +kernel
theorem dX8_distance_17 : decode cX8_distance 17 = .ok (.bipush 6, 2) := by decide +kernel
theorem dX8_distance_19 : decode cX8_distance 19 = .ok (.irem, 1) := by decide +kernel
theorem dX8_distance_20 : decode cX8_distance 20 = .ok (.isub, 1) := by decide +kernel
theorem dX8_distance_21 : decode cX8_distance 21 = .ok (.invokestatic 375, 3) := by decide +kernel
theorem dX8_distance_24 : decode cX8_distance 24 = .ok (.iadd, 1) := by decide +kernel
theorem dX8_distance_25 : decode cX8_distance 25 = .ok (.ireturn, 1) := by decide +kernel
theorem dX8_beside_0 : decode cX8_beside 0 = .ok (.iload_n 1, 1) := by decide +kernel
theorem dX8_beside_1 : decode cX8_beside 1 = .ok (.tableswitch 92 0 3 #[31, 46, 62, 77], 31) := by decide +kernel
theorem dX8_beside_32 : decode cX8_beside 32 = .ok (.iload_n 0, 1) := by decide +kernel
theorem dX8_beside_33 : decode cX8_beside 33 = .ok (.bipush 6, 2) := by decide +kernel
theorem dX8_beside_35 : decode cX8_beside 35 = .ok (.if_icmp .lt 10, 3) := by decide +kernel
theorem dX8_beside_38 : decode cX8_beside 38 = .ok (.iload_n 0, 1) := by decide +kernel
theorem dX8_beside_39 : decode cX8_beside 39 = .ok (.bipush 6, 2) := by decide +kernel
theorem dX8_beside_41 : decode cX8_beside 41 = .ok (.isub, 1) := by decide +kernel
theorem dX8_beside_42 : decode cX8_beside 42 = .ok (.goto 4, 3) := by decide +kernel
theorem dX8_beside_45 : decode cX8_beside 45 = .ok (.iconst (-1), 1) := by decide +kernel
theorem dX8_beside_46 : decode cX8_beside 46 = .ok (.ireturn, 1) := by decide +kernel
theorem dX8_beside_47 : decode cX8_beside 47 = .ok (.iload_n 0, 1) := by decide +kernel
theorem dX8_beside_48 : decode cX8_beside 48 = .ok (.bipush 6, 2) := by decide +kernel
theorem dX8_beside_50 : decode cX8_beside 50 = .ok (.irem, 1) := by decide +kernel
theorem dX8_beside_51 : decode cX8_beside 51 = .ok (.iconst 5, 1) := by decide +kernel
theorem dX8_beside_52 : decode cX8_beside 52 = .ok (.if_icmp .ge 9, 3) := by decide +kernel
theorem dX8_beside_55 : decode cX8_beside 55 = .ok (.iload_n 0, 1) := by decide +kernel
theorem dX8_beside_56 : decode cX8_beside 56 = .ok (.iconst 1, 1) := by decide +kernel
theorem dX8_beside_57 : decode cX8_beside 57 = .ok (.iadd, 1) := by decide +kernel
theorem dX8_beside_58 : decode cX8_beside 58 = .ok (.goto 4, 3) := by decide +kernel
theorem dX8_beside_61 : decode cX8_beside 61 = .ok (.iconst (-1), 1) := by decide +kernel
theorem dX8_beside_62 : decode cX8_beside 62 = .ok (.ireturn, 1) := by decide +kernel
theorem dX8_beside_63 : decode cX8_beside 63 = .ok (.iload_n 0, 1) := by decide +kernel
theorem dX8_beside_64 : decode cX8_beside 64 = .ok (.bipush 30, 2) := by decide +kernel
theorem dX8_beside_66 : decode cX8_beside 66 = .ok (.if_icmp .ge 10, 3) := by decide +kernel
theorem dX8_beside_69 : decode cX8_beside 69 = .ok (.iload_n 0, 1) := by decide +kernel
theorem dX8_beside_70 : decode cX8_beside 70 = .ok (.bipush 6, 2) := by decide +kernel
theorem dX8_beside_72 : decode cX8_beside 72 = .ok (.iadd, 1) := by decide +kernel
theorem dX8_beside_73 : decode cX8_beside 73 = .ok (.goto 4, 3) := by decide +kernel
theorem dX8_beside_76 : decode cX8_beside 76 = .ok (.iconst (-1), 1) := by decide +kernel
theorem dX8_beside_77 : decode cX8_beside 77 = .ok (.ireturn, 1) := by decide +kernel
theorem dX8_beside_78 : decode cX8_beside 78 = .ok (.iload_n 0, 1) := by decide +kernel
theorem dX8_beside_79 : decode cX8_beside 79 = .ok (.bipush 6, 2) := by decide +kernel
theorem dX8_beside_81 : decode cX8_beside 81 = .ok (.irem, 1) := by decide +kernel
theorem dX8_beside_82 : decode cX8_beside 82 = .ok (.ifCond .le 9, 3) := by decide +kernel
theorem dX8_beside_85 : decode cX8_beside 85 = .ok (.iload_n 0, 1) := by decide +kernel
theorem dX8_beside_86 : decode cX8_beside 86 = .ok (.iconst 1, 1) := by decide +kernel
theorem dX8_beside_87 : decode cX8_beside 87 = .ok (.isub, 1) := by decide +kernel
theorem dX8_beside_88 : decode cX8_beside 88 = .ok (.goto 4, 3) := by decide +kernel
theorem dX8_beside_91 : decode cX8_beside 91 = .ok (.iconst (-1), 1) := by decide +kernel
theorem dX8_beside_92 : decode cX8_beside 92 = .ok (.ireturn, 1) := by decide +kernel
theorem dX8_beside_93 : decode cX8_beside 93 = .ok (.iconst (-1), 1) := by decide +kernel
theorem dX8_beside_94 : decode cX8_beside 94 = .ok (.ireturn, 1) := by decide +kernel
theorem dX9_init_0 : decode cX9_init 0 = .ok (.aload_n 0, 1) := by decide +kernel
theorem dX9_init_1 : decode cX9_init 1 = .ok (.invokespecial 1, 3) := by decide +kernel
theorem dX9_init_4 : decode cX9_init 4 = .ok (.aload_n 0, 1) := by decide +kernel
theorem dX9_init_5 : decode cX9_init 5 = .ok (.iconst 1, 1) := by decide +kernel
theorem dX9_init_6 : decode cX9_init 6 = .ok (.putfield 7, 3) := by decide +kernel
theorem dX9_init_9 : decode cX9_init 9 = .ok (.aload_n 0, 1) := by decide +kernel
theorem dX9_init_10 : decode cX9_init 10 = .ok (.iconst 5, 1) := by decide +kernel
theorem dX9_init_11 : decode cX9_init 11 = .ok (.putfield 13, 3) := by decide +kernel
theorem dX9_init_14 : decode cX9_init 14 = .ok (.aload_n 0, 1) := by decide +kernel
theorem dX9_init_15 : decode cX9_init 15 = .ok (.iconst 1, 1) := by decide +kernel
theorem dX9_init_16 : decode cX9_init 16 = .ok (.putfield 16, 3) := by decide +kernel
theorem dX9_init_19 : decode cX9_init 19 = .ok (.aload_n 0, 1) := by decide +kernel
theorem dX9_init_20 : decode cX9_init 20 = .ok (.iconst (-1), 1) := by decide +kernel
theorem dX9_init_21 : decode cX9_init 21 = .ok (.putfield 19, 3) := by decide +kernel
theorem dX9_init_24 : decode cX9_init 24 = .ok (.aload_n 0, 1) := by decide +kernel
theorem dX9_init_25 : decode cX9_init 25 = .ok (.bipush 8, 2) := by decide +kernel
theorem dX9_init_27 : decode cX9_init 27 = .ok (.newarray .int, 2) := by decide +kernel
theorem dX9_init_29 : decode cX9_init 29 = .ok (.putfield 22, 3) := by decide +kernel
theorem dX9_init_32 : decode cX9_init 32 = .ok (.aload_n 0, 1) := by decide +kernel
theorem dX9_init_33 : decode cX9_init 33 = .ok (.bipush 7, 2) := by decide +kernel
theorem dX9_init_35 : decode cX9_init 35 = .ok (.newarray .int, 2) := by decide +kernel
theorem dX9_init_37 : decode cX9_init 37 = .ok (.putfield 26, 3) := by decide +kernel
theorem dX9_init_40 : decode cX9_init 40 = .ok (.aload_n 0, 1) := by decide +kernel
theorem dX9_init_41 : decode cX9_init 41 = .ok (.bipush 7, 2) := by decide +kernel
theorem dX9_init_43 : decode cX9_init 43 = .ok (.newarray .int, 2) := by decide +kernel
theorem dX9_init_45 : decode cX9_init 45 = .ok (.putfield 29, 3) := by decide +kernel
theorem dX9_init_48 : decode cX9_init 48 = .ok (.aload_n 0, 1) := by decide +kernel
theorem dX9_init_49 : decode cX9_init 49 = .ok (.bipush 7, 2) := by decide +kernel
theorem dX9_init_51 : decode cX9_init 51 = .ok (.newarray .int, 2) := by decide +kernel
theorem dX9_init_53 : decode cX9_init 53 = .ok (.putfield 32, 3) := by decide +kernel
theorem dX9_init_56 : decode cX9_init 56 = .ok (.aload_n 0, 1) := by decide +kernel
theorem dX9_init_57 : decode cX9_init 57 = .ok (.bipush 7, 2) := by decide +kernel
theorem dX9_init_59 : decode cX9_init 59 = .ok (.newarray .int, 2) := by decide +kernel
theorem dX9_init_61 : decode cX9_init 61 = .ok (.putfield 35, 3) := by decide +kernel
theorem dX9_init_64 : decode cX9_init 64 = .ok (.aload_n 0, 1) := by decide +kernel
theorem dX9_init_65 : decode cX9_init 65 = .ok (.bipush 7, 2) := by decide +kernel
theorem dX9_init_67 : decode cX9_init 67 = .ok (.newarray .int, 2) := by decide +kernel
theorem dX9_init_69 : decode cX9_init 69 = .ok (.putfield 38, 3) := by decide +kernel
theorem dX9_init_72 : decode cX9_init 72 = .ok (.aload_n 0, 1) := by decide +kernel
theorem dX9_init_73 : decode cX9_init 73 = .ok (.bipush 7, 2) := by decide +kernel
theorem dX9_init_75 : decode cX9_init 75 = .ok (.newarray .int, 2) := by decide +kernel
theorem dX9_init_77 : decode cX9_init 77 = .ok (.putfield 41, 3) := by decide +kernel
theorem dX9_init_80 : decode cX9_init 80 = .ok (.aload_n 0, 1) := by decide +kernel
theorem dX9_init_81 : decode cX9_init 81 = .ok (.bipush 7, 2) := by decide +kernel
theorem dX9_init_83 : decode cX9_init 83 = .ok (.newarray .int, 2) := by decide +kernel
theorem dX9_init_85 : decode cX9_init 85 = .ok (.putfield 44, 3) := by decide +kernel
theorem dX9_init_88 : decode cX9_init 88 = .ok (.aload_n 0, 1) := by decide +kernel
theorem dX9_init_89 : decode cX9_init 89 = .ok (.bipush 36, 2) := by decide +kernel
theorem dX9_init_91 : decode cX9_init 91 = .ok (.newarray .int, 2) := by decide +kernel
theorem dX9_init_93 : decode cX9_init 93 = .ok (.putfield 47, 3) := by decide +kernel
theorem dX9_init_96 : decode cX9_init 96 = .ok (.aload_n 0, 1) := by decide +kernel
theorem dX9_init_97 : decode cX9_init 97 = .ok (.bipush 36, 2) := by decide +kernel
theorem dX9_init_99 : decode cX9_init 99 = .ok (.newarray .int, 2) := by decide +kernel
theorem dX9_init_101 : decode cX9_init 101 = .ok (.putfield 50, 3) := by decide +kernel
theorem dX9_init_104 : decode cX9_init 104 = .ok (.aload_n 0, 1) := by decide +kernel
theorem dX9_init_105 : decode cX9_init 105 = .ok (.bipush 8, 2) := by decide +kernel
theorem dX9_init_107 : decode cX9_init 107 = .ok (.newarray .int, 2) := by decide +kernel
theorem dX9_init_109 : decode cX9_init 109 = .ok (.putfield 53, 3) := by decide +kernel
theorem dX9_init_112 : decode cX9_init 112 = .ok (.aload_n 0, 1) := by decide +kernel
theorem dX9_init_113 : decode cX9_init 113 = .ok (.bipush 8, 2) := by decide +kernel
theorem dX9_init_115 : decode cX9_init 115 = .ok (.newarray .int, 2) := by decide +kernel
theorem dX9_init_117 : decode cX9_init 117 = .ok (.putfield 56, 3) := by decide +kernel
theorem dX9_init_120 : decode cX9_init 120 = .ok (.aload_n 0, 1) := by decide +kernel
theorem dX9_init_121 : decode cX9_init 121 = .ok (.bipush 8, 2) := by decide +kernel
theorem dX9_init_123 : decode cX9_init 123 = .ok (.newarray .int, 2) := by decide +kernel
theorem dX9_init_125 : decode cX9_init 125 = .ok (.putfield 59, 3) := by decide +kernel
theorem dX9_init_128 : decode cX9_init 128 = .ok (.aload_n 0, 1) := by decide +kernel
theorem dX9_init_129 : decode cX9_init 129 = .ok (.bipush 8, 2) := by decide +kernel
theorem dX9_init_131 : decode cX9_init 131 = .ok (.newarray .int, 2) := by decide +kernel
theorem dX9_init_133 : decode cX9_init 133 = .ok (.putfield 62, 3) := by decide +kernel
theorem dX9_init_136 : decode cX9_init 136 = .ok (.aload_n 0, 1) := by decide +kernel
theorem dX9_init_137 : decode cX9_init 137 = .ok (.sipush 1280, 3) := by decide +kernel
theorem dX9_init_140 : decode cX9_init 140 = .ok (.newarray .long, 2) := by decide +kernel
theorem dX9_init_142 : decode cX9_init 142 = .ok (.putfield 65, 3) := by decide +kernel
theorem dX9_init_145 : decode cX9_init 145 = .ok (.aload_n 0, 1) := by decide +kernel
theorem dX9_init_146 : decode cX9_init 146 = .ok (.sipush 160, 3) := by decide +kernel
theorem dX9_init_149 : decode cX9_init 149 = .ok (.newarray .long, 2) := by decide +kernel
theorem dX9_init_151 : decode cX9_init 151 = .ok (.putfield 69, 3) := by decide +kernel
theorem dX9_init_154 : decode cX9_init 154 = .ok (.aload_n 0, 1) := by decide +kernel
theorem dX9_init_155 : decode cX9_init 155 = .ok (.bipush 47, 2) := by decide +kernel
theorem dX9_init_157 : decode cX9_init 157 = .ok (.newarray .int, 2) := by decide +kernel
theorem dX9_init_159 : decode cX9_init 159 = .ok (.dup, 1) := by decide +kernel
theorem dX9_init_160 : decode cX9_init 160 = .ok (.iconst 0, 1) := by decide +kernel
theorem dX9_init_161 : decode cX9_init 161 = .ok (.bipush 119, 2) := by decide +kernel
theorem dX9_init_163 : decode cX9_init 163 = .ok (.iastore, 1) := by decide +kernel
theorem dX9_init_164 : decode cX9_init 164 = .ok (.dup, 1) := by decide +kernel
theorem dX9_init_165 : decode cX9_init 165 = .ok (.iconst 1, 1) := by decide +kernel
theorem dX9_init_166 : decode cX9_init 166 = .ok (.bipush 97, 2) := by decide +kernel
theorem dX9_init_168 : decode cX9_init 168 = .ok (.iastore, 1) := by decide +kernel
theorem dX9_init_169 : decode cX9_init 169 = .ok (.dup, 1) := by decide +kernel
theorem dX9_init_170 : decode cX9_init 170 = .ok (.iconst 2, 1) := by decide +kernel
theorem dX9_init_171 : decode cX9_init 171 = .ok (.bipush 108, 2) := by decide +kernel
theorem dX9_init_173 : decode cX9_init 173 = .ok (.iastore, 1) := by decide +kernel
theorem dX9_init_174 : decode cX9_init 174 = .ok (.dup, 1) := by decide +kernel
theorem dX9_init_175 : decode cX9_init 175 = .ok (.iconst 3, 1) := by decide +kernel
theorem dX9_init_176 : decode cX9_init 176 = .ok (.bipush 108, 2) := by decide +kernel
theorem dX9_init_178 : decode cX9_init 178 = .ok (.iastore, 1) := by decide +kernel
theorem dX9_init_179 : decode cX9_init 179 = .ok (.dup, 1) := by decide +kernel
theorem dX9_init_180 : decode cX9_init 180 = .ok (.iconst 4, 1) := by decide +kernel
theorem dX9_init_181 : decode cX9_init 181 = .ok (.bipush 32, 2) := by decide +kernel
theorem dX9_init_183 : decode cX9_init 183 = .ok (.iastore, 1) := by decide +kernel
theorem dX9_init_184 : decode cX9_init 184 = .ok (.dup, 1) := by decide +kernel
theorem dX9_init_185 : decode cX9_init 185 = .ok (.iconst 5, 1) := by decide +kernel
theorem dX9_init_186 : decode cX9_init 186 = .ok (.iconst 0, 1) := by decide +kernel
theorem dX9_init_187 : decode cX9_init 187 = .ok (.iastore, 1) := by decide +kernel
theorem dX9_init_188 : decode cX9_init 188 = .ok (.dup, 1) := by decide +kernel
theorem dX9_init_189 : decode cX9_init 189 = .ok (.bipush 6, 2) := by decide +kernel
theorem dX9_init_191 : decode cX9_init 191 = .ok (.bipush 103, 2) := by decide +kernel
theorem dX9_init_193 : decode cX9_init 193 = .ok (.iastore, 1) := by decide +kernel
theorem dX9_init_194 : decode cX9_init 194 = .ok (.dup, 1) := by decide +kernel
theorem dX9_init_195 : decode cX9_init 195 = .ok (.bipush 7, 2) := by decide +kernel
theorem dX9_init_197 : decode cX9_init 197 = .ok (.bipush 97, 2) := by decide +kernel
theorem dX9_init_199 : decode cX9_init 199 = .ok (.iastore, 1) := by decide +kernel
theorem dX9_init_200 : decode cX9_init 200 = .ok (.dup, 1) := by decide +kernel
theorem dX9_init_201 : decode cX9_init 201 = .ok (.bipush 8, 2) := by decide +kernel
theorem dX9_init_203 : decode cX9_init 203 = .ok (.bipush 112, 2) := by decide +kernel
theorem dX9_init_205 : decode cX9_init 205 = .ok (.iastore, 1) := by decide +kernel
theorem dX9_init_206 : decode cX9_init 206 = .ok (.dup, 1) := by decide +kernel
theorem dX9_init_207 : decode cX9_init 207 = .ok (.bipush 9, 2) := by decide +kernel
theorem dX9_init_209 : decode cX9_init 209 = .ok (.bipush 32, 2) := by decide +kernel
theorem dX9_init_211 : decode cX9_init 211 = .ok (.iastore, 1) := by decide +kernel
theorem dX9_init_212 : decode cX9_init 212 = .ok (.dup, 1) := by decide +kernel
theorem dX9_init_213 : decode cX9_init 213 = .ok (.bipush 10, 2) := by decide +kernel
theorem dX9_init_215 : decode cX9_init 215 = .ok (.iconst 0, 1) := by decide +kernel
theorem dX9_init_216 : decode cX9_init 216 = .ok (.iastore, 1) := by decide +kernel
theorem dX9_init_217 : decode cX9_init 217 = .ok (.dup, 1) := by decide +kernel
theorem dX9_init_218 : decode cX9_init 218 = .ok (.bipush 11, 2) := by decide +kernel
theorem dX9_init_220 : decode cX9_init 220 = .ok (.bipush 98, 2) := by decide +kernel
theorem dX9_init_222 : decode cX9_init 222 = .ok (.iastore, 1) := by decide +kernel
theorem dX9_init_223 : decode cX9_init 223 = .ok (.dup, 1) := by decide +kernel
theorem dX9_init_224 : decode cX9_init 224 = .ok (.bipush 12, 2) := by decide +kernel
theorem dX9_init_226 : decode cX9_init 226 = .ok (.bipush 97, 2) := by decide +kernel
theorem dX9_init_228 : decode cX9_init 228 = .ok (.iastore, 1) := by decide +kernel
theorem dX9_init_229 : decode cX9_init 229 = .ok (.dup, 1) := by decide +kernel
theorem dX9_init_230 : decode cX9_init 230 = .ok (.bipush 13, 2) := by decide +kernel
theorem dX9_init_232 : decode cX9_init 232 = .ok (.bipush 108, 2) := by decide +kernel
theorem dX9_init_234 : decode cX9_init 234 = .ok (.iastore, 1) := by decide +kernel
theorem dX9_init_235 : decode cX9_init 235 = .ok (.dup, 1) := by decide +kernel
theorem dX9_init_236 : decode cX9_init 236 = .ok (.bipush 14, 2) := by decide +kernel
theorem dX9_init_238 : decode cX9_init 238 = .ok (.bipush 99, 2) := by decide +kernel
theorem dX9_init_240 : decode cX9_init 240 = .ok (.iastore, 1) := by decide +kernel
theorem dX9_init_241 : decode cX9_init 241 = .ok (.dup, 1) := by decide +kernel
theorem dX9_init_242 : decode cX9_init 242 = .ok (.bipush 15, 2) := by decide +kernel
theorem dX9_init_244 : decode cX9_init 244 = .ok (.bipush 111, 2) := by decide +kernel
theorem dX9_init_246 : decode cX9_init 246 = .ok (.iastore, 1) := by decide +kernel
theorem dX9_init_247 : decode cX9_init 247 = .ok (.dup, 1) := by decide +kernel
theorem dX9_init_248 : decode cX9_init 248 = .ok (.bipush 16, 2) := by decide +kernel
theorem dX9_init_250 : decode cX9_init 250 = .ok (.bipush 110, 2) := by decide +kernel
theorem dX9_init_252 : decode cX9_init 252 = .ok (.iastore, 1) := by decide +kernel
theorem dX9_init_253 : decode cX9_init 253 = .ok (.dup, 1) := by decide +kernel
theorem dX9_init_254 : decode cX9_init 254 = .ok (.bipush 17, 2) := by decide +kernel
theorem dX9_init_256 : decode cX9_init 256 = .ok (.bipush 121, 2) := by decide +kernel
theorem dX9_init_258 : decode cX9_init 258 = .ok (.iastore, 1) := by decide +kernel
theorem dX9_init_259 : decode cX9_init 259 = .ok (.dup, 1) := by decide +kernel
theorem dX9_init_260 : decode cX9_init 260 = .ok (.bipush 18, 2) := by decide +kernel
theorem dX9_init_262 : decode cX9_init 262 = .ok (.bipush 32, 2) := by decide +kernel
theorem dX9_init_264 : decode cX9_init 264 = .ok (.iastore, 1) := by decide +kernel
theorem dX9_init_265 : decode cX9_init 265 = .ok (.dup, 1) := by decide +kernel
theorem dX9_init_266 : decode cX9_init 266 = .ok (.bipush 19, 2) := by decide +kernel
theorem dX9_init_268 : decode cX9_init 268 = .ok (.iconst 0, 1) := by decide +kernel
theorem dX9_init_269 : decode cX9_init 269 = .ok (.iastore, 1) := by decide +kernel
theorem dX9_init_270 : decode cX9_init 270 = .ok (.dup, 1) := by decide +kernel
theorem dX9_init_271 : decode cX9_init 271 = .ok (.bipush 20, 2) := by decide +kernel
theorem dX9_init_273 : decode cX9_init 273 = .ok (.bipush 112, 2) := by decide +kernel
theorem dX9_init_275 : decode cX9_init 275 = .ok (.iastore, 1) := by decide +kernel
theorem dX9_init_276 : decode cX9_init 276 = .ok (.dup, 1) := by decide +kernel
theorem dX9_init_277 : decode cX9_init 277 = .ok (.bipush 21, 2) := by decide +kernel
theorem dX9_init_279 : decode cX9_init 279 = .ok (.bipush 101, 2) := by decide +kernel
theorem dX9_init_281 : decode cX9_init 281 = .ok (.iastore, 1) := by decide +kernel
theorem dX9_init_282 : decode cX9_init 282 = .ok (.dup, 1) := by decide +kernel
theorem dX9_init_283 : decode cX9_init 283 = .ok (.bipush 22, 2) := by decide +kernel
theorem dX9_init_285 : decode cX9_init 285 = .ok (.bipush 114, 2) := by decide +kernel
theorem dX9_init_287 : decode cX9_init 287 = .ok (.iastore, 1) := by decide +kernel
theorem dX9_init_288 : decode cX9_init 288 = .ok (.dup, 1) := by decide +kernel
theorem dX9_init_289 : decode cX9_init 289 = .ok (.bipush 23, 2) := by decide +kernel
theorem dX9_init_291 : decode cX9_init 291 = .ok (.bipush 115, 2) := by decide +kernel
theorem dX9_init_293 : decode cX9_init 293 = .ok (.iastore, 1) := by decide +kernel
theorem dX9_init_294 : decode cX9_init 294 = .ok (.dup, 1) := by decide +kernel
theorem dX9_init_295 : decode cX9_init 295 = .ok (.bipush 24, 2) := by decide +kernel
theorem dX9_init_297 : decode cX9_init 297 = .ok (.bipush 111, 2) := by decide +kernel
theorem dX9_init_299 : decode cX9_init 299 = .ok (.iastore, 1) := by decide +kernel
theorem dX9_init_300 : decode cX9_init 300 = .ok (.dup, 1) := by decide +kernel
theorem dX9_init_301 : decode cX9_init 301 = .ok (.bipush 25, 2) := by decide +kernel
theorem dX9_init_303 : decode cX9_init 303 = .ok (.bipush 110, 2) := by decide +kernel
theorem dX9_init_305 : decode cX9_init 305 = .ok (.iastore, 1) := by decide +kernel
theorem dX9_init_306 : decode cX9_init 306 = .ok (.dup, 1) := by decide +kernel
theorem dX9_init_307 : decode cX9_init 307 = .ok (.bipush 26, 2) := by decide +kernel
theorem dX9_init_309 : decode cX9_init 309 = .ok (.bipush 32, 2) := by decide +kernel
theorem dX9_init_311 : decode cX9_init 311 = .ok (.iastore, 1) := by decide +kernel
theorem dX9_init_312 : decode cX9_init 312 = .ok (.dup, 1) := by decide +kernel
theorem dX9_init_313 : decode cX9_init 313 = .ok (.bipush 27, 2) := by decide +kernel
theorem dX9_init_315 : decode cX9_init 315 = .ok (.iconst 0, 1) := by decide +kernel
theorem dX9_init_316 : decode cX9_init 316 = .ok (.iastore, 1) := by decide +kernel
theorem dX9_init_317 : decode cX9_init 317 = .ok (.dup, 1) := by decide +kernel
theorem dX9_init_318 : decode cX9_init 318 = .ok (.bipush 28, 2) := by decide +kernel
theorem dX9_init_320 : decode cX9_init 320 = .ok (.bipush 115, 2) := by decide +kernel
theorem dX9_init_322 : decode cX9_init 322 = .ok (.iastore, 1) := by decide +kernel
theorem dX9_init_323 : decode cX9_init 323 = .ok (.dup, 1) := by decide +kernel
theorem dX9_init_324 : decode cX9_init 324 = .ok (.bipush 29, 2) := by decide +kernel
theorem dX9_init_326 : decode cX9_init 326 = .ok (.bipush 97, 2) := by decide +kernel
theorem dX9_init_328 : decode cX9_init 328 = .ok (.iastore, 1) := by decide +kernel
theorem dX9_init_329 : decode cX9_init 329 = .ok (.dup, 1) := by decide +kernel
theorem dX9_init_330 : decode cX9_init 330 = .ok (.bipush 30, 2) := by decide +kernel
theorem dX9_init_332 : decode cX9_init 332 = .ok (.bipush 99, 2) := by decide +kernel
theorem dX9_init_334 : decode cX9_init 334 = .ok (.iastore, 1) := by decide +kernel
theorem dX9_init_335 : decode cX9_init 335 = .ok (.dup, 1) := by decide +kernel
theorem dX9_init_336 : decode cX9_init 336 = .ok (.bipush 31, 2) := by decide +kernel
theorem dX9_init_338 : decode cX9_init 338 = .ok (.bipush 107, 2) := by decide +kernel
theorem dX9_init_340 : decode cX9_init 340 = .ok (.iastore, 1) := by decide +kernel
theorem dX9_init_341 : decode cX9_init 341 = .ok (.dup, 1) := by decide +kernel
theorem dX9_init_342 : decode cX9_init 342 = .ok (.bipush 32, 2) := by decide +kernel
theorem dX9_init_344 : decode cX9_init 344 = .ok (.bipush 32, 2) := by decide +kernel
theorem dX9_init_346 : decode cX9_init 346 = .ok (.iastore, 1) := by decide +kernel
theorem dX9_init_347 : decode cX9_init 347 = .ok (.dup, 1) := by decide +kernel
theorem dX9_init_348 : decode cX9_init 348 = .ok (.bipush 33, 2) := by decide +kernel
theorem dX9_init_350 : decode cX9_init 350 = .ok (.iconst 0, 1) := by decide +kernel
theorem dX9_init_351 : decode cX9_init 351 = .ok (.iastore, 1) := by decide +kernel
theorem dX9_init_352 : decode cX9_init 352 = .ok (.dup, 1) := by decide +kernel
theorem dX9_init_353 : decode cX9_init 353 = .ok (.bipush 34, 2) := by decide +kernel
theorem dX9_init_355 : decode cX9_init 355 = .ok (.bipush 109, 2) := by decide +kernel
theorem dX9_init_357 : decode cX9_init 357 = .ok (.iastore, 1) := by decide +kernel
theorem dX9_init_358 : decode cX9_init 358 = .ok (.dup, 1) := by decide +kernel
theorem dX9_init_359 : decode cX9_init 359 = .ok (.bipush 35, 2) := by decide +kernel
theorem dX9_init_361 : decode cX9_init 361 = .ok (.bipush 105, 2) := by decide +kernel
theorem dX9_init_363 : decode cX9_init 363 = .ok (.iastore, 1) := by decide +kernel
theorem dX9_init_364 : decode cX9_init 364 = .ok (.dup, 1) := by decide +kernel
theorem dX9_init_365 : decode cX9_init 365 = .ok (.bipush 36, 2) := by decide +kernel
theorem dX9_init_367 : decode cX9_init 367 = .ok (.bipush 116, 2) := by decide +kernel
theorem dX9_init_369 : decode cX9_init 369 = .ok (.iastore, 1) := by decide +kernel
theorem dX9_init_370 : decode cX9_init 370 = .ok (.dup, 1) := by decide +kernel
theorem dX9_init_371 : decode cX9_init 371 = .ok (.bipush 37, 2) := by decide +kernel
theorem dX9_init_373 : decode cX9_init 373 = .ok (.bipush 101, 2) := by decide +kernel
theorem dX9_init_375 : decode cX9_init 375 = .ok (.iastore, 1) := by decide +kernel
theorem dX9_init_376 : decode cX9_init 376 = .ok (.dup, 1) := by decide +kernel
theorem dX9_init_377 : decode cX9_init 377 = .ok (.bipush 38, 2) := by decide +kernel
theorem dX9_init_379 : decode cX9_init 379 = .ok (.bipush 32, 2) := by decide +kernel
theorem dX9_init_381 : decode cX9_init 381 = .ok (.iastore, 1) := by decide +kernel
theorem dX9_init_382 : decode cX9_init 382 = .ok (.dup, 1) := by decide +kernel
theorem dX9_init_383 : decode cX9_init 383 = .ok (.bipush 39, 2) := by decide +kernel
theorem dX9_init_385 : decode cX9_init 385 = .ok (.iconst 0, 1) := by decide +kernel
theorem dX9_init_386 : decode cX9_init 386 = .ok (.iastore, 1) := by decide +kernel
theorem dX9_init_387 : decode cX9_init 387 = .ok (.dup, 1) := by decide +kernel
theorem dX9_init_388 : decode cX9_init 388 = .ok (.bipush 40, 2) := by decide +kernel
theorem dX9_init_390 : decode cX9_init 390 = .ok (.bipush 114, 2) := by decide +kernel
theorem dX9_init_392 : decode cX9_init 392 = .ok (.iastore, 1) := by decide +kernel
theorem dX9_init_393 : decode cX9_init 393 = .ok (.dup, 1) := by decide +kernel
theorem dX9_init_394 : decode cX9_init 394 = .ok (.bipush 41, 2) := by decide +kernel
theorem dX9_init_396 : decode cX9_init 396 = .ok (.bipush 101, 2) := by decide +kernel
theorem dX9_init_398 : decode cX9_init 398 = .ok (.iastore, 1) := by decide +kernel
theorem dX9_init_399 : decode cX9_init 399 = .ok (.dup, 1) := by decide +kernel
theorem dX9_init_400 : decode cX9_init 400 = .ok (.bipush 42, 2) := by decide +kernel
theorem dX9_init_402 : decode cX9_init 402 = .ok (.bipush 97, 2) := by decide +kernel
theorem dX9_init_404 : decode cX9_init 404 = .ok (.iastore, 1) := by decide +kernel
theorem dX9_init_405 : decode cX9_init 405 = .ok (.dup, 1) := by decide +kernel
theorem dX9_init_406 : decode cX9_init 406 = .ok (.bipush 43, 2) := by decide +kernel
theorem dX9_init_408 : decode cX9_init 408 = .ok (.bipush 99, 2) := by decide +kernel
theorem dX9_init_410 : decode cX9_init 410 = .ok (.iastore, 1) := by decide +kernel
theorem dX9_init_411 : decode cX9_init 411 = .ok (.dup, 1) := by decide +kernel
theorem dX9_init_412 : decode cX9_init 412 = .ok (.bipush 44, 2) := by decide +kernel
theorem dX9_init_414 : decode cX9_init 414 = .ok (.bipush 104, 2) := by decide +kernel
theorem dX9_init_416 : decode cX9_init 416 = .ok (.iastore, 1) := by decide +kernel
theorem dX9_init_417 : decode cX9_init 417 = .ok (.dup, 1) := by decide +kernel
theorem dX9_init_418 : decode cX9_init 418 = .ok (.bipush 45, 2) := by decide +kernel
theorem dX9_init_420 : decode cX9_init 420 = .ok (.bipush 32, 2) := by decide +kernel
theorem dX9_init_422 : decode cX9_init 422 = .ok (.iastore, 1) := by decide +kernel
theorem dX9_init_423 : decode cX9_init 423 = .ok (.dup, 1) := by decide +kernel
theorem dX9_init_424 : decode cX9_init 424 = .ok (.bipush 46, 2) := by decide +kernel
theorem dX9_init_426 : decode cX9_init 426 = .ok (.iconst 0, 1) := by decide +kernel
theorem dX9_init_427 : decode cX9_init 427 = .ok (.iastore, 1) := by decide +kernel
theorem dX9_init_428 : decode cX9_init 428 = .ok (.putfield 72, 3) := by decide +kernel
theorem dX9_init_431 : decode cX9_init 431 = .ok (.aload_n 0, 1) := by decide +kernel
theorem dX9_init_432 : decode cX9_init 432 = .ok (.bipush 7, 2) := by decide +kernel
theorem dX9_init_434 : decode cX9_init 434 = .ok (.newarray .int, 2) := by decide +kernel
theorem dX9_init_436 : decode cX9_init 436 = .ok (.dup, 1) := by decide +kernel
theorem dX9_init_437 : decode cX9_init 437 = .ok (.iconst 0, 1) := by decide +kernel
theorem dX9_init_438 : decode cX9_init 438 = .ok (.iconst 1, 1) := by decide +kernel
theorem dX9_init_439 : decode cX9_init 439 = .ok (.iastore, 1) := by decide +kernel
theorem dX9_init_440 : decode cX9_init 440 = .ok (.dup, 1) := by decide +kernel
theorem dX9_init_441 : decode cX9_init 441 = .ok (.iconst 1, 1) := by decide +kernel
theorem dX9_init_442 : decode cX9_init 442 = .ok (.iconst 1, 1) := by decide +kernel
theorem dX9_init_443 : decode cX9_init 443 = .ok (.iastore, 1) := by decide +kernel
theorem dX9_init_444 : decode cX9_init 444 = .ok (.dup, 1) := by decide +kernel
theorem dX9_init_445 : decode cX9_init 445 = .ok (.iconst 2, 1) := by decide +kernel
theorem dX9_init_446 : decode cX9_init 446 = .ok (.iconst 1, 1) := by decide +kernel
theorem dX9_init_447 : decode cX9_init 447 = .ok (.iastore, 1) := by decide +kernel
theorem dX9_init_448 : decode cX9_init 448 = .ok (.dup, 1) := by decide +kernel
theorem dX9_init_449 : decode cX9_init 449 = .ok (.iconst 3, 1) := by decide +kernel
theorem dX9_init_450 : decode cX9_init 450 = .ok (.bipush 6, 2) := by decide +kernel
theorem dX9_init_452 : decode cX9_init 452 = .ok (.iastore, 1) := by decide +kernel
theorem dX9_init_453 : decode cX9_init 453 = .ok (.dup, 1) := by decide +kernel
theorem dX9_init_454 : decode cX9_init 454 = .ok (.iconst 4, 1) := by decide +kernel
theorem dX9_init_455 : decode cX9_init 455 = .ok (.iconst 1, 1) := by decide +kernel
theorem dX9_init_456 : decode cX9_init 456 = .ok (.iastore, 1) := by decide +kernel
theorem dX9_init_457 : decode cX9_init 457 = .ok (.dup, 1) := by decide +kernel
theorem dX9_init_458 : decode cX9_init 458 = .ok (.iconst 5, 1) := by decide +kernel
theorem dX9_init_459 : decode cX9_init 459 = .ok (.iconst 1, 1) := by decide +kernel
theorem dX9_init_460 : decode cX9_init 460 = .ok (.iastore, 1) := by decide +kernel
theorem dX9_init_461 : decode cX9_init 461 = .ok (.dup, 1) := by decide +kernel
theorem dX9_init_462 : decode cX9_init 462 = .ok (.bipush 6, 2) := by decide +kernel
theorem dX9_init_464 : decode cX9_init 464 = .ok (.iconst 1, 1) := by decide +kernel
theorem dX9_init_465 : decode cX9_init 465 = .ok (.iastore, 1) := by decide +kernel
theorem dX9_init_466 : decode cX9_init 466 = .ok (.putfield 75, 3) := by decide +kernel
theorem dX9_init_469 : decode cX9_init 469 = .ok (.aload_n 0, 1) := by decide +kernel
theorem dX9_init_470 : decode cX9_init 470 = .ok (.bipush 6, 2) := by decide +kernel
theorem dX9_init_472 : decode cX9_init 472 = .ok (.newarray .int, 2) := by decide +kernel
theorem dX9_init_474 : decode cX9_init 474 = .ok (.dup, 1) := by decide +kernel
theorem dX9_init_475 : decode cX9_init 475 = .ok (.iconst 0, 1) := by decide +kernel
theorem dX9_init_476 : decode cX9_init 476 = .ok (.bipush 6, 2) := by decide +kernel
theorem dX9_init_478 : decode cX9_init 478 = .ok (.iastore, 1) := by decide +kernel
theorem dX9_init_479 : decode cX9_init 479 = .ok (.dup, 1) := by decide +kernel
theorem dX9_init_480 : decode cX9_init 480 = .ok (.iconst 1, 1) := by decide +kernel
theorem dX9_init_481 : decode cX9_init 481 = .ok (.bipush 9, 2) := by decide +kernel
theorem dX9_init_483 : decode cX9_init 483 = .ok (.iastore, 1) := by decide +kernel
theorem dX9_init_484 : decode cX9_init 484 = .ok (.dup, 1) := by decide +kernel
theorem dX9_init_485 : decode cX9_init 485 = .ok (.iconst 2, 1) := by decide +kernel
theorem dX9_init_486 : decode cX9_init 486 = .ok (.bipush 20, 2) := by decide +kernel
theorem dX9_init_488 : decode cX9_init 488 = .ok (.iastore, 1) := by decide +kernel
theorem dX9_init_489 : decode cX9_init 489 = .ok (.dup, 1) := by decide +kernel
theorem dX9_init_490 : decode cX9_init 490 = .ok (.iconst 3, 1) := by decide +kernel
theorem dX9_init_491 : decode cX9_init 491 = .ok (.bipush 9, 2) := by decide +kernel
theorem dX9_init_493 : decode cX9_init 493 = .ok (.iastore, 1) := by decide +kernel
theorem dX9_init_494 : decode cX9_init 494 = .ok (.dup, 1) := by decide +kernel
theorem dX9_init_495 : decode cX9_init 495 = .ok (.iconst 4, 1) := by decide +kernel
theorem dX9_init_496 : decode cX9_init 496 = .ok (.bipush 99, 2) := by decide +kernel
theorem dX9_init_498 : decode cX9_init 498 = .ok (.iastore, 1) := by decide +kernel
theorem dX9_init_499 : decode cX9_init 499 = .ok (.dup, 1) := by decide +kernel
theorem dX9_init_500 : decode cX9_init 500 = .ok (.iconst 5, 1) := by decide +kernel
theorem dX9_init_501 : decode cX9_init 501 = .ok (.bipush 35, 2) := by decide +kernel
theorem dX9_init_503 : decode cX9_init 503 = .ok (.iastore, 1) := by decide +kernel
theorem dX9_init_504 : decode cX9_init 504 = .ok (.putfield 78, 3) := by decide +kernel
theorem dX9_init_507 : decode cX9_init 507 = .ok (.aload_n 0, 1) := by decide +kernel
theorem dX9_init_508 : decode cX9_init 508 = .ok (.bipush 6, 2) := by decide +kernel
theorem dX9_init_510 : decode cX9_init 510 = .ok (.newarray .int, 2) := by decide +kernel
theorem dX9_init_512 : decode cX9_init 512 = .ok (.putfield 81, 3) := by decide +kernel
theorem dX9_init_515 : decode cX9_init 515 = .ok (.aload_n 0, 1) := by decide +kernel
theorem dX9_init_516 : decode cX9_init 516 = .ok (.sipush 130, 3) := by decide +kernel
theorem dX9_init_519 : decode cX9_init 519 = .ok (.newarray .int, 2) := by decide +kernel
theorem dX9_init_521 : decode cX9_init 521 = .ok (.putfield 84, 3) := by decide +kernel
theorem dX9_init_524 : decode cX9_init 524 = .ok (.aload_n 0, 1) := by decide +kernel
theorem dX9_init_525 : decode cX9_init 525 = .ok (.sipush 130, 3) := by decide +kernel
theorem dX9_init_528 : decode cX9_init 528 = .ok (.newarray .int, 2) := by decide +kernel
theorem dX9_init_530 : decode cX9_init 530 = .ok (.putfield 87, 3) := by decide +kernel
theorem dX9_init_533 : decode cX9_init 533 = .ok (.aload_n 0, 1) := by decide +kernel
theorem dX9_init_534 : decode cX9_init 534 = .ok (.sipush 130, 3) := by decide +kernel
theorem dX9_init_537 : decode cX9_init 537 = .ok (.newarray .int, 2) := by decide +kernel
theorem dX9_init_539 : decode cX9_init 539 = .ok (.putfield 90, 3) := by decide +kernel
theorem dX9_init_542 : decode cX9_init 542 = .ok (.aload_n 0, 1) := by decide +kernel
theorem dX9_init_543 : decode cX9_init 543 = .ok (.iconst (-1), 1) := by decide +kernel
theorem dX9_init_544 : decode cX9_init 544 = .ok (.putfield 93, 3) := by decide +kernel
theorem dX9_init_547 : decode cX9_init 547 = .ok (.aload_n 0, 1) := by decide +kernel
theorem dX9_init_548 : decode cX9_init 548 = .ok (.bipush 36, 2) := by decide +kernel
theorem dX9_init_550 : decode cX9_init 550 = .ok (.newarray .int, 2) := by decide +kernel
theorem dX9_init_552 : decode cX9_init 552 = .ok (.putfield 96, 3) := by decide +kernel
theorem dX9_init_555 : decode cX9_init 555 = .ok (.aload_n 0, 1) := by decide +kernel
theorem dX9_init_556 : decode cX9_init 556 = .ok (.bipush 36, 2) := by decide +kernel
theorem dX9_init_558 : decode cX9_init 558 = .ok (.newarray .int, 2) := by decide +kernel
theorem dX9_init_560 : decode cX9_init 560 = .ok (.putfield 99, 3) := by decide +kernel
theorem dX9_init_563 : decode cX9_init 563 = .ok (.aload_n 0, 1) := by decide +kernel
theorem dX9_init_564 : decode cX9_init 564 = .ok (.bipush 7, 2) := by decide +kernel
theorem dX9_init_566 : decode cX9_init 566 = .ok (.newarray .int, 2) := by decide +kernel
theorem dX9_init_568 : decode cX9_init 568 = .ok (.putfield 102, 3) := by decide +kernel
theorem dX9_init_571 : decode cX9_init 571 = .ok (.aload_n 0, 1) := by decide +kernel
theorem dX9_init_572 : decode cX9_init 572 = .ok (.bipush 20, 2) := by decide +kernel
theorem dX9_init_574 : decode cX9_init 574 = .ok (.newarray .int, 2) := by decide +kernel
theorem dX9_init_576 : decode cX9_init 576 = .ok (.putfield 105, 3) := by decide +kernel
theorem dX9_init_579 : decode cX9_init 579 = .ok (.return_, 1) := by decide +kernel
theorem dX9_no_0 : decode cX9_no 0 = .ok (.aload_n 0, 1) := by decide +kernel
theorem dX9_no_1 : decode cX9_no 1 = .ok (.getfield 22, 3) := by decide +kernel
theorem dX9_no_4 : decode cX9_no 4 = .ok (.iload_n 1, 1) := by decide +kernel
theorem dX9_no_5 : decode cX9_no 5 = .ok (.ineg, 1) := by decide +kernel
theorem dX9_no_6 : decode cX9_no 6 = .ok (.dup2, 1) := by decide +kernel
theorem dX9_no_7 : decode cX9_no 7 = .ok (.iaload, 1) := by decide +kernel
theorem dX9_no_8 : decode cX9_no 8 = .ok (.iconst 1, 1) := by decide +kernel
theorem dX9_no_9 : decode cX9_no 9 = .ok (.iadd, 1) := by decide +kernel
theorem dX9_no_10 : decode cX9_no 10 = .ok (.iastore, 1) := by decide +kernel
theorem dX9_no_11 : decode cX9_no 11 = .ok (.iload_n 1, 1) := by decide +kernel
theorem dX9_no_12 : decode cX9_no 12 = .ok (.ireturn, 1) := by decide +kernel
theorem dX9_noTen_0 : decode cX9_noTen 0 = .ok (.aload_n 0, 1) := by decide +kernel
theorem dX9_noTen_1 : decode cX9_noTen 1 = .ok (.getfield 22, 3) := by decide +kernel
theorem dX9_noTen_4 : decode cX9_noTen 4 = .ok (.iload_n 1, 1) := by decide +kernel
theorem dX9_noTen_5 : decode cX9_noTen 5 = .ok (.ineg, 1) := by decide +kernel
theorem dX9_noTen_6 : decode cX9_noTen 6 = .ok (.dup2, 1) := by decide +kernel
theorem dX9_noTen_7 : decode cX9_noTen 7 = .ok (.iaload, 1) := by decide +kernel
theorem dX9_noTen_8 : decode cX9_noTen 8 = .ok (.iconst 1, 1) := by decide +kernel
theorem dX9_noTen_9 : decode cX9_noTen 9 = .ok (.iadd, 1) := by decide +kernel
theorem dX9_noTen_10 : decode cX9_noTen 10 = .ok (.iastore, 1) := by decide +kernel
theorem dX9_noTen_11 : decode cX9_noTen 11 = .ok (.iload_n 1, 1) := by decide +kernel
theorem dX9_noTen_12 : decode cX9_noTen 12 = .ok (.bipush 10, 2) := by decide +kernel
theorem dX9_noTen_14 : decode cX9_noTen 14 = .ok (.isub, 1) := by decide +kernel
theorem dX9_noTen_15 : decode cX9_noTen 15 = .ok (.ireturn, 1) := by decide +kernel
theorem dX9_isShelf_0 : decode cX9_isShelf 0 = .ok (.iload_n 1, 1) := by decide +kernel
theorem dX9_isShelf_1 : decode cX9_isShelf 1 = .ok (.ifCond .lt 13, 3) := by decide +kernel
theorem dX9_isShelf_4 : decode cX9_isShelf 4 = .ok (.iload_n 1, 1) := by decide +kernel
theorem dX9_isShelf_5 : decode cX9_isShelf 5 = .ok (.bipush 8, 2) := by decide +kernel
theorem dX9_isShelf_7 : decode cX9_isShelf 7 = .ok (.if_icmp .ge 7, 3) := by decide +kernel
theorem dX9_isShelf_10 : decode cX9_isShelf 10 = .ok (.iconst 1, 1) := by decide +kernel
theorem dX9_isShelf_11 : decode cX9_isShelf 11 = .ok (.goto 4, 3) := by decide +kernel
theorem dX9_isShelf_14 : decode cX9_isShelf 14 = .ok (.iconst 0, 1) := by decide +kernel
theorem dX9_isShelf_15 : decode cX9_isShelf 15 = .ok (.ireturn, 1) := by decide +kernel
theorem dX9_isOne_0 : decode cX9_isOne 0 = .ok (.iload_n 1, 1) := by decide +kernel
theorem dX9_isOne_1 : decode cX9_isOne 1 = .ok (.ifCond .lt 15, 3) := by decide +kernel
theorem dX9_isOne_4 : decode cX9_isOne 4 = .ok (.iload_n 1, 1) := by decide +kernel
theorem dX9_isOne_5 : decode cX9_isOne 5 = .ok (.aload_n 0, 1) := by decide +kernel
theorem dX9_isOne_6 : decode cX9_isOne 6 = .ok (.getfield 108, 3) := by decide +kernel
theorem dX9_isOne_9 : decode cX9_isOne 9 = .ok (.if_icmp .ge 7, 3) := by decide +kernel
theorem dX9_isOne_12 : decode cX9_isOne 12 = .ok (.iconst 1, 1) := by decide +kernel
theorem dX9_isOne_13 : decode cX9_isOne 13 = .ok (.goto 4, 3) := by decide +kernel
theorem dX9_isOne_16 : decode cX9_isOne 16 = .ok (.iconst 0, 1) := by decide +kernel
theorem dX9_isOne_17 : decode cX9_isOne 17 = .ok (.ireturn, 1) := by decide +kernel
theorem dX9_isSquare_0 : decode cX9_isSquare 0 = .ok (.iload_n 1, 1) := by decide +kernel
theorem dX9_isSquare_1 : decode cX9_isSquare 1 = .ok (.ifCond .lt 13, 3) := by decide +kernel
theorem dX9_isSquare_4 : decode cX9_isSquare 4 = .ok (.iload_n 1, 1) := by decide +kernel
theorem dX9_isSquare_5 : decode cX9_isSquare 5 = .ok (.bipush 36, 2) := by decide +kernel
theorem dX9_isSquare_7 : decode cX9_isSquare 7 = .ok (.if_icmp .ge 7, 3) := by decide +kernel
theorem dX9_isSquare_10 : decode cX9_isSquare 10 = .ok (.iconst 1, 1) := by decide +kernel
theorem dX9_isSquare_11 : decode cX9_isSquare 11 = .ok (.goto 4, 3) := by decide +kernel
theorem dX9_isSquare_14 : decode cX9_isSquare 14 = .ok (.iconst 0, 1) := by decide +kernel
theorem dX9_isSquare_15 : decode cX9_isSquare 15 = .ok (.ireturn, 1) := by decide +kernel
theorem dX9_isFrom_0 : decode cX9_isFrom 0 = .ok (.iload_n 1, 1) := by decide +kernel
theorem dX9_isFrom_1 : decode cX9_isFrom 1 = .ok (.iload_n 2, 1) := by decide +kernel
theorem dX9_isFrom_2 : decode cX9_isFrom 2 = .ok (.if_icmp .lt 12, 3) := by decide +kernel
theorem dX9_isFrom_5 : decode cX9_isFrom 5 = .ok (.iload_n 1, 1) := by decide +kernel
theorem dX9_isFrom_6 : decode cX9_isFrom 6 = .ok (.iload_n 3, 1) := by decide +kernel
theorem dX9_isFrom_7 : decode cX9_isFrom 7 = .ok (.if_icmp .gt 7, 3) := by decide +kernel
theorem dX9_isFrom_10 : decode cX9_isFrom 10 = .ok (.iconst 1, 1) := by decide +kernel
theorem dX9_isFrom_11 : decode cX9_isFrom 11 = .ok (.goto 4, 3) := by decide +kernel
theorem dX9_isFrom_14 : decode cX9_isFrom 14 = .ok (.iconst 0, 1) := by decide +kernel
theorem dX9_isFrom_15 : decode cX9_isFrom 15 = .ok (.ireturn, 1) := by decide +kernel
theorem dX9_row_0 : decode cX9_row 0 = .ok (.aload_n 0, 1) := by decide +kernel
theorem dX9_row_1 : decode cX9_row 1 = .ok (.iload_n 1, 1) := by decide +kernel
theorem dX9_row_2 : decode cX9_row 2 = .ok (.invokevirtual 111, 3) := by decide +kernel
theorem dX9_row_5 : decode cX9_row 5 = .ok (.ifCond .ne 9, 3) := by decide +kernel
theorem dX9_row_8 : decode cX9_row 8 = .ok (.aload_n 0, 1) := by decide +kernel
theorem dX9_row_9 : decode cX9_row 9 = .ok (.iconst (-1), 1) := by decide +kernel
theorem dX9_row_10 : decode cX9_row 10 = .ok (.invokevirtual 115, 3) := by decide +kernel
theorem dX9_row_13 : decode cX9_row 13 = .ok (.ireturn, 1) := by decide +kernel
theorem dX9_row_14 : decode cX9_row 14 = .ok (.iload_n 3, 1) := by decide +kernel
theorem dX9_row_15 : decode cX9_row 15 = .ok (.ifCond .ge 10, 3) := by decide +kernel
theorem dX9_row_18 : decode cX9_row 18 = .ok (.aload_n 0, 1) := by decide +kernel
theorem dX9_row_19 : decode cX9_row 19 = .ok (.bipush (-4), 2) := by decide +kernel
theorem dX9_row_21 : decode cX9_row 21 = .ok (.invokevirtual 115, 3) := by decide +kernel
theorem dX9_row_24 : decode cX9_row 24 = .ok (.ireturn, 1) := by decide +kernel
theorem dX9_row_25 : decode cX9_row 25 = .ok (.iload_n 2, 1) := by decide +kernel
theorem dX9_row_26 : decode cX9_row 26 = .ok (.ifCond .lt 8, 3) := by decide +kernel
theorem dX9_row_29 : decode cX9_row 29 = .ok (.iload_n 2, 1) := by decide +kernel
theorem dX9_row_30 : decode cX9_row 30 = .ok (.iconst 3, 1) := by decide +kernel
theorem dX9_row_31 : decode cX9_row 31 = .ok (.if_icmp .le 10, 3) := by decide +kernel
theorem dX9_row_34 : decode cX9_row 34 = .ok (.aload_n 0, 1) := by decide +kernel
theorem dX9_row_35 : decode cX9_row 35 = .ok (.bipush (-6), 2) := by decide +kernel
theorem dX9_row_37 : decode cX9_row 37 = .ok (.invokevirtual 115, 3) := by decide +kernel
theorem dX9_row_40 : decode cX9_row 40 = .ok (.ireturn, 1) := by decide +kernel
theorem dX9_row_41 : decode cX9_row 41 = .ok (.iload_n 3, 1) := by decide +kernel
theorem dX9_row_42 : decode cX9_row 42 = .ok (.sipush 160, 3) := by decide +kernel
theorem dX9_row_45 : decode cX9_row 45 = .ok (.if_icmp .le 10, 3) := by decide +kernel
theorem dX9_row_48 : decode cX9_row 48 = .ok (.aload_n 0, 1) := by decide +kernel
theorem dX9_row_49 : decode cX9_row 49 = .ok (.bipush (-7), 2) := by decide +kernel
theorem dX9_row_51 : decode cX9_row 51 = .ok (.invokevirtual 115, 3) := by decide +kernel
theorem dX9_row_54 : decode cX9_row 54 = .ok (.ireturn, 1) := by decide +kernel
theorem dX9_row_55 : decode cX9_row 55 = .ok (.aload_n 0, 1) := by decide +kernel
theorem dX9_row_56 : decode cX9_row 56 = .ok (.getfield 53, 3) := by decide +kernel
theorem dX9_row_59 : decode cX9_row 59 = .ok (.iload_n 1, 1) := by decide +kernel
theorem dX9_row_60 : decode cX9_row 60 = .ok (.iconst 1, 1) := by decide +kernel
theorem dX9_row_61 : decode cX9_row 61 = .ok (.iastore, 1) := by decide +kernel
theorem dX9_row_62 : decode cX9_row 62 = .ok (.aload_n 0, 1) := by decide +kernel
theorem dX9_row_63 : decode cX9_row 63 = .ok (.getfield 56, 3) := by decide +kernel
theorem dX9_row_66 : decode cX9_row 66 = .ok (.iload_n 1, 1) := by decide +kernel
theorem dX9_row_67 : decode cX9_row 67 = .ok (.iload_n 2, 1) := by decide +kernel
theorem dX9_row_68 : decode cX9_row 68 = .ok (.iastore, 1) := by decide +kernel
theorem dX9_row_69 : decode cX9_row 69 = .ok (.aload_n 0, 1) := by decide +kernel
theorem dX9_row_70 : decode cX9_row 70 = .ok (.getfield 59, 3) := by decide +kernel
theorem dX9_row_73 : decode cX9_row 73 = .ok (.iload_n 1, 1) := by decide +kernel
theorem dX9_row_74 : decode cX9_row 74 = .ok (.iload_n 3, 1) := by decide +kernel
theorem dX9_row_75 : decode cX9_row 75 = .ok (.iastore, 1) := by decide +kernel
theorem dX9_row_76 : decode cX9_row 76 = .ok (.iconst 0, 1) := by decide +kernel
theorem dX9_row_77 : decode cX9_row 77 = .ok (.istore 4, 2) := by decide +kernel
theorem dX9_row_79 : decode cX9_row 79 = .ok (.iload 4, 2) := by decide +kernel
theorem dX9_row_81 : decode cX9_row 81 = .ok (.sipush 160, 3) := by decide +kernel
theorem dX9_row_84 : decode cX9_row 84 = .ok (.if_icmp .ge 23, 3) := by decide +kernel
theorem dX9_row_87 : decode cX9_row 87 = .ok (.aload_n 0, 1) := by decide +kernel
theorem dX9_row_88 : decode cX9_row 88 = .ok (.getfield 65, 3) := by decide +kernel
theorem dX9_row_91 : decode cX9_row 91 = .ok (.sipush 160, 3) := by decide +kernel
theorem dX9_row_94 : decode cX9_row 94 = .ok (.iload_n 1, 1) := by decide +kernel
theorem dX9_row_95 : decode cX9_row 95 = .ok (.imul, 1) := by decide +kernel
theorem dX9_row_96 : decode cX9_row 96 = .ok (.iload 4, 2) := by decide +kernel
theorem dX9_row_98 : decode cX9_row 98 = .ok (.iadd, 1) := by decide +kernel
theorem dX9_row_99 : decode cX9_row 99 = .ok (.lconst 0, 1) := by decide +kernel
theorem dX9_row_100 : decode cX9_row 100 = .ok (.lastore, 1) := by decide +kernel
theorem dX9_row_101 : decode cX9_row 101 = .ok (.iinc 4 1, 3) := by decide +kernel
theorem dX9_row_104 : decode cX9_row 104 = .ok (.goto (-25), 3) := by decide +kernel
theorem dX9_row_107 : decode cX9_row 107 = .ok (.iconst 1, 1) := by decide +kernel
theorem dX9_row_108 : decode cX9_row 108 = .ok (.ireturn, 1) := by decide +kernel
theorem dX9_set_0 : decode cX9_set 0 = .ok (.aload_n 0, 1) := by decide +kernel
theorem dX9_set_1 : decode cX9_set 1 = .ok (.iload_n 1, 1) := by decide +kernel
theorem dX9_set_2 : decode cX9_set 2 = .ok (.invokevirtual 111, 3) := by decide +kernel
theorem dX9_set_5 : decode cX9_set 5 = .ok (.ifCond .ne 9, 3) := by decide +kernel
theorem dX9_set_8 : decode cX9_set 8 = .ok (.aload_n 0, 1) := by decide +kernel
theorem dX9_set_9 : decode cX9_set 9 = .ok (.iconst (-1), 1) := by decide +kernel
theorem dX9_set_10 : decode cX9_set 10 = .ok (.invokevirtual 115, 3) := by decide +kernel
theorem dX9_set_13 : decode cX9_set 13 = .ok (.ireturn, 1) := by decide +kernel
theorem dX9_set_14 : decode cX9_set 14 = .ok (.aload_n 0, 1) := by decide +kernel
theorem dX9_set_15 : decode cX9_set 15 = .ok (.getfield 53, 3) := by decide +kernel
theorem dX9_set_18 : decode cX9_set 18 = .ok (.iload_n 1, 1) := by decide +kernel
theorem dX9_set_19 : decode cX9_set 19 = .ok (.iaload, 1) := by decide +kernel
theorem dX9_set_20 : decode cX9_set 20 = .ok (.iconst 2, 1) := by decide +kernel
theorem dX9_set_21 : decode cX9_set 21 = .ok (.if_icmp .ne 10, 3) := by decide +kernel
theorem dX9_set_24 : decode cX9_set 24 = .ok (.aload_n 0, 1) := by decide +kernel
theorem dX9_set_25 : decode cX9_set 25 = .ok (.bipush (-2), 2) := by decide +kernel
theorem dX9_set_27 : decode cX9_set 27 = .ok (.invokevirtual 115, 3) := by decide +kernel
theorem dX9_set_30 : decode cX9_set 30 = .ok (.ireturn, 1) := by decide +kernel
theorem dX9_set_31 : decode cX9_set 31 = .ok (.aload_n 0, 1) := by decide +kernel
theorem dX9_set_32 : decode cX9_set 32 = .ok (.getfield 53, 3) := by decide +kernel
theorem dX9_set_35 : decode cX9_set 35 = .ok (.iload_n 1, 1) := by decide +kernel
theorem dX9_set_36 : decode cX9_set 36 = .ok (.iaload, 1) := by decide +kernel
theorem dX9_set_37 : decode cX9_set 37 = .ok (.ifCond .ne 10, 3) := by decide +kernel
theorem dX9_set_40 : decode cX9_set 40 = .ok (.aload_n 0, 1) := by decide +kernel
theorem dX9_set_41 : decode cX9_set 41 = .ok (.bipush (-3), 2) := by decide +kernel
theorem dX9_set_43 : decode cX9_set 43 = .ok (.invokevirtual 115, 3) := by decide +kernel
theorem dX9_set_46 : decode cX9_set 46 = .ok (.ireturn, 1) := by decide +kernel
theorem dX9_set_47 : decode cX9_set 47 = .ok (.iload_n 2, 1) := by decide +kernel
theorem dX9_set_48 : decode cX9_set 48 = .ok (.ifCond .lt 13, 3) := by decide +kernel
theorem dX9_set_51 : decode cX9_set 51 = .ok (.iload_n 2, 1) := by decide +kernel
theorem dX9_set_52 : decode cX9_set 52 = .ok (.aload_n 0, 1) := by decide +kernel
theorem dX9_set_53 : decode cX9_set 53 = .ok (.getfield 59, 3) := by decide +kernel
theorem dX9_set_56 : decode cX9_set 56 = .ok (.iload_n 1, 1) := by decide +kernel
theorem dX9_set_57 : decode cX9_set 57 = .ok (.iaload, 1) := by decide +kernel
theorem dX9_set_58 : decode cX9_set 58 = .ok (.if_icmp .lt 10, 3) := by decide +kernel
theorem dX9_set_61 : decode cX9_set 61 = .ok (.aload_n 0, 1) := by decide +kernel
theorem dX9_set_62 : decode cX9_set 62 = .ok (.bipush (-5), 2) := by decide +kernel
theorem dX9_set_64 : decode cX9_set 64 = .ok (.invokevirtual 115, 3) := by decide +kernel
theorem dX9_set_67 : decode cX9_set 67 = .ok (.ireturn, 1) := by decide +kernel
theorem dX9_set_68 : decode cX9_set 68 = .ok (.aload_n 0, 1) := by decide +kernel
theorem dX9_set_69 : decode cX9_set 69 = .ok (.getfield 65, 3) := by decide +kernel
theorem dX9_set_72 : decode cX9_set 72 = .ok (.sipush 160, 3) := by decide +kernel
theorem dX9_set_75 : decode cX9_set 75 = .ok (.iload_n 1, 1) := by decide +kernel
theorem dX9_set_76 : decode cX9_set 76 = .ok (.imul, 1) := by decide +kernel
theorem dX9_set_77 : decode cX9_set 77 = .ok (.iload_n 2, 1) := by decide +kernel
theorem dX9_set_78 : decode cX9_set 78 = .ok (.iadd, 1) := by decide +kernel
theorem dX9_set_79 : decode cX9_set 79 = .ok (.aload_n 0, 1) := by decide +kernel
theorem dX9_set_80 : decode cX9_set 80 = .ok (.getfield 56, 3) := by decide +kernel
theorem dX9_set_83 : decode cX9_set 83 = .ok (.iload_n 1, 1) := by decide +kernel
theorem dX9_set_84 : decode cX9_set 84 = .ok (.iaload, 1) := by decide +kernel
theorem dX9_set_85 : decode cX9_set 85 = .ok (.ifCond .ne 10, 3) := by decide +kernel
theorem dX9_set_88 : decode cX9_set 88 = .ok (.lload_n 3, 1) := by decide +kernel
theorem dX9_set_89 : decode cX9_set 89 = .ok (.l2i, 1) := by decide +kernel
theorem dX9_set_90 : decode cX9_set 90 = .ok (.i2b, 1) := by decide +kernel
theorem dX9_set_91 : decode cX9_set 91 = .ok (.i2l, 1) := by decide +kernel
theorem dX9_set_92 : decode cX9_set 92 = .ok (.goto 37, 3) := by decide +kernel
theorem dX9_set_95 : decode cX9_set 95 = .ok (.aload_n 0, 1) := by decide +kernel
theorem dX9_set_96 : decode cX9_set 96 = .ok (.getfield 56, 3) := by decide +kernel
theorem dX9_set_99 : decode cX9_set 99 = .ok (.iload_n 1, 1) := by decide +kernel
theorem dX9_set_100 : decode cX9_set 100 = .ok (.iaload, 1) := by decide +kernel
theorem dX9_set_101 : decode cX9_set 101 = .ok (.iconst 1, 1) := by decide +kernel
theorem dX9_set_102 : decode cX9_set 102 = .ok (.if_icmp .ne 10, 3) := by decide +kernel
theorem dX9_set_105 : decode cX9_set 105 = .ok (.lload_n 3, 1) := by decide +kernel
theorem dX9_set_106 : decode cX9_set 106 = .ok (.l2i, 1) := by decide +kernel
theorem dX9_set_107 : decode cX9_set 107 = .ok (.i2s, 1) := by decide +kernel
theorem dX9_set_108 : decode cX9_set 108 = .ok (.i2l, 1) := by decide +kernel
theorem dX9_set_109 : decode cX9_set 109 = .ok (.goto 20, 3) := by decide +kernel
theorem dX9_set_112 : decode cX9_set 112 = .ok (.aload_n 0, 1) := by decide +kernel
theorem dX9_set_113 : decode cX9_set 113 = .ok (.getfield 56, 3) := by decide +kernel
theorem dX9_set_116 : decode cX9_set 116 = .ok (.iload_n 1, 1) := by decide +kernel
theorem dX9_set_117 : decode cX9_set 117 = .ok (.iaload, 1) := by decide +kernel
theorem dX9_set_118 : decode cX9_set 118 = .ok (.iconst 2, 1) := by decide +kernel
theorem dX9_set_119 : decode cX9_set 119 = .ok (.if_icmp .ne 9, 3) := by decide +kernel
theorem dX9_set_122 : decode cX9_set 122 = .ok (.lload_n 3, 1) := by decide +kernel
theorem dX9_set_123 : decode cX9_set 123 = .ok (.l2i, 1) := by decide +kernel
theorem dX9_set_124 : decode cX9_set 124 = .ok (.i2l, 1) := by decide +kernel
theorem dX9_set_125 : decode cX9_set 125 = .ok (.goto 4, 3) := by decide +kernel
theorem dX9_set_128 : decode cX9_set 128 = .ok (.lload_n 3, 1) := by decide +kernel
theorem dX9_set_129 : decode cX9_set 129 = .ok (.lastore, 1) := by decide +kernel
theorem dX9_set_130 : decode cX9_set 130 = .ok (.iconst 1, 1) := by decide +kernel
theorem dX9_set_131 : decode cX9_set 131 = .ok (.ireturn, 1) := by decide +kernel
theorem dX9_copy_0 : decode cX9_copy 0 = .ok (.aload_n 0, 1) := by decide +kernel
theorem dX9_copy_1 : decode cX9_copy 1 = .ok (.iload_n 1, 1) := by decide +kernel
theorem dX9_copy_2 : decode cX9_copy 2 = .ok (.invokevirtual 111, 3) := by decide +kernel
theorem dX9_copy_5 : decode cX9_copy 5 = .ok (.ifCond .eq 11, 3) := by decide +kernel
theorem dX9_copy_8 : decode cX9_copy 8 = .ok (.aload_n 0, 1) := by decide +kernel
theorem dX9_copy_9 : decode cX9_copy 9 = .ok (.iload_n 2, 1) := by decide +kernel
theorem dX9_copy_10 : decode cX9_copy 10 = .ok (.invokevirtual 111, 3) := by decide +kernel
theorem dX9_copy_13 : decode cX9_copy 13 = .ok (.ifCond .ne 9, 3) := by decide +kernel
theorem dX9_copy_16 : decode cX9_copy 16 = .ok (.aload_n 0, 1) := by decide +kernel
theorem dX9_copy_17 : decode cX9_copy 17 = .ok (.iconst (-1), 1) := by decide +kernel
theorem dX9_copy_18 : decode cX9_copy 18 = .ok (.invokevirtual 115, 3) := by decide +kernel
theorem dX9_copy_21 : decode cX9_copy 21 = .ok (.ireturn, 1) := by decide +kernel
theorem dX9_copy_22 : decode cX9_copy 22 = .ok (.aload_n 0, 1) := by decide +kernel
theorem dX9_copy_23 : decode cX9_copy 23 = .ok (.getfield 53, 3) := by decide +kernel
theorem dX9_copy_26 : decode cX9_copy 26 = .ok (.iload_n 1, 1) := by decide +kernel
theorem dX9_copy_27 : decode cX9_copy 27 = .ok (.iaload, 1) := by decide +kernel
theorem dX9_copy_28 : decode cX9_copy 28 = .ok (.iconst 2, 1) := by decide +kernel
theorem dX9_copy_29 : decode cX9_copy 29 = .ok (.if_icmp .eq 48, 3) := by decide +kernel
theorem dX9_copy_32 : decode cX9_copy 32 = .ok (.aload_n 0, 1) := by decide +kernel
theorem dX9_copy_33 : decode cX9_copy 33 = .ok (.getfield 53, 3) := by decide +kernel
theorem dX9_copy_36 : decode cX9_copy 36 = .ok (.iload_n 2, 1) := by decide +kernel
theorem dX9_copy_37 : decode cX9_copy 37 = .ok (.iaload, 1) := by decide +kernel
theorem dX9_copy_38 : decode cX9_copy 38 = .ok (.iconst 2, 1) := by decide +kernel
theorem dX9_copy_39 : decode cX9_copy 39 = .ok (.if_icmp .eq 38, 3) := by decide +kernel
theorem dX9_copy_42 : decode cX9_copy 42 = .ok (.aload_n 0, 1) := by decide +kernel
theorem dX9_copy_43 : decode cX9_copy 43 = .ok (.getfield 53, 3) := by decide +kernel
theorem dX9_copy_46 : decode cX9_copy 46 = .ok (.iload_n 1, 1) := by decide +kernel
theorem dX9_copy_47 : decode cX9_copy 47 = .ok (.iaload, 1) := by decide +kernel
theorem dX9_copy_48 : decode cX9_copy 48 = .ok (.iconst 1, 1) := by decide +kernel
theorem dX9_copy_49 : decode cX9_copy 49 = .ok (.if_icmp .ne 35, 3) := by decide +kernel
theorem dX9_copy_52 : decode cX9_copy 52 = .ok (.aload_n 0, 1) := by decide +kernel
theorem dX9_copy_53 : decode cX9_copy 53 = .ok (.getfield 53, 3) := by decide +kernel
theorem dX9_copy_56 : decode cX9_copy 56 = .ok (.iload_n 2, 1) := by decide +kernel
theorem dX9_copy_57 : decode cX9_copy 57 = .ok (.iaload, 1) := by decide +kernel
theorem dX9_copy_58 : decode cX9_copy 58 = .ok (.iconst 1, 1) := by decide +kernel
theorem dX9_copy_59 : decode cX9_copy 59 = .ok (.if_icmp .ne 25, 3) := by decide +kernel
theorem dX9_copy_62 : decode cX9_copy 62 = .ok (.aload_n 0, 1) := by decide +kernel
theorem dX9_copy_63 : decode cX9_copy 63 = .ok (.getfield 56, 3) := by decide +kernel
theorem dX9_copy_66 : decode cX9_copy 66 = .ok (.iload_n 1, 1) := by decide +kernel
theorem dX9_copy_67 : decode cX9_copy 67 = .ok (.iaload, 1) := by decide +kernel
theorem dX9_copy_68 : decode cX9_copy 68 = .ok (.aload_n 0, 1) := by decide +kernel
theorem dX9_copy_69 : decode cX9_copy 69 = .ok (.getfield 56, 3) := by decide +kernel
theorem dX9_copy_72 : decode cX9_copy 72 = .ok (.iload_n 2, 1) := by decide +kernel
theorem dX9_copy_73 : decode cX9_copy 73 = .ok (.iaload, 1) := by decide +kernel
theorem dX9_copy_74 : decode cX9_copy 74 = .ok (.if_icmp .eq 10, 3) := by decide +kernel
theorem dX9_copy_77 : decode cX9_copy 77 = .ok (.aload_n 0, 1) := by decide +kernel
theorem dX9_copy_78 : decode cX9_copy 78 = .ok (.bipush (-2), 2) := by decide +kernel
theorem dX9_copy_80 : decode cX9_copy 80 = .ok (.invokevirtual 115, 3) := by decide +kernel
theorem dX9_copy_83 : decode cX9_copy 83 = .ok (.ireturn, 1) := by decide +kernel
theorem dX9_copy_84 : decode cX9_copy 84 = .ok (.aload_n 0, 1) := by decide +kernel
theorem dX9_copy_85 : decode cX9_copy 85 = .ok (.getfield 53, 3) := by decide +kernel
theorem dX9_copy_88 : decode cX9_copy 88 = .ok (.iload_n 1, 1) := by decide +kernel
theorem dX9_copy_89 : decode cX9_copy 89 = .ok (.iaload, 1) := by decide +kernel
theorem dX9_copy_90 : decode cX9_copy 90 = .ok (.ifCond .eq 12, 3) := by decide +kernel
theorem dX9_copy_93 : decode cX9_copy 93 = .ok (.aload_n 0, 1) := by decide +kernel
theorem dX9_copy_94 : decode cX9_copy 94 = .ok (.getfield 53, 3) := by decide +kernel
theorem dX9_copy_97 : decode cX9_copy 97 = .ok (.iload_n 2, 1) := by decide +kernel
theorem dX9_copy_98 : decode cX9_copy 98 = .ok (.iaload, 1) := by decide +kernel
theorem dX9_copy_99 : decode cX9_copy 99 = .ok (.ifCond .ne 10, 3) := by decide +kernel
theorem dX9_copy_102 : decode cX9_copy 102 = .ok (.aload_n 0, 1) := by decide +kernel
theorem dX9_copy_103 : decode cX9_copy 103 = .ok (.bipush (-3), 2) := by decide +kernel
theorem dX9_copy_105 : decode cX9_copy 105 = .ok (.invokevirtual 115, 3) := by decide +kernel
theorem dX9_copy_108 : decode cX9_copy 108 = .ok (.ireturn, 1) := by decide +kernel
theorem dX9_copy_109 : decode cX9_copy 109 = .ok (.iload 5, 2) := by decide +kernel
theorem dX9_copy_111 : decode cX9_copy 111 = .ok (.ifCond .ge 10, 3) := by decide +kernel
theorem dX9_copy_114 : decode cX9_copy 114 = .ok (.aload_n 0, 1) := by decide +kernel
theorem dX9_copy_115 : decode cX9_copy 115 = .ok (.bipush (-4), 2) := by decide +kernel
theorem dX9_copy_117 : decode cX9_copy 117 = .ok (.invokevirtual 115, 3) := by decide +kernel
theorem dX9_copy_120 : decode cX9_copy 120 = .ok (.ireturn, 1) := by decide +kernel
theorem dX9_copy_121 : decode cX9_copy 121 = .ok (.iload_n 3, 1) := by decide +kernel
theorem dX9_copy_122 : decode cX9_copy 122 = .ok (.ifCond .lt 35, 3) := by decide +kernel
theorem dX9_copy_125 : decode cX9_copy 125 = .ok (.iload 4, 2) := by decide +kernel
theorem dX9_copy_127 : decode cX9_copy 127 = .ok (.ifCond .lt 30, 3) := by decide +kernel
theorem dX9_copy_130 : decode cX9_copy 130 = .ok (.iload_n 3, 1) := by decide +kernel
theorem dX9_copy_131 : decode cX9_copy 131 = .ok (.aload_n 0, 1) := by decide +kernel
theorem dX9_copy_132 : decode cX9_copy 132 = .ok (.getfield 59, 3) := by decide +kernel
theorem dX9_copy_135 : decode cX9_copy 135 = .ok (.iload_n 1, 1) := by decide +kernel
theorem dX9_copy_136 : decode cX9_copy 136 = .ok (.iaload, 1) := by decide +kernel
theorem dX9_copy_137 : decode cX9_copy 137 = .ok (.iload 5, 2) := by decide +kernel
theorem dX9_copy_139 : decode cX9_copy 139 = .ok (.isub, 1) := by decide +kernel
theorem dX9_copy_140 : decode cX9_copy 140 = .ok (.if_icmp .gt 17, 3) := by decide +kernel
theorem dX9_copy_143 : decode cX9_copy 143 = .ok (.iload 4, 2) := by decide +kernel
theorem dX9_copy_145 : decode cX9_copy 145 = .ok (.aload_n 0, 1) := by decide +kernel
theorem dX9_copy_146 : decode cX9_copy 146 = .ok (.getfield 59, 3) := by decide +kernel
theorem dX9_copy_149 : decode cX9_copy 149 = .ok (.iload_n 2, 1) := by decide +kernel
theorem dX9_copy_150 : decode cX9_copy 150 = .ok (.iaload, 1) := by decide +kernel
theorem dX9_copy_151 : decode cX9_copy 151 = .ok (.iload 5, 2) := by decide +kernel
theorem dX9_copy_153 : decode cX9_copy 153 = .ok (.isub, 1) := by decide +kernel
theorem dX9_copy_154 : decode cX9_copy 154 = .ok (.if_icmp .le 10, 3) := by decide +kernel
theorem dX9_copy_157 : decode cX9_copy 157 = .ok (.aload_n 0, 1) := by decide +kernel
theorem dX9_copy_158 : decode cX9_copy 158 = .ok (.bipush (-5), 2) := by decide +kernel
theorem dX9_copy_160 : decode cX9_copy 160 = .ok (.invokevirtual 115, 3) := by decide +kernel
theorem dX9_copy_163 : decode cX9_copy 163 = .ok (.ireturn, 1) := by decide +kernel
theorem dX9_copy_164 : decode cX9_copy 164 = .ok (.iconst 0, 1) := by decide +kernel
theorem dX9_copy_165 : decode cX9_copy 165 = .ok (.istore 6, 2) := by decide +kernel
theorem dX9_copy_167 : decode cX9_copy 167 = .ok (.iload 6, 2) := by decide +kernel
theorem dX9_copy_169 : decode cX9_copy 169 = .ok (.iload 5, 2) := by decide +kernel
theorem dX9_copy_171 : decode cX9_copy 171 = .ok (.if_icmp .ge 31, 3) := by decide +kernel
theorem dX9_copy_174 : decode cX9_copy 174 = .ok (.aload_n 0, 1) := by decide +kernel
theorem dX9_copy_175 : decode cX9_copy 175 = .ok (.getfield 69, 3) := by decide +kernel
theorem dX9_copy_178 : decode cX9_copy 178 = .ok (.iload 6, 2) := by decide +kernel
theorem dX9_copy_180 : decode cX9_copy 180 = .ok (.aload_n 0, 1) := by decide +kernel
theorem dX9_copy_181 : decode cX9_copy 181 = .ok (.getfield 65, 3) := by decide +kernel
theorem dX9_copy_184 : decode cX9_copy 184 = .ok (.sipush 160, 3) := by decide +kernel
theorem dX9_copy_187 : decode cX9_copy 187 = .ok (.iload_n 1, 1) := by decide +kernel
theorem dX9_copy_188 : decode cX9_copy 188 = .ok (.imul, 1) := by decide +kernel
theorem dX9_copy_189 : decode cX9_copy 189 = .ok (.iload_n 3, 1) := by decide +kernel
theorem dX9_copy_190 : decode cX9_copy 190 = .ok (.iadd, 1) := by decide +kernel
theorem dX9_copy_191 : decode cX9_copy 191 = .ok (.iload 6, 2) := by decide +kernel
theorem dX9_copy_193 : decode cX9_copy 193 = .ok (.iadd, 1) := by decide +kernel
theorem dX9_copy_194 : decode cX9_copy 194 = .ok (.laload, 1) := by decide +kernel
theorem dX9_copy_195 : decode cX9_copy 195 = .ok (.lastore, 1) := by decide +kernel
theorem dX9_copy_196 : decode cX9_copy 196 = .ok (.iinc 6 1, 3) := by decide +kernel
theorem dX9_copy_199 : decode cX9_copy 199 = .ok (.goto (-32), 3) := by decide +kernel
theorem dX9_copy_202 : decode cX9_copy 202 = .ok (.iconst 0, 1) := by decide +kernel
theorem dX9_copy_203 : decode cX9_copy 203 = .ok (.istore 6, 2) := by decide +kernel
theorem dX9_copy_205 : decode cX9_copy 205 = .ok (.iload 6, 2) := by decide +kernel
theorem dX9_copy_207 : decode cX9_copy 207 = .ok (.iload 5, 2) := by decide +kernel
theorem dX9_copy_209 : decode cX9_copy 209 = .ok (.if_icmp .ge 32, 3) := by decide +kernel
theorem dX9_copy_212 : decode cX9_copy 212 = .ok (.aload_n 0, 1) := by decide +kernel
theorem dX9_copy_213 : decode cX9_copy 213 = .ok (.getfield 65, 3) := by decide +kernel
theorem dX9_copy_216 : decode cX9_copy 216 = .ok (.sipush 160, 3) := by decide +kernel
theorem dX9_copy_219 : decode cX9_copy 219 = .ok (.iload_n 2, 1) := by decide +kernel
theorem dX9_copy_220 : decode cX9_copy 220 = .ok (.imul, 1) := by decide +kernel
theorem dX9_copy_221 : decode cX9_copy 221 = .ok (.iload 4, 2) := by decide +kernel
theorem dX9_copy_223 : decode cX9_copy 223 = .ok (.iadd, 1) := by decide +kernel
theorem dX9_copy_224 : decode cX9_copy 224 = .ok (.iload 6, 2) := by decide +kernel
theorem dX9_copy_226 : decode cX9_copy 226 = .ok (.iadd, 1) := by decide +kernel
theorem dX9_copy_227 : decode cX9_copy 227 = .ok (.aload_n 0, 1) := by decide +kernel
theorem dX9_copy_228 : decode cX9_copy 228 = .ok (.getfield 69, 3) := by decide +kernel
theorem dX9_copy_231 : decode cX9_copy 231 = .ok (.iload 6, 2) := by decide +kernel
theorem dX9_copy_233 : decode cX9_copy 233 = .ok (.laload, 1) := by decide +kernel
theorem dX9_copy_234 : decode cX9_copy 234 = .ok (.lastore, 1) := by decide +kernel
theorem dX9_copy_235 : decode cX9_copy 235 = .ok (.iinc 6 1, 3) := by decide +kernel
theorem dX9_copy_238 : decode cX9_copy 238 = .ok (.goto (-33), 3) := by decide +kernel
theorem dX9_copy_241 : decode cX9_copy 241 = .ok (.iconst 1, 1) := by decide +kernel
theorem dX9_copy_242 : decode cX9_copy 242 = .ok (.ireturn, 1) := by decide +kernel
theorem dX9_element_0 : decode cX9_element 0 = .ok (.aload_n 0, 1) := by decide +kernel
theorem dX9_element_1 : decode cX9_element 1 = .ok (.iload_n 1, 1) := by decide +kernel
theorem dX9_element_2 : decode cX9_element 2 = .ok (.invokevirtual 111, 3) := by decide +kernel
theorem dX9_element_5 : decode cX9_element 5 = .ok (.ifCond .eq 42, 3) := by decide +kernel
theorem dX9_element_8 : decode cX9_element 8 = .ok (.aload_n 0, 1) := by decide +kernel
theorem dX9_element_9 : decode cX9_element 9 = .ok (.getfield 53, 3) := by decide +kernel
theorem dX9_element_12 : decode cX9_element 12 = .ok (.iload_n 1, 1) := by decide +kernel
theorem dX9_element_13 : decode cX9_element 13 = .ok (.iaload, 1) := by decide +kernel
theorem dX9_element_14 : decode cX9_element 14 = .ok (.iconst 1, 1) := by decide +kernel
theorem dX9_element_15 : decode cX9_element 15 = .ok (.if_icmp .ne 32, 3) := by decide +kernel
theorem dX9_element_18 : decode cX9_element 18 = .ok (.iload_n 2, 1) := by decide +kernel
theorem dX9_element_19 : decode cX9_element 19 = .ok (.ifCond .lt 28, 3) := by decide +kernel
theorem dX9_element_22 : decode cX9_element 22 = .ok (.iload_n 2, 1) := by decide +kernel
theorem dX9_element_23 : decode cX9_element 23 = .ok (.aload_n 0, 1) := by decide +kernel
theorem dX9_element_24 : decode cX9_element 24 = .ok (.getfield 59, 3) := by decide +kernel
theorem dX9_element_27 : decode cX9_element 27 = .ok (.iload_n 1, 1) := by decide +kernel
theorem dX9_element_28 : decode cX9_element 28 = .ok (.iaload, 1) := by decide +kernel
theorem dX9_element_29 : decode cX9_element 29 = .ok (.if_icmp .ge 18, 3) := by decide +kernel
theorem dX9_element_32 : decode cX9_element 32 = .ok (.aload_n 0, 1) := by decide +kernel
theorem dX9_element_33 : decode cX9_element 33 = .ok (.getfield 65, 3) := by decide +kernel
theorem dX9_element_36 : decode cX9_element 36 = .ok (.sipush 160, 3) := by decide +kernel
theorem dX9_element_39 : decode cX9_element 39 = .ok (.iload_n 1, 1) := by decide +kernel
theorem dX9_element_40 : decode cX9_element 40 = .ok (.imul, 1) := by decide +kernel
theorem dX9_element_41 : decode cX9_element 41 = .ok (.iload_n 2, 1) := by decide +kernel
theorem dX9_element_42 : decode cX9_element 42 = .ok (.iadd, 1) := by decide +kernel
theorem dX9_element_43 : decode cX9_element 43 = .ok (.laload, 1) := by decide +kernel
theorem dX9_element_44 : decode cX9_element 44 = .ok (.goto 4, 3) := by decide +kernel
theorem dX9_element_47 : decode cX9_element 47 = .ok (.lconst 0, 1) := by decide +kernel
theorem dX9_element_48 : decode cX9_element 48 = .ok (.lreturn, 1) := by decide +kernel
theorem dX9_show_0 : decode cX9_show 0 = .ok (.aload_n 0, 1) := by decide +kernel
theorem dX9_show_1 : decode cX9_show 1 = .ok (.iload_n 1, 1) := by decide +kernel
theorem dX9_show_2 : decode cX9_show 2 = .ok (.invokevirtual 111, 3) := by decide +kernel
theorem dX9_show_5 : decode cX9_show 5 = .ok (.ifCond .eq 16, 3) := by decide +kernel
theorem dX9_show_8 : decode cX9_show 8 = .ok (.iload_n 2, 1) := by decide +kernel
theorem dX9_show_9 : decode cX9_show 9 = .ok (.iconst (-1), 1) := by decide +kernel
theorem dX9_show_10 : decode cX9_show 10 = .ok (.if_icmp .eq 17, 3) := by decide +kernel
theorem dX9_show_13 : decode cX9_show 13 = .ok (.aload_n 0, 1) := by decide +kernel
theorem dX9_show_14 : decode cX9_show 14 = .ok (.iload_n 2, 1) := by decide +kernel
theorem dX9_show_15 : decode cX9_show 15 = .ok (.invokevirtual 119, 3) := by decide +kernel
theorem dX9_show_18 : decode cX9_show 18 = .ok (.ifCond .ne 9, 3) := by decide +kernel
theorem dX9_show_21 : decode cX9_show 21 = .ok (.aload_n 0, 1) := by decide +kernel
theorem dX9_show_22 : decode cX9_show 22 = .ok (.iconst (-1), 1) := by decide +kernel
theorem dX9_show_23 : decode cX9_show 23 = .ok (.invokevirtual 115, 3) := by decide +kernel
theorem dX9_show_26 : decode cX9_show 26 = .ok (.ireturn, 1) := by decide +kernel
theorem dX9_show_27 : decode cX9_show 27 = .ok (.aload_n 0, 1) := by decide +kernel
theorem dX9_show_28 : decode cX9_show 28 = .ok (.getfield 53, 3) := by decide +kernel
theorem dX9_show_31 : decode cX9_show 31 = .ok (.iload_n 1, 1) := by decide +kernel
theorem dX9_show_32 : decode cX9_show 32 = .ok (.iload_n 2, 1) := by decide +kernel
theorem dX9_show_33 : decode cX9_show 33 = .ok (.iconst (-1), 1) := by decide +kernel
theorem dX9_show_34 : decode cX9_show 34 = .ok (.if_icmp .ne 7, 3) := by decide +kernel
theorem dX9_show_37 : decode cX9_show 37 = .ok (.iconst 0, 1) := by decide +kernel
theorem dX9_show_38 : decode cX9_show 38 = .ok (.goto 4, 3) := by decide +kernel
theorem dX9_show_41 : decode cX9_show 41 = .ok (.iconst 2, 1) := by decide +kernel
theorem dX9_show_42 : decode cX9_show 42 = .ok (.iastore, 1) := by decide +kernel
theorem dX9_show_43 : decode cX9_show 43 = .ok (.aload_n 0, 1) := by decide +kernel
theorem dX9_show_44 : decode cX9_show 44 = .ok (.getfield 62, 3) := by decide +kernel
theorem dX9_show_47 : decode cX9_show 47 = .ok (.iload_n 1, 1) := by decide +kernel
theorem dX9_show_48 : decode cX9_show 48 = .ok (.iload_n 2, 1) := by decide +kernel
theorem dX9_show_49 : decode cX9_show 49 = .ok (.iastore, 1) := by decide +kernel
theorem dX9_show_50 : decode cX9_show 50 = .ok (.iload_n 2, 1) := by decide +kernel
theorem dX9_show_51 : decode cX9_show 51 = .ok (.iconst (-1), 1) := by decide +kernel
theorem dX9_show_52 : decode cX9_show 52 = .ok (.if_icmp .ne 7, 3) := by decide +kernel
theorem dX9_show_55 : decode cX9_show 55 = .ok (.iconst 0, 1) := by decide +kernel
theorem dX9_show_56 : decode cX9_show 56 = .ok (.goto 4, 3) := by decide +kernel
theorem dX9_show_59 : decode cX9_show 59 = .ok (.iconst 1, 1) := by decide +kernel
theorem dX9_show_60 : decode cX9_show 60 = .ok (.ireturn, 1) := by decide +kernel
theorem dX9_holds_0 : decode cX9_holds 0 = .ok (.aload_n 0, 1) := by decide +kernel
theorem dX9_holds_1 : decode cX9_holds 1 = .ok (.iload_n 1, 1) := by decide +kernel
theorem dX9_holds_2 : decode cX9_holds 2 = .ok (.invokevirtual 111, 3) := by decide +kernel
theorem dX9_holds_5 : decode cX9_holds 5 = .ok (.ifCond .eq 12, 3) := by decide +kernel
theorem dX9_holds_8 : decode cX9_holds 8 = .ok (.aload_n 0, 1) := by decide +kernel
theorem dX9_holds_9 : decode cX9_holds 9 = .ok (.getfield 53, 3) := by decide +kernel
theorem dX9_holds_12 : decode cX9_holds 12 = .ok (.iload_n 1, 1) := by decide +kernel
theorem dX9_holds_13 : decode cX9_holds 13 = .ok (.iaload, 1) := by decide +kernel
theorem dX9_holds_14 : decode cX9_holds 14 = .ok (.ifCond .ne 5, 3) := by decide +kernel
theorem dX9_holds_17 : decode cX9_holds 17 = .ok (.iconst (-1), 1) := by decide +kernel
theorem dX9_holds_18 : decode cX9_holds 18 = .ok (.ireturn, 1) := by decide +kernel
theorem dX9_holds_19 : decode cX9_holds 19 = .ok (.aload_n 0, 1) := by decide +kernel
theorem dX9_holds_20 : decode cX9_holds 20 = .ok (.getfield 53, 3) := by decide +kernel
theorem dX9_holds_23 : decode cX9_holds 23 = .ok (.iload_n 1, 1) := by decide +kernel
theorem dX9_holds_24 : decode cX9_holds 24 = .ok (.iaload, 1) := by decide +kernel
theorem dX9_holds_25 : decode cX9_holds 25 = .ok (.iconst 1, 1) := by decide +kernel
theorem dX9_holds_26 : decode cX9_holds 26 = .ok (.if_icmp .ne 15, 3) := by decide +kernel
theorem dX9_holds_29 : decode cX9_holds 29 = .ok (.bipush 100, 2) := by decide +kernel
theorem dX9_holds_31 : decode cX9_holds 31 = .ok (.aload_n 0, 1) := by decide +kernel
theorem dX9_holds_32 : decode cX9_holds 32 = .ok (.getfield 56, 3) := by decide +kernel
theorem dX9_holds_35 : decode cX9_holds 35 = .ok (.iload_n 1, 1) := by decide +kernel
theorem dX9_holds_36 : decode cX9_holds 36 = .ok (.iaload, 1) := by decide +kernel
theorem dX9_holds_37 : decode cX9_holds 37 = .ok (.iadd, 1) := by decide +kernel
theorem dX9_holds_38 : decode cX9_holds 38 = .ok (.goto 9, 3) := by decide +kernel
theorem dX9_holds_41 : decode cX9_holds 41 = .ok (.aload_n 0, 1) := by decide +kernel
theorem dX9_holds_42 : decode cX9_holds 42 = .ok (.getfield 62, 3) := by decide +kernel
theorem dX9_holds_45 : decode cX9_holds 45 = .ok (.iload_n 1, 1) := by decide +kernel
theorem dX9_holds_46 : decode cX9_holds 46 = .ok (.iaload, 1) := by decide +kernel
theorem dX9_holds_47 : decode cX9_holds 47 = .ok (.ireturn, 1) := by decide +kernel
theorem dX9_says_0 : decode cX9_says 0 = .ok (.aload_n 0, 1) := by decide +kernel
theorem dX9_says_1 : decode cX9_says 1 = .ok (.iload_n 1, 1) := by decide +kernel
theorem dX9_says_2 : decode cX9_says 2 = .ok (.invokevirtual 111, 3) := by decide +kernel
theorem dX9_says_5 : decode cX9_says 5 = .ok (.ifCond .eq 13, 3) := by decide +kernel
theorem dX9_says_8 : decode cX9_says 8 = .ok (.iload_n 2, 1) := by decide +kernel
theorem dX9_says_9 : decode cX9_says 9 = .ok (.ifCond .lt 9, 3) := by decide +kernel
theorem dX9_says_12 : decode cX9_says 12 = .ok (.iload_n 2, 1) := by decide +kernel
theorem dX9_says_13 : decode cX9_says 13 = .ok (.bipush 6, 2) := by decide +kernel
theorem dX9_says_15 : decode cX9_says 15 = .ok (.if_icmp .le 9, 3) := by decide +kernel
