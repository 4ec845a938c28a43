theorem dX4_init_0 : decode cX4_init 0 = .ok (.aload_n 0, 1) := by decide +kernel
theorem dX4_init_1 : decode cX4_init 1 = .ok (.invokespecial 3, 3) := by decide +kernel
theorem dX4_init_4 : decode cX4_init 4 = .ok (.aload_n 0, 1) := by decide +kernel
theorem dX4_init_5 : decode cX4_init 5 = .ok (.new 9, 3) := by decide +kernel
theorem dX4_init_8 : decode cX4_init 8 = .ok (.dup, 1) := by decide +kernel
theorem dX4_init_9 : decode cX4_init 9 = .ok (.invokespecial 11, 3) := by decide +kernel
theorem dX4_init_12 : decode cX4_init 12 = .ok (.putfield 12, 3) := by decide +kernel
theorem dX4_init_15 : decode cX4_init 15 = .ok (.aload_n 0, 1) := by decide +kernel
theorem dX4_init_16 : decode cX4_init 16 = .ok (.new 9, 3) := by decide +kernel
theorem dX4_init_19 : decode cX4_init 19 = .ok (.dup, 1) := by decide +kernel
theorem dX4_init_20 : decode cX4_init 20 = .ok (.invokespecial 11, 3) := by decide +kernel
theorem dX4_init_23 : decode cX4_init 23 = .ok (.putfield 16, 3) := by decide +kernel
theorem dX4_init_26 : decode cX4_init 26 = .ok (.aload_n 0, 1) := by decide +kernel
theorem dX4_init_27 : decode cX4_init 27 = .ok (.new 9, 3) := by decide +kernel
theorem dX4_init_30 : decode cX4_init 30 = .ok (.dup, 1) := by decide +kernel
theorem dX4_init_31 : decode cX4_init 31 = .ok (.invokespecial 11, 3) := by decide +kernel
theorem dX4_init_34 : decode cX4_init 34 = .ok (.putfield 19, 3) := by decide +kernel
theorem dX4_init_37 : decode cX4_init 37 = .ok (.aload_n 0, 1) := by decide +kernel
theorem dX4_init_38 : decode cX4_init 38 = .ok (.new 22, 3) := by decide +kernel
theorem dX4_init_41 : decode cX4_init 41 = .ok (.dup, 1) := by decide +kernel
theorem dX4_init_42 : decode cX4_init 42 = .ok (.invokespecial 24, 3) := by decide +kernel
theorem dX4_init_45 : decode cX4_init 45 = .ok (.putfield 25, 3) := by decide +kernel
theorem dX4_init_48 : decode cX4_init 48 = .ok (.aload_n 0, 1) := by decide +kernel
theorem dX4_init_49 : decode cX4_init 49 = .ok (.new 29, 3) := by decide +kernel
theorem dX4_init_52 : decode cX4_init 52 = .ok (.dup, 1) := by decide +kernel
theorem dX4_init_53 : decode cX4_init 53 = .ok (.invokespecial 31, 3) := by decide +kernel
theorem dX4_init_56 : decode cX4_init 56 = .ok (.putfield 32, 3) := by decide +kernel
theorem dX4_init_59 : decode cX4_init 59 = .ok (.aload_n 0, 1) := by decide +kernel
theorem dX4_init_60 : decode cX4_init 60 = .ok (.bipush 8, 2) := by decide +kernel
theorem dX4_init_62 : decode cX4_init 62 = .ok (.anewarray 36, 3) := by decide +kernel
theorem dX4_init_65 : decode cX4_init 65 = .ok (.putfield 38, 3) := by decide +kernel
theorem dX4_init_68 : decode cX4_init 68 = .ok (.aload_n 0, 1) := by decide +kernel
theorem dX4_init_69 : decode cX4_init 69 = .ok (.iconst 4, 1) := by decide +kernel
theorem dX4_init_70 : decode cX4_init 70 = .ok (.newarray .int, 2) := by decide +kernel
theorem dX4_init_72 : decode cX4_init 72 = .ok (.putfield 42, 3) := by decide +kernel
theorem dX4_init_75 : decode cX4_init 75 = .ok (.aload_n 0, 1) := by decide +kernel
theorem dX4_init_76 : decode cX4_init 76 = .ok (.iconst 5, 1) := by decide +kernel
theorem dX4_init_77 : decode cX4_init 77 = .ok (.newarray .int, 2) := by decide +kernel
theorem dX4_init_79 : decode cX4_init 79 = .ok (.putfield 46, 3) := by decide +kernel
theorem dX4_init_82 : decode cX4_init 82 = .ok (.iconst 0, 1) := by decide +kernel
theorem dX4_init_83 : decode cX4_init 83 = .ok (.istore_n 1, 1) := by decide +kernel
theorem dX4_init_84 : decode cX4_init 84 = .ok (.iload_n 1, 1) := by decide +kernel
theorem dX4_init_85 : decode cX4_init 85 = .ok (.bipush 8, 2) := by decide +kernel
theorem dX4_init_87 : decode cX4_init 87 = .ok (.if_icmp .ge 22, 3) := by decide +kernel
theorem dX4_init_90 : decode cX4_init 90 = .ok (.aload_n 0, 1) := by decide +kernel
theorem dX4_init_91 : decode cX4_init 91 = .ok (.getfield 38, 3) := by decide +kernel
theorem dX4_init_94 : decode cX4_init 94 = .ok (.iload_n 1, 1) := by decide +kernel
theorem dX4_init_95 : decode cX4_init 95 = .ok (.new 36, 3) := by decide +kernel
theorem dX4_init_98 : decode cX4_init 98 = .ok (.dup, 1) := by decide +kernel
theorem dX4_init_99 : decode cX4_init 99 = .ok (.invokespecial 49, 3) := by decide +kernel
theorem dX4_init_102 : decode cX4_init 102 = .ok (.aastore, 1) := by decide +kernel
theorem dX4_init_103 : decode cX4_init 103 = .ok (.iinc 1 1, 3) := by decide +kernel
theorem dX4_init_106 : decode cX4_init 106 = .ok (.goto (-22), 3) := by decide +kernel
theorem dX4_init_109 : decode cX4_init 109 = .ok (.return_, 1) := by decide +kernel
theorem dX4_row_0 : decode cX4_row 0 = .ok (.iload_n 1, 1) := by decide +kernel
theorem dX4_row_1 : decode cX4_row 1 = .ok (.invokestatic 50, 3) := by decide +kernel
theorem dX4_row_4 : decode cX4_row 4 = .ok (.ifCond .eq 20, 3) := by decide +kernel
theorem dX4_row_7 : decode cX4_row 7 = .ok (.iload_n 2, 1) := by decide +kernel
theorem dX4_row_8 : decode cX4_row 8 = .ok (.iconst 4, 1) := by decide +kernel
theorem dX4_row_9 : decode cX4_row 9 = .ok (.invokestatic 54, 3) := by decide +kernel
theorem dX4_row_12 : decode cX4_row 12 = .ok (.ifCond .eq 12, 3) := by decide +kernel
theorem dX4_row_15 : decode cX4_row 15 = .ok (.iload_n 3, 1) := by decide +kernel
theorem dX4_row_16 : decode cX4_row 16 = .ok (.bipush 40, 2) := by decide +kernel
theorem dX4_row_18 : decode cX4_row 18 = .ok (.invokestatic 54, 3) := by decide +kernel
theorem dX4_row_21 : decode cX4_row 21 = .ok (.ifCond .ne 10, 3) := by decide +kernel
theorem dX4_row_24 : decode cX4_row 24 = .ok (.aload_n 0, 1) := by decide +kernel
theorem dX4_row_25 : decode cX4_row 25 = .ok (.bipush (-2), 2) := by decide +kernel
theorem dX4_row_27 : decode cX4_row 27 = .ok (.invokevirtual 58, 3) := by decide +kernel
theorem dX4_row_30 : decode cX4_row 30 = .ok (.ireturn, 1) := by decide +kernel
theorem dX4_row_31 : decode cX4_row 31 = .ok (.aload_n 0, 1) := by decide +kernel
theorem dX4_row_32 : decode cX4_row 32 = .ok (.getfield 38, 3) := by decide +kernel
theorem dX4_row_35 : decode cX4_row 35 = .ok (.iload_n 1, 1) := by decide +kernel
theorem dX4_row_36 : decode cX4_row 36 = .ok (.aaload, 1) := by decide +kernel
theorem dX4_row_37 : decode cX4_row 37 = .ok (.iload_n 2, 1) := by decide +kernel
theorem dX4_row_38 : decode cX4_row 38 = .ok (.iload_n 3, 1) := by decide +kernel
theorem dX4_row_39 : decode cX4_row 39 = .ok (.invokevirtual 62, 3) := by decide +kernel
theorem dX4_row_42 : decode cX4_row 42 = .ok (.iconst 1, 1) := by decide +kernel
theorem dX4_row_43 : decode cX4_row 43 = .ok (.ireturn, 1) := by decide +kernel
theorem dX4_set_0 : decode cX4_set 0 = .ok (.aload_n 0, 1) := by decide +kernel
theorem dX4_set_1 : decode cX4_set 1 = .ok (.iload_n 1, 1) := by decide +kernel
theorem dX4_set_2 : decode cX4_set 2 = .ok (.iload_n 1, 1) := by decide +kernel
theorem dX4_set_3 : decode cX4_set 3 = .ok (.invokevirtual 66, 3) := by decide +kernel
theorem dX4_set_6 : decode cX4_set 6 = .ok (.istore 5, 2) := by decide +kernel
theorem dX4_set_8 : decode cX4_set 8 = .ok (.iload 5, 2) := by decide +kernel
theorem dX4_set_10 : decode cX4_set 10 = .ok (.ifCond .eq 10, 3) := by decide +kernel
theorem dX4_set_13 : decode cX4_set 13 = .ok (.aload_n 0, 1) := by decide +kernel
theorem dX4_set_14 : decode cX4_set 14 = .ok (.iload 5, 2) := by decide +kernel
theorem dX4_set_16 : decode cX4_set 16 = .ok (.invokevirtual 58, 3) := by decide +kernel
theorem dX4_set_19 : decode cX4_set 19 = .ok (.ireturn, 1) := by decide +kernel
theorem dX4_set_20 : decode cX4_set 20 = .ok (.aload_n 0, 1) := by decide +kernel
theorem dX4_set_21 : decode cX4_set 21 = .ok (.getfield 38, 3) := by decide +kernel
theorem dX4_set_24 : decode cX4_set 24 = .ok (.iload_n 1, 1) := by decide +kernel
theorem dX4_set_25 : decode cX4_set 25 = .ok (.aaload, 1) := by decide +kernel
theorem dX4_set_26 : decode cX4_set 26 = .ok (.iload_n 2, 1) := by decide +kernel
theorem dX4_set_27 : decode cX4_set 27 = .ok (.invokevirtual 70, 3) := by decide +kernel
theorem dX4_set_30 : decode cX4_set 30 = .ok (.ifCond .ne 10, 3) := by decide +kernel
theorem dX4_set_33 : decode cX4_set 33 = .ok (.aload_n 0, 1) := by decide +kernel
theorem dX4_set_34 : decode cX4_set 34 = .ok (.bipush (-2), 2) := by decide +kernel
theorem dX4_set_36 : decode cX4_set 36 = .ok (.invokevirtual 58, 3) := by decide +kernel
theorem dX4_set_39 : decode cX4_set 39 = .ok (.ireturn, 1) := by decide +kernel
theorem dX4_set_40 : decode cX4_set 40 = .ok (.aload_n 0, 1) := by decide +kernel
theorem dX4_set_41 : decode cX4_set 41 = .ok (.getfield 38, 3) := by decide +kernel
theorem dX4_set_44 : decode cX4_set 44 = .ok (.iload_n 1, 1) := by decide +kernel
theorem dX4_set_45 : decode cX4_set 45 = .ok (.aaload, 1) := by decide +kernel
theorem dX4_set_46 : decode cX4_set 46 = .ok (.iload_n 2, 1) := by decide +kernel
theorem dX4_set_47 : decode cX4_set 47 = .ok (.lload_n 3, 1) := by decide +kernel
theorem dX4_set_48 : decode cX4_set 48 = .ok (.invokevirtual 73, 3) := by decide +kernel
theorem dX4_set_51 : decode cX4_set 51 = .ok (.iconst 1, 1) := by decide +kernel
theorem dX4_set_52 : decode cX4_set 52 = .ok (.ireturn, 1) := by decide +kernel
theorem dX4_copy_0 : decode cX4_copy 0 = .ok (.aload_n 0, 1) := by decide +kernel
theorem dX4_copy_1 : decode cX4_copy 1 = .ok (.iload_n 1, 1) := by decide +kernel
theorem dX4_copy_2 : decode cX4_copy 2 = .ok (.iload_n 2, 1) := by decide +kernel
theorem dX4_copy_3 : decode cX4_copy 3 = .ok (.invokevirtual 66, 3) := by decide +kernel
theorem dX4_copy_6 : decode cX4_copy 6 = .ok (.istore 6, 2) := by decide +kernel
theorem dX4_copy_8 : decode cX4_copy 8 = .ok (.iload 6, 2) := by decide +kernel
theorem dX4_copy_10 : decode cX4_copy 10 = .ok (.ifCond .ne 28, 3) := by decide +kernel
theorem dX4_copy_13 : decode cX4_copy 13 = .ok (.aload_n 0, 1) := by decide +kernel
theorem dX4_copy_14 : decode cX4_copy 14 = .ok (.getfield 38, 3) := by decide +kernel
theorem dX4_copy_17 : decode cX4_copy 17 = .ok (.iload_n 1, 1) := by decide +kernel
theorem dX4_copy_18 : decode cX4_copy 18 = .ok (.aaload, 1) := by decide +kernel
theorem dX4_copy_19 : decode cX4_copy 19 = .ok (.getfield 77, 3) := by decide +kernel
theorem dX4_copy_22 : decode cX4_copy 22 = .ok (.aload_n 0, 1) := by decide +kernel
theorem dX4_copy_23 : decode cX4_copy 23 = .ok (.getfield 38, 3) := by decide +kernel
theorem dX4_copy_26 : decode cX4_copy 26 = .ok (.iload_n 2, 1) := by decide +kernel
theorem dX4_copy_27 : decode cX4_copy 27 = .ok (.aaload, 1) := by decide +kernel
theorem dX4_copy_28 : decode cX4_copy 28 = .ok (.getfield 77, 3) := by decide +kernel
theorem dX4_copy_31 : decode cX4_copy 31 = .ok (.if_icmp .eq 7, 3) := by decide +kernel
theorem dX4_copy_34 : decode cX4_copy 34 = .ok (.bipush (-3), 2) := by decide +kernel
theorem dX4_copy_36 : decode cX4_copy 36 = .ok (.istore 6, 2) := by decide +kernel
theorem dX4_copy_38 : decode cX4_copy 38 = .ok (.iload 6, 2) := by decide +kernel
theorem dX4_copy_40 : decode cX4_copy 40 = .ok (.ifCond .eq 10, 3) := by decide +kernel
theorem dX4_copy_43 : decode cX4_copy 43 = .ok (.aload_n 0, 1) := by decide +kernel
theorem dX4_copy_44 : decode cX4_copy 44 = .ok (.iload 6, 2) := by decide +kernel
theorem dX4_copy_46 : decode cX4_copy 46 = .ok (.invokevirtual 58, 3) := by decide +kernel
theorem dX4_copy_49 : decode cX4_copy 49 = .ok (.ireturn, 1) := by decide +kernel
theorem dX4_copy_50 : decode cX4_copy 50 = .ok (.aload_n 0, 1) := by decide +kernel
theorem dX4_copy_51 : decode cX4_copy 51 = .ok (.getfield 38, 3) := by decide +kernel
theorem dX4_copy_54 : decode cX4_copy 54 = .ok (.iload_n 1, 1) := by decide +kernel
theorem dX4_copy_55 : decode cX4_copy 55 = .ok (.aaload, 1) := by decide +kernel
theorem dX4_copy_56 : decode cX4_copy 56 = .ok (.iload_n 3, 1) := by decide +kernel
theorem dX4_copy_57 : decode cX4_copy 57 = .ok (.iload 5, 2) := by decide +kernel
theorem dX4_copy_59 : decode cX4_copy 59 = .ok (.invokevirtual 81, 3) := by decide +kernel
theorem dX4_copy_62 : decode cX4_copy 62 = .ok (.ifCond .eq 19, 3) := by decide +kernel
theorem dX4_copy_65 : decode cX4_copy 65 = .ok (.aload_n 0, 1) := by decide +kernel
theorem dX4_copy_66 : decode cX4_copy 66 = .ok (.getfield 38, 3) := by decide +kernel
theorem dX4_copy_69 : decode cX4_copy 69 = .ok (.iload_n 2, 1) := by decide +kernel
theorem dX4_copy_70 : decode cX4_copy 70 = .ok (.aaload, 1) := by decide +kernel
theorem dX4_copy_71 : decode cX4_copy 71 = .ok (.iload 4, 2) := by decide +kernel
theorem dX4_copy_73 : decode cX4_copy 73 = .ok (.iload 5, 2) := by decide +kernel
theorem dX4_copy_75 : decode cX4_copy 75 = .ok (.invokevirtual 81, 3) := by decide +kernel
theorem dX4_copy_78 : decode cX4_copy 78 = .ok (.ifCond .ne 10, 3) := by decide +kernel
theorem dX4_copy_81 : decode cX4_copy 81 = .ok (.aload_n 0, 1) := by decide +kernel
theorem dX4_copy_82 : decode cX4_copy 82 = .ok (.bipush (-2), 2) := by decide +kernel
theorem dX4_copy_84 : decode cX4_copy 84 = .ok (.invokevirtual 58, 3) := by decide +kernel
theorem dX4_copy_87 : decode cX4_copy 87 = .ok (.ireturn, 1) := by decide +kernel
theorem dX4_copy_88 : decode cX4_copy 88 = .ok (.aload_n 0, 1) := by decide +kernel
theorem dX4_copy_89 : decode cX4_copy 89 = .ok (.getfield 38, 3) := by decide +kernel
theorem dX4_copy_92 : decode cX4_copy 92 = .ok (.iload_n 1, 1) := by decide +kernel
theorem dX4_copy_93 : decode cX4_copy 93 = .ok (.aaload, 1) := by decide +kernel
theorem dX4_copy_94 : decode cX4_copy 94 = .ok (.getfield 84, 3) := by decide +kernel
theorem dX4_copy_97 : decode cX4_copy 97 = .ok (.iload_n 3, 1) := by decide +kernel
theorem dX4_copy_98 : decode cX4_copy 98 = .ok (.aload_n 0, 1) := by decide +kernel
theorem dX4_copy_99 : decode cX4_copy 99 = .ok (.getfield 38, 3) := by decide +kernel
theorem dX4_copy_102 : decode cX4_copy 102 = .ok (.iload_n 2, 1) := by decide +kernel
theorem dX4_copy_103 : decode cX4_copy 103 = .ok (.aaload, 1) := by decide +kernel
theorem dX4_copy_104 : decode cX4_copy 104 = .ok (.getfield 84, 3) := by decide +kernel
theorem dX4_copy_107 : decode cX4_copy 107 = .ok (.iload 4, 2) := by decide +kernel
theorem dX4_copy_109 : decode cX4_copy 109 = .ok (.iload 5, 2) := by decide +kernel
theorem dX4_copy_111 : decode cX4_copy 111 = .ok (.invokestatic 88, 3) := by decide +kernel
theorem dX4_copy_114 : decode cX4_copy 114 = .ok (.iload 5, 2) := by decide +kernel
theorem dX4_copy_116 : decode cX4_copy 116 = .ok (.ireturn, 1) := by decide +kernel
theorem dX4_element_0 : decode cX4_element 0 = .ok (.iload_n 1, 1) := by decide +kernel
theorem dX4_element_1 : decode cX4_element 1 = .ok (.invokestatic 50, 3) := by decide +kernel
theorem dX4_element_4 : decode cX4_element 4 = .ok (.ifCond .eq 28, 3) := by decide +kernel
theorem dX4_element_7 : decode cX4_element 7 = .ok (.aload_n 0, 1) := by decide +kernel
theorem dX4_element_8 : decode cX4_element 8 = .ok (.getfield 38, 3) := by decide +kernel
theorem dX4_element_11 : decode cX4_element 11 = .ok (.iload_n 1, 1) := by decide +kernel
theorem dX4_element_12 : decode cX4_element 12 = .ok (.aaload, 1) := by decide +kernel
theorem dX4_element_13 : decode cX4_element 13 = .ok (.invokevirtual 94, 3) := by decide +kernel
theorem dX4_element_16 : decode cX4_element 16 = .ok (.ifCond .eq 16, 3) := by decide +kernel
theorem dX4_element_19 : decode cX4_element 19 = .ok (.aload_n 0, 1) := by decide +kernel
theorem dX4_element_20 : decode cX4_element 20 = .ok (.getfield 38, 3) := by decide +kernel
theorem dX4_element_23 : decode cX4_element 23 = .ok (.iload_n 1, 1) := by decide +kernel
theorem dX4_element_24 : decode cX4_element 24 = .ok (.aaload, 1) := by decide +kernel
theorem dX4_element_25 : decode cX4_element 25 = .ok (.iload_n 2, 1) := by decide +kernel
theorem dX4_element_26 : decode cX4_element 26 = .ok (.invokevirtual 70, 3) := by decide +kernel
theorem dX4_element_29 : decode cX4_element 29 = .ok (.ifCond .ne 5, 3) := by decide +kernel
theorem dX4_element_32 : decode cX4_element 32 = .ok (.lconst 0, 1) := by decide +kernel
theorem dX4_element_33 : decode cX4_element 33 = .ok (.lreturn, 1) := by decide +kernel
theorem dX4_element_34 : decode cX4_element 34 = .ok (.aload_n 0, 1) := by decide +kernel
theorem dX4_element_35 : decode cX4_element 35 = .ok (.getfield 38, 3) := by decide +kernel
theorem dX4_element_38 : decode cX4_element 38 = .ok (.iload_n 1, 1) := by decide +kernel
theorem dX4_element_39 : decode cX4_element 39 = .ok (.aaload, 1) := by decide +kernel
theorem dX4_element_40 : decode cX4_element 40 = .ok (.getfield 84, 3) := by decide +kernel
theorem dX4_element_43 : decode cX4_element 43 = .ok (.iload_n 2, 1) := by decide +kernel
theorem dX4_element_44 : decode cX4_element 44 = .ok (.laload, 1) := by decide +kernel
theorem dX4_element_45 : decode cX4_element 45 = .ok (.lreturn, 1) := by decide +kernel
theorem dX4_holds_0 : decode cX4_holds 0 = .ok (.iload_n 1, 1) := by decide +kernel
theorem dX4_holds_1 : decode cX4_holds 1 = .ok (.invokestatic 50, 3) := by decide +kernel
theorem dX4_holds_4 : decode cX4_holds 4 = .ok (.ifCond .eq 15, 3) := by decide +kernel
theorem dX4_holds_7 : decode cX4_holds 7 = .ok (.aload_n 0, 1) := by decide +kernel
theorem dX4_holds_8 : decode cX4_holds 8 = .ok (.getfield 38, 3) := by decide +kernel
theorem dX4_holds_11 : decode cX4_holds 11 = .ok (.iload_n 1, 1) := by decide +kernel
theorem dX4_holds_12 : decode cX4_holds 12 = .ok (.aaload, 1) := by decide +kernel
theorem dX4_holds_13 : decode cX4_holds 13 = .ok (.getfield 77, 3) := by decide +kernel
theorem dX4_holds_16 : decode cX4_holds 16 = .ok (.goto 4, 3) := by decide +kernel
theorem dX4_holds_19 : decode cX4_holds 19 = .ok (.iconst (-1), 1) := by decide +kernel
theorem dX4_holds_20 : decode cX4_holds 20 = .ok (.ireturn, 1) := by decide +kernel
theorem dX4_drawing_0 : decode cX4_drawing 0 = .ok (.iload_n 1, 1) := by decide +kernel
theorem dX4_drawing_1 : decode cX4_drawing 1 = .ok (.invokestatic 50, 3) := by decide +kernel
theorem dX4_drawing_4 : decode cX4_drawing 4 = .ok (.ifCond .eq 26, 3) := by decide +kernel
theorem dX4_drawing_7 : decode cX4_drawing 7 = .ok (.iload_n 2, 1) := by decide +kernel
theorem dX4_drawing_8 : decode cX4_drawing 8 = .ok (.bipush 6, 2) := by decide +kernel
theorem dX4_drawing_10 : decode cX4_drawing 10 = .ok (.invokestatic 54, 3) := by decide +kernel
theorem dX4_drawing_13 : decode cX4_drawing 13 = .ok (.ifCond .eq 17, 3) := by decide +kernel
theorem dX4_drawing_16 : decode cX4_drawing 16 = .ok (.iload_n 2, 1) := by decide +kernel
theorem dX4_drawing_17 : decode cX4_drawing 17 = .ok (.iconst 1, 1) := by decide +kernel
theorem dX4_drawing_18 : decode cX4_drawing 18 = .ok (.if_icmp .lt 12, 3) := by decide +kernel
theorem dX4_drawing_21 : decode cX4_drawing 21 = .ok (.iload_n 3, 1) := by decide +kernel
theorem dX4_drawing_22 : decode cX4_drawing 22 = .ok (.bipush 9, 2) := by decide +kernel
theorem dX4_drawing_24 : decode cX4_drawing 24 = .ok (.invokestatic 54, 3) := by decide +kernel
theorem dX4_drawing_27 : decode cX4_drawing 27 = .ok (.ifCond .ne 10, 3) := by decide +kernel
theorem dX4_drawing_30 : decode cX4_drawing 30 = .ok (.aload_n 0, 1) := by decide +kernel
theorem dX4_drawing_31 : decode cX4_drawing 31 = .ok (.bipush (-2), 2) := by decide +kernel
theorem dX4_drawing_33 : decode cX4_drawing 33 = .ok (.invokevirtual 58, 3) := by decide +kernel
theorem dX4_drawing_36 : decode cX4_drawing 36 = .ok (.ireturn, 1) := by decide +kernel
theorem dX4_drawing_37 : decode cX4_drawing 37 = .ok (.aload_n 0, 1) := by decide +kernel
theorem dX4_drawing_38 : decode cX4_drawing 38 = .ok (.getfield 38, 3) := by decide +kernel
theorem dX4_drawing_41 : decode cX4_drawing 41 = .ok (.iload_n 1, 1) := by decide +kernel
theorem dX4_drawing_42 : decode cX4_drawing 42 = .ok (.aaload, 1) := by decide +kernel
theorem dX4_drawing_43 : decode cX4_drawing 43 = .ok (.iload_n 2, 1) := by decide +kernel
theorem dX4_drawing_44 : decode cX4_drawing 44 = .ok (.iload_n 3, 1) := by decide +kernel
theorem dX4_drawing_45 : decode cX4_drawing 45 = .ok (.invokevirtual 98, 3) := by decide +kernel
theorem dX4_drawing_48 : decode cX4_drawing 48 = .ok (.iconst 1, 1) := by decide +kernel
theorem dX4_drawing_49 : decode cX4_drawing 49 = .ok (.ireturn, 1) := by decide +kernel
theorem dX4_says_0 : decode cX4_says 0 = .ok (.iload_n 1, 1) := by decide +kernel
theorem dX4_says_1 : decode cX4_says 1 = .ok (.invokestatic 50, 3) := by decide +kernel
theorem dX4_says_4 : decode cX4_says 4 = .ok (.ifCond .eq 12, 3) := by decide +kernel
theorem dX4_says_7 : decode cX4_says 7 = .ok (.iload_n 2, 1) := by decide +kernel
theorem dX4_says_8 : decode cX4_says 8 = .ok (.bipush 6, 2) := by decide +kernel
theorem dX4_says_10 : decode cX4_says 10 = .ok (.invokestatic 54, 3) := by decide +kernel
theorem dX4_says_13 : decode cX4_says 13 = .ok (.ifCond .ne 10, 3) := by decide +kernel
theorem dX4_says_16 : decode cX4_says 16 = .ok (.aload_n 0, 1) := by decide +kernel
theorem dX4_says_17 : decode cX4_says 17 = .ok (.bipush (-2), 2) := by decide +kernel
theorem dX4_says_19 : decode cX4_says 19 = .ok (.invokevirtual 58, 3) := by decide +kernel
theorem dX4_says_22 : decode cX4_says 22 = .ok (.ireturn, 1) := by decide +kernel
theorem dX4_says_23 : decode cX4_says 23 = .ok (.aload_n 0, 1) := by decide +kernel
theorem dX4_says_24 : decode cX4_says 24 = .ok (.getfield 38, 3) := by decide +kernel
theorem dX4_says_27 : decode cX4_says 27 = .ok (.iload_n 1, 1) := by decide +kernel
theorem dX4_says_28 : decode cX4_says 28 = .ok (.aaload, 1) := by decide +kernel
theorem dX4_says_29 : decode cX4_says 29 = .ok (.astore_n 3, 1) := by decide +kernel
theorem dX4_says_30 : decode cX4_says 30 = .ok (.aload_n 3, 1) := by decide +kernel
theorem dX4_says_31 : decode cX4_says 31 = .ok (.invokevirtual 101, 3) := by decide +kernel
theorem dX4_says_34 : decode cX4_says 34 = .ok (.ifCond .eq 10, 3) := by decide +kernel
theorem dX4_says_37 : decode cX4_says 37 = .ok (.aload_n 0, 1) := by decide +kernel
theorem dX4_says_38 : decode cX4_says 38 = .ok (.bipush (-4), 2) := by decide +kernel
theorem dX4_says_40 : decode cX4_says 40 = .ok (.invokevirtual 58, 3) := by decide +kernel
theorem dX4_says_43 : decode cX4_says 43 = .ok (.ireturn, 1) := by decide +kernel
theorem dX4_says_44 : decode cX4_says 44 = .ok (.aload_n 3, 1) := by decide +kernel
theorem dX4_says_45 : decode cX4_says 45 = .ok (.invokevirtual 104, 3) := by decide +kernel
theorem dX4_says_48 : decode cX4_says 48 = .ok (.ifCond .eq 14, 3) := by decide +kernel
theorem dX4_says_51 : decode cX4_says 51 = .ok (.aload_n 3, 1) := by decide +kernel
theorem dX4_says_52 : decode cX4_says 52 = .ok (.invokevirtual 107, 3) := by decide +kernel
theorem dX4_says_55 : decode cX4_says 55 = .ok (.iload_n 2, 1) := by decide +kernel
theorem dX4_says_56 : decode cX4_says 56 = .ok (.invokestatic 111, 3) := by decide +kernel
theorem dX4_says_59 : decode cX4_says 59 = .ok (.ifCond .ne 10, 3) := by decide +kernel
theorem dX4_says_62 : decode cX4_says 62 = .ok (.aload_n 0, 1) := by decide +kernel
theorem dX4_says_63 : decode cX4_says 63 = .ok (.bipush (-3), 2) := by decide +kernel
theorem dX4_says_65 : decode cX4_says 65 = .ok (.invokevirtual 58, 3) := by decide +kernel
theorem dX4_says_68 : decode cX4_says 68 = .ok (.ireturn, 1) := by decide +kernel
theorem dX4_says_69 : decode cX4_says 69 = .ok (.iload_n 2, 1) := by decide +kernel
theorem dX4_says_70 : decode cX4_says 70 = .ok (.ifCond .ne 10, 3) := by decide +kernel
theorem dX4_says_73 : decode cX4_says 73 = .ok (.aload_n 3, 1) := by decide +kernel
theorem dX4_says_74 : decode cX4_says 74 = .ok (.getfield 114, 3) := by decide +kernel
theorem dX4_says_77 : decode cX4_says 77 = .ok (.goto 15, 3) := by decide +kernel
theorem dX4_says_80 : decode cX4_says 80 = .ok (.aload_n 0, 1) := by decide +kernel
theorem dX4_says_81 : decode cX4_says 81 = .ok (.aload_n 3, 1) := by decide +kernel
theorem dX4_says_82 : decode cX4_says 82 = .ok (.invokevirtual 107, 3) := by decide +kernel
theorem dX4_says_85 : decode cX4_says 85 = .ok (.aload_n 3, 1) := by decide +kernel
theorem dX4_says_86 : decode cX4_says 86 = .ok (.getfield 114, 3) := by decide +kernel
theorem dX4_says_89 : decode cX4_says 89 = .ok (.invokevirtual 117, 3) := by decide +kernel
theorem dX4_says_92 : decode cX4_says 92 = .ok (.ireturn, 1) := by decide +kernel
theorem dX4_head_0 : decode cX4_head 0 = .ok (.iconst (-1), 1) := by decide +kernel
theorem dX4_head_1 : decode cX4_head 1 = .ok (.istore_n 1, 1) := by decide +kernel
theorem dX4_head_2 : decode cX4_head 2 = .ok (.iconst 0, 1) := by decide +kernel
theorem dX4_head_3 : decode cX4_head 3 = .ok (.istore_n 2, 1) := by decide +kernel
theorem dX4_head_4 : decode cX4_head 4 = .ok (.iconst 0, 1) := by decide +kernel
theorem dX4_head_5 : decode cX4_head 5 = .ok (.istore_n 3, 1) := by decide +kernel
theorem dX4_head_6 : decode cX4_head 6 = .ok (.iload_n 3, 1) := by decide +kernel
theorem dX4_head_7 : decode cX4_head 7 = .ok (.bipush 8, 2) := by decide +kernel
theorem dX4_head_9 : decode cX4_head 9 = .ok (.if_icmp .ge 61, 3) := by decide +kernel
theorem dX4_head_12 : decode cX4_head 12 = .ok (.aload_n 0, 1) := by decide +kernel
theorem dX4_head_13 : decode cX4_head 13 = .ok (.getfield 38, 3) := by decide +kernel
theorem dX4_head_16 : decode cX4_head 16 = .ok (.iload_n 3, 1) := by decide +kernel
theorem dX4_head_17 : decode cX4_head 17 = .ok (.aaload, 1) := by decide +kernel
theorem dX4_head_18 : decode cX4_head 18 = .ok (.invokevirtual 104, 3) := by decide +kernel
theorem dX4_head_21 : decode cX4_head 21 = .ok (.ifCond .eq 43, 3) := by decide +kernel
theorem dX4_head_24 : decode cX4_head 24 = .ok (.aload_n 0, 1) := by decide +kernel
theorem dX4_head_25 : decode cX4_head 25 = .ok (.aload_n 0, 1) := by decide +kernel
theorem dX4_head_26 : decode cX4_head 26 = .ok (.getfield 38, 3) := by decide +kernel
theorem dX4_head_29 : decode cX4_head 29 = .ok (.iload_n 3, 1) := by decide +kernel
theorem dX4_head_30 : decode cX4_head 30 = .ok (.aaload, 1) := by decide +kernel
theorem dX4_head_31 : decode cX4_head 31 = .ok (.invokevirtual 107, 3) := by decide +kernel
theorem dX4_head_34 : decode cX4_head 34 = .ok (.aload_n 0, 1) := by decide +kernel
theorem dX4_head_35 : decode cX4_head 35 = .ok (.getfield 38, 3) := by decide +kernel
theorem dX4_head_38 : decode cX4_head 38 = .ok (.iload_n 3, 1) := by decide +kernel
theorem dX4_head_39 : decode cX4_head 39 = .ok (.aaload, 1) := by decide +kernel
theorem dX4_head_40 : decode cX4_head 40 = .ok (.getfield 114, 3) := by decide +kernel
theorem dX4_head_43 : decode cX4_head 43 = .ok (.invokevirtual 117, 3) := by decide +kernel
theorem dX4_head_46 : decode cX4_head 46 = .ok (.istore 4, 2) := by decide +kernel
theorem dX4_head_48 : decode cX4_head 48 = .ok (.iload_n 1, 1) := by decide +kernel
theorem dX4_head_49 : decode cX4_head 49 = .ok (.iconst (-1), 1) := by decide +kernel
theorem dX4_head_50 : decode cX4_head 50 = .ok (.if_icmp .eq 9, 3) := by decide +kernel
theorem dX4_head_53 : decode cX4_head 53 = .ok (.iload 4, 2) := by decide +kernel
theorem dX4_head_55 : decode cX4_head 55 = .ok (.iload_n 2, 1) := by decide +kernel
theorem dX4_head_56 : decode cX4_head 56 = .ok (.if_icmp .le 8, 3) := by decide +kernel
theorem dX4_head_59 : decode cX4_head 59 = .ok (.iload_n 3, 1) := by decide +kernel
theorem dX4_head_60 : decode cX4_head 60 = .ok (.istore_n 1, 1) := by decide +kernel
theorem dX4_head_61 : decode cX4_head 61 = .ok (.iload 4, 2) := by decide +kernel
theorem dX4_head_63 : decode cX4_head 63 = .ok (.istore_n 2, 1) := by decide +kernel
theorem dX4_head_64 : decode cX4_head 64 = .ok (.iinc 3 1, 3) := by decide +kernel
theorem dX4_head_67 : decode cX4_head 67 = .ok (.goto (-61), 3) := by decide +kernel
theorem dX4_head_70 : decode cX4_head 70 = .ok (.iload_n 1, 1) := by decide +kernel
theorem dX4_head_71 : decode cX4_head 71 = .ok (.iconst (-1), 1) := by decide +kernel
theorem dX4_head_72 : decode cX4_head 72 = .ok (.if_icmp .ne 12, 3) := by decide +kernel
theorem dX4_head_75 : decode cX4_head 75 = .ok (.aload_n 0, 1) := by decide +kernel
theorem dX4_head_76 : decode cX4_head 76 = .ok (.bipush (-5), 2) := by decide +kernel
theorem dX4_head_78 : decode cX4_head 78 = .ok (.invokevirtual 58, 3) := by decide +kernel
theorem dX4_head_81 : decode cX4_head 81 = .ok (.goto 4, 3) := by decide +kernel
theorem dX4_head_84 : decode cX4_head 84 = .ok (.iload_n 1, 1) := by decide +kernel
theorem dX4_head_85 : decode cX4_head 85 = .ok (.ireturn, 1) := by decide +kernel
theorem dX4_heap_0 : decode cX4_heap 0 = .ok (.iload_n 1, 1) := by decide +kernel
theorem dX4_heap_1 : decode cX4_heap 1 = .ok (.bipush 9, 2) := by decide +kernel
theorem dX4_heap_3 : decode cX4_heap 3 = .ok (.invokestatic 54, 3) := by decide +kernel
theorem dX4_heap_6 : decode cX4_heap 6 = .ok (.ifCond .eq 18, 3) := by decide +kernel
theorem dX4_heap_9 : decode cX4_heap 9 = .ok (.iload_n 2, 1) := by decide +kernel
theorem dX4_heap_10 : decode cX4_heap 10 = .ok (.bipush 9, 2) := by decide +kernel
theorem dX4_heap_12 : decode cX4_heap 12 = .ok (.invokestatic 54, 3) := by decide +kernel
theorem dX4_heap_15 : decode cX4_heap 15 = .ok (.ifCond .eq 9, 3) := by decide +kernel
theorem dX4_heap_18 : decode cX4_heap 18 = .ok (.iload_n 1, 1) := by decide +kernel
theorem dX4_heap_19 : decode cX4_heap 19 = .ok (.iload_n 2, 1) := by decide +kernel
theorem dX4_heap_20 : decode cX4_heap 20 = .ok (.iadd, 1) := by decide +kernel
theorem dX4_heap_21 : decode cX4_heap 21 = .ok (.ifCond .ne 10, 3) := by decide +kernel
theorem dX4_heap_24 : decode cX4_heap 24 = .ok (.aload_n 0, 1) := by decide +kernel
theorem dX4_heap_25 : decode cX4_heap 25 = .ok (.bipush (-2), 2) := by decide +kernel
theorem dX4_heap_27 : decode cX4_heap 27 = .ok (.invokevirtual 58, 3) := by decide +kernel
theorem dX4_heap_30 : decode cX4_heap 30 = .ok (.ireturn, 1) := by decide +kernel
theorem dX4_heap_31 : decode cX4_heap 31 = .ok (.aload_n 0, 1) := by decide +kernel
theorem dX4_heap_32 : decode cX4_heap 32 = .ok (.getfield 12, 3) := by decide +kernel
theorem dX4_heap_35 : decode cX4_heap 35 = .ok (.getfield 120, 3) := by decide +kernel
theorem dX4_heap_38 : decode cX4_heap 38 = .ok (.ifCond .le 10, 3) := by decide +kernel
theorem dX4_heap_41 : decode cX4_heap 41 = .ok (.aload_n 0, 1) := by decide +kernel
theorem dX4_heap_42 : decode cX4_heap 42 = .ok (.bipush (-5), 2) := by decide +kernel
theorem dX4_heap_44 : decode cX4_heap 44 = .ok (.invokevirtual 58, 3) := by decide +kernel
theorem dX4_heap_47 : decode cX4_heap 47 = .ok (.ireturn, 1) := by decide +kernel
theorem dX4_heap_48 : decode cX4_heap 48 = .ok (.aload_n 0, 1) := by decide +kernel
theorem dX4_heap_49 : decode cX4_heap 49 = .ok (.getfield 12, 3) := by decide +kernel
theorem dX4_heap_52 : decode cX4_heap 52 = .ok (.getfield 123, 3) := by decide +kernel
theorem dX4_heap_55 : decode cX4_heap 55 = .ok (.iconst 4, 1) := by decide +kernel
theorem dX4_heap_56 : decode cX4_heap 56 = .ok (.if_icmp .ge 16, 3) := by decide +kernel
theorem dX4_heap_59 : decode cX4_heap 59 = .ok (.aload_n 0, 1) := by decide +kernel
theorem dX4_heap_60 : decode cX4_heap 60 = .ok (.getfield 12, 3) := by decide +kernel
theorem dX4_heap_63 : decode cX4_heap 63 = .ok (.iload_n 1, 1) := by decide +kernel
theorem dX4_heap_64 : decode cX4_heap 64 = .ok (.iload_n 2, 1) := by decide +kernel
theorem dX4_heap_65 : decode cX4_heap 65 = .ok (.iadd, 1) := by decide +kernel
theorem dX4_heap_66 : decode cX4_heap 66 = .ok (.invokevirtual 126, 3) := by decide +kernel
theorem dX4_heap_69 : decode cX4_heap 69 = .ok (.ifCond .ne 10, 3) := by decide +kernel
theorem dX4_heap_72 : decode cX4_heap 72 = .ok (.aload_n 0, 1) := by decide +kernel
theorem dX4_heap_73 : decode cX4_heap 73 = .ok (.bipush (-6), 2) := by decide +kernel
theorem dX4_heap_75 : decode cX4_heap 75 = .ok (.invokevirtual 58, 3) := by decide +kernel
theorem dX4_heap_78 : decode cX4_heap 78 = .ok (.ireturn, 1) := by decide +kernel
theorem dX4_heap_79 : decode cX4_heap 79 = .ok (.aload_n 0, 1) := by decide +kernel
theorem dX4_heap_80 : decode cX4_heap 80 = .ok (.getfield 12, 3) := by decide +kernel
theorem dX4_heap_83 : decode cX4_heap 83 = .ok (.iload_n 1, 1) := by decide +kernel
theorem dX4_heap_84 : decode cX4_heap 84 = .ok (.iload_n 2, 1) := by decide +kernel
theorem dX4_heap_85 : decode cX4_heap 85 = .ok (.invokevirtual 129, 3) := by decide +kernel
theorem dX4_heap_88 : decode cX4_heap 88 = .ok (.ireturn, 1) := by decide +kernel
theorem dX4_fact_0 : decode cX4_fact 0 = .ok (.iload_n 1, 1) := by decide +kernel
theorem dX4_fact_1 : decode cX4_fact 1 = .ok (.iconst 3, 1) := by decide +kernel
theorem dX4_fact_2 : decode cX4_fact 2 = .ok (.invokestatic 54, 3) := by decide +kernel
theorem dX4_fact_5 : decode cX4_fact 5 = .ok (.ifCond .eq 21, 3) := by decide +kernel
theorem dX4_fact_8 : decode cX4_fact 8 = .ok (.iload_n 2, 1) := by decide +kernel
theorem dX4_fact_9 : decode cX4_fact 9 = .ok (.bipush 24, 2) := by decide +kernel
theorem dX4_fact_11 : decode cX4_fact 11 = .ok (.invokestatic 54, 3) := by decide +kernel
theorem dX4_fact_14 : decode cX4_fact 14 = .ok (.ifCond .eq 12, 3) := by decide +kernel
theorem dX4_fact_17 : decode cX4_fact 17 = .ok (.iload_n 3, 1) := by decide +kernel
theorem dX4_fact_18 : decode cX4_fact 18 = .ok (.bipush 24, 2) := by decide +kernel
theorem dX4_fact_20 : decode cX4_fact 20 = .ok (.invokestatic 54, 3) := by decide +kernel
theorem dX4_fact_23 : decode cX4_fact 23 = .ok (.ifCond .ne 10, 3) := by decide +kernel
theorem dX4_fact_26 : decode cX4_fact 26 = .ok (.aload_n 0, 1) := by decide +kernel
theorem dX4_fact_27 : decode cX4_fact 27 = .ok (.bipush (-2), 2) := by decide +kernel
theorem dX4_fact_29 : decode cX4_fact 29 = .ok (.invokevirtual 58, 3) := by decide +kernel
theorem dX4_fact_32 : decode cX4_fact 32 = .ok (.ireturn, 1) := by decide +kernel
theorem dX4_fact_33 : decode cX4_fact 33 = .ok (.aload_n 0, 1) := by decide +kernel
theorem dX4_fact_34 : decode cX4_fact 34 = .ok (.getfield 12, 3) := by decide +kernel
theorem dX4_fact_37 : decode cX4_fact 37 = .ok (.getfield 132, 3) := by decide +kernel
theorem dX4_fact_40 : decode cX4_fact 40 = .ok (.iconst 4, 1) := by decide +kernel
theorem dX4_fact_41 : decode cX4_fact 41 = .ok (.if_icmp .lt 10, 3) := by decide +kernel
theorem dX4_fact_44 : decode cX4_fact 44 = .ok (.aload_n 0, 1) := by decide +kernel
theorem dX4_fact_45 : decode cX4_fact 45 = .ok (.bipush (-6), 2) := by decide +kernel
theorem dX4_fact_47 : decode cX4_fact 47 = .ok (.invokevirtual 58, 3) := by decide +kernel
theorem dX4_fact_50 : decode cX4_fact 50 = .ok (.ireturn, 1) := by decide +kernel
theorem dX4_fact_51 : decode cX4_fact 51 = .ok (.aload_n 0, 1) := by decide +kernel
theorem dX4_fact_52 : decode cX4_fact 52 = .ok (.getfield 12, 3) := by decide +kernel
theorem dX4_fact_55 : decode cX4_fact 55 = .ok (.iload_n 1, 1) := by decide +kernel
theorem dX4_fact_56 : decode cX4_fact 56 = .ok (.iload_n 2, 1) := by decide +kernel
theorem dX4_fact_57 : decode cX4_fact 57 = .ok (.iload_n 3, 1) := by decide +kernel
theorem dX4_fact_58 : decode cX4_fact 58 = .ok (.invokevirtual 135, 3) := by decide +kernel
theorem dX4_fact_61 : decode cX4_fact 61 = .ok (.ireturn, 1) := by decide +kernel
theorem dX4_forget_0 : decode cX4_forget 0 = .ok (.iload_n 1, 1) := by decide +kernel
theorem dX4_forget_1 : decode cX4_forget 1 = .ok (.aload_n 0, 1) := by decide +kernel
theorem dX4_forget_2 : decode cX4_forget 2 = .ok (.getfield 12, 3) := by decide +kernel
theorem dX4_forget_5 : decode cX4_forget 5 = .ok (.getfield 132, 3) := by decide +kernel
theorem dX4_forget_8 : decode cX4_forget 8 = .ok (.iconst 1, 1) := by decide +kernel
theorem dX4_forget_9 : decode cX4_forget 9 = .ok (.isub, 1) := by decide +kernel
theorem dX4_forget_10 : decode cX4_forget 10 = .ok (.invokestatic 54, 3) := by decide +kernel
theorem dX4_forget_13 : decode cX4_forget 13 = .ok (.ifCond .ne 10, 3) := by decide +kernel
theorem dX4_forget_16 : decode cX4_forget 16 = .ok (.aload_n 0, 1) := by decide +kernel
theorem dX4_forget_17 : decode cX4_forget 17 = .ok (.bipush (-2), 2) := by decide +kernel
theorem dX4_forget_19 : decode cX4_forget 19 = .ok (.invokevirtual 58, 3) := by decide +kernel
theorem dX4_forget_22 : decode cX4_forget 22 = .ok (.ireturn, 1) := by decide +kernel
theorem dX4_forget_23 : decode cX4_forget 23 = .ok (.aload_n 0, 1) := by decide +kernel
theorem dX4_forget_24 : decode cX4_forget 24 = .ok (.getfield 12, 3) := by decide +kernel
theorem dX4_forget_27 : decode cX4_forget 27 = .ok (.iload_n 1, 1) := by decide +kernel
theorem dX4_forget_28 : decode cX4_forget 28 = .ok (.invokevirtual 139, 3) := by decide +kernel
theorem dX4_forget_31 : decode cX4_forget 31 = .ok (.ireturn, 1) := by decide +kernel
theorem dX4_swap_0 : decode cX4_swap 0 = .ok (.iload_n 1, 1) := by decide +kernel
theorem dX4_swap_1 : decode cX4_swap 1 = .ok (.aload_n 0, 1) := by decide +kernel
theorem dX4_swap_2 : decode cX4_swap 2 = .ok (.getfield 12, 3) := by decide +kernel
theorem dX4_swap_5 : decode cX4_swap 5 = .ok (.getfield 123, 3) := by decide +kernel
theorem dX4_swap_8 : decode cX4_swap 8 = .ok (.iconst 1, 1) := by decide +kernel
theorem dX4_swap_9 : decode cX4_swap 9 = .ok (.isub, 1) := by decide +kernel
theorem dX4_swap_10 : decode cX4_swap 10 = .ok (.invokestatic 54, 3) := by decide +kernel
theorem dX4_swap_13 : decode cX4_swap 13 = .ok (.ifCond .eq 19, 3) := by decide +kernel
theorem dX4_swap_16 : decode cX4_swap 16 = .ok (.iload_n 2, 1) := by decide +kernel
theorem dX4_swap_17 : decode cX4_swap 17 = .ok (.aload_n 0, 1) := by decide +kernel
theorem dX4_swap_18 : decode cX4_swap 18 = .ok (.getfield 12, 3) := by decide +kernel
theorem dX4_swap_21 : decode cX4_swap 21 = .ok (.getfield 123, 3) := by decide +kernel
theorem dX4_swap_24 : decode cX4_swap 24 = .ok (.iconst 1, 1) := by decide +kernel
theorem dX4_swap_25 : decode cX4_swap 25 = .ok (.isub, 1) := by decide +kernel
theorem dX4_swap_26 : decode cX4_swap 26 = .ok (.invokestatic 54, 3) := by decide +kernel
theorem dX4_swap_29 : decode cX4_swap 29 = .ok (.ifCond .ne 10, 3) := by decide +kernel
theorem dX4_swap_32 : decode cX4_swap 32 = .ok (.aload_n 0, 1) := by decide +kernel
theorem dX4_swap_33 : decode cX4_swap 33 = .ok (.bipush (-2), 2) := by decide +kernel
theorem dX4_swap_35 : decode cX4_swap 35 = .ok (.invokevirtual 58, 3) := by decide +kernel
theorem dX4_swap_38 : decode cX4_swap 38 = .ok (.ireturn, 1) := by decide +kernel
theorem dX4_swap_39 : decode cX4_swap 39 = .ok (.aload_n 0, 1) := by decide +kernel
theorem dX4_swap_40 : decode cX4_swap 40 = .ok (.getfield 12, 3) := by decide +kernel
theorem dX4_swap_43 : decode cX4_swap 43 = .ok (.getfield 120, 3) := by decide +kernel
theorem dX4_swap_46 : decode cX4_swap 46 = .ok (.ifCond .le 10, 3) := by decide +kernel
theorem dX4_swap_49 : decode cX4_swap 49 = .ok (.aload_n 0, 1) := by decide +kernel
theorem dX4_swap_50 : decode cX4_swap 50 = .ok (.bipush (-5), 2) := by decide +kernel
theorem dX4_swap_52 : decode cX4_swap 52 = .ok (.invokevirtual 58, 3) := by decide +kernel
theorem dX4_swap_55 : decode cX4_swap 55 = .ok (.ireturn, 1) := by decide +kernel
theorem dX4_swap_56 : decode cX4_swap 56 = .ok (.aload_n 0, 1) := by decide +kernel
theorem dX4_swap_57 : decode cX4_swap 57 = .ok (.getfield 12, 3) := by decide +kernel
theorem dX4_swap_60 : decode cX4_swap 60 = .ok (.iload_n 1, 1) := by decide +kernel
theorem dX4_swap_61 : decode cX4_swap 61 = .ok (.iload_n 2, 1) := by decide +kernel
theorem dX4_swap_62 : decode cX4_swap 62 = .ok (.invokevirtual 142, 3) := by decide +kernel
theorem dX4_swap_65 : decode cX4_swap 65 = .ok (.iload_n 1, 1) := by decide +kernel
theorem dX4_swap_66 : decode cX4_swap 66 = .ok (.iload_n 2, 1) := by decide +kernel
theorem dX4_swap_67 : decode cX4_swap 67 = .ok (.if_icmp .ne 7, 3) := by decide +kernel
theorem dX4_swap_70 : decode cX4_swap 70 = .ok (.iconst 0, 1) := by decide +kernel
theorem dX4_swap_71 : decode cX4_swap 71 = .ok (.goto 4, 3) := by decide +kernel
theorem dX4_swap_74 : decode cX4_swap 74 = .ok (.iconst 1, 1) := by decide +kernel
theorem dX4_swap_75 : decode cX4_swap 75 = .ok (.ireturn, 1) := by decide +kernel
theorem dX4_feed_0 : decode cX4_feed 0 = .ok (.iload_n 1, 1) := by decide +kernel
theorem dX4_feed_1 : decode cX4_feed 1 = .ok (.sipush 255, 3) := by decide +kernel
theorem dX4_feed_4 : decode cX4_feed 4 = .ok (.invokestatic 54, 3) := by decide +kernel
theorem dX4_feed_7 : decode cX4_feed 7 = .ok (.ifCond .ne 10, 3) := by decide +kernel
theorem dX4_feed_10 : decode cX4_feed 10 = .ok (.aload_n 0, 1) := by decide +kernel
theorem dX4_feed_11 : decode cX4_feed 11 = .ok (.bipush (-2), 2) := by decide +kernel
theorem dX4_feed_13 : decode cX4_feed 13 = .ok (.invokevirtual 58, 3) := by decide +kernel
theorem dX4_feed_16 : decode cX4_feed 16 = .ok (.ireturn, 1) := by decide +kernel
theorem dX4_feed_17 : decode cX4_feed 17 = .ok (.aload_n 0, 1) := by decide +kernel
theorem dX4_feed_18 : decode cX4_feed 18 = .ok (.getfield 32, 3) := by decide +kernel
theorem dX4_feed_21 : decode cX4_feed 21 = .ok (.getfield 145, 3) := by decide +kernel
theorem dX4_feed_24 : decode cX4_feed 24 = .ok (.sipush 250, 3) := by decide +kernel
theorem dX4_feed_27 : decode cX4_feed 27 = .ok (.if_icmp .lt 10, 3) := by decide +kernel
theorem dX4_feed_30 : decode cX4_feed 30 = .ok (.aload_n 0, 1) := by decide +kernel
theorem dX4_feed_31 : decode cX4_feed 31 = .ok (.bipush (-6), 2) := by decide +kernel
theorem dX4_feed_33 : decode cX4_feed 33 = .ok (.invokevirtual 58, 3) := by decide +kernel
theorem dX4_feed_36 : decode cX4_feed 36 = .ok (.ireturn, 1) := by decide +kernel
theorem dX4_feed_37 : decode cX4_feed 37 = .ok (.aload_n 0, 1) := by decide +kernel
theorem dX4_feed_38 : decode cX4_feed 38 = .ok (.getfield 32, 3) := by decide +kernel
theorem dX4_feed_41 : decode cX4_feed 41 = .ok (.iload_n 1, 1) := by decide +kernel
theorem dX4_feed_42 : decode cX4_feed 42 = .ok (.invokevirtual 148, 3) := by decide +kernel
theorem dX4_feed_45 : decode cX4_feed 45 = .ok (.ireturn, 1) := by decide +kernel
theorem dX4_wipe_0 : decode cX4_wipe 0 = .ok (.aload_n 0, 1) := by decide +kernel
theorem dX4_wipe_1 : decode cX4_wipe 1 = .ok (.getfield 32, 3) := by decide +kernel
theorem dX4_wipe_4 : decode cX4_wipe 4 = .ok (.getfield 145, 3) := by decide +kernel
theorem dX4_wipe_7 : decode cX4_wipe 7 = .ok (.istore_n 1, 1) := by decide +kernel
theorem dX4_wipe_8 : decode cX4_wipe 8 = .ok (.aload_n 0, 1) := by decide +kernel
theorem dX4_wipe_9 : decode cX4_wipe 9 = .ok (.getfield 32, 3) := by decide +kernel
theorem dX4_wipe_12 : decode cX4_wipe 12 = .ok (.iconst 0, 1) := by decide +kernel
theorem dX4_wipe_13 : decode cX4_wipe 13 = .ok (.putfield 145, 3) := by decide +kernel
theorem dX4_wipe_16 : decode cX4_wipe 16 = .ok (.iload_n 1, 1) := by decide +kernel
theorem dX4_wipe_17 : decode cX4_wipe 17 = .ok (.ireturn, 1) := by decide +kernel
theorem dX4_drum_0 : decode cX4_drum 0 = .ok (.aload_n 0, 1) := by decide +kernel
theorem dX4_drum_1 : decode cX4_drum 1 = .ok (.getfield 19, 3) := by decide +kernel
theorem dX4_drum_4 : decode cX4_drum 4 = .ok (.aload_n 0, 1) := by decide +kernel
theorem dX4_drum_5 : decode cX4_drum 5 = .ok (.getfield 12, 3) := by decide +kernel
theorem dX4_drum_8 : decode cX4_drum 8 = .ok (.invokevirtual 151, 3) := by decide +kernel
theorem dX4_drum_11 : decode cX4_drum 11 = .ok (.aload_n 0, 1) := by decide +kernel
theorem dX4_drum_12 : decode cX4_drum 12 = .ok (.getfield 32, 3) := by decide +kernel
theorem dX4_drum_15 : decode cX4_drum 15 = .ok (.aload_n 0, 1) := by decide +kernel
theorem dX4_drum_16 : decode cX4_drum 16 = .ok (.getfield 12, 3) := by decide +kernel
theorem dX4_drum_19 : decode cX4_drum 19 = .ok (.invokevirtual 155, 3) := by decide +kernel
theorem dX4_drum_22 : decode cX4_drum 22 = .ok (.istore_n 1, 1) := by decide +kernel
theorem dX4_drum_23 : decode cX4_drum 23 = .ok (.aload_n 0, 1) := by decide +kernel
theorem dX4_drum_24 : decode cX4_drum 24 = .ok (.getfield 32, 3) := by decide +kernel
theorem dX4_drum_27 : decode cX4_drum 27 = .ok (.iconst 0, 1) := by decide +kernel
theorem dX4_drum_28 : decode cX4_drum 28 = .ok (.putfield 145, 3) := by decide +kernel
theorem dX4_drum_31 : decode cX4_drum 31 = .ok (.iload_n 1, 1) := by decide +kernel
theorem dX4_drum_32 : decode cX4_drum 32 = .ok (.iconst (-1), 1) := by decide +kernel
theorem dX4_drum_33 : decode cX4_drum 33 = .ok (.if_icmp .ne 32, 3) := by decide +kernel
theorem dX4_drum_36 : decode cX4_drum 36 = .ok (.aload_n 0, 1) := by decide +kernel
theorem dX4_drum_37 : decode cX4_drum 37 = .ok (.getfield 12, 3) := by decide +kernel
theorem dX4_drum_40 : decode cX4_drum 40 = .ok (.aload_n 0, 1) := by decide +kernel
theorem dX4_drum_41 : decode cX4_drum 41 = .ok (.getfield 19, 3) := by decide +kernel
theorem dX4_drum_44 : decode cX4_drum 44 = .ok (.invokevirtual 151, 3) := by decide +kernel
theorem dX4_drum_47 : decode cX4_drum 47 = .ok (.aload_n 0, 1) := by decide +kernel
theorem dX4_drum_48 : decode cX4_drum 48 = .ok (.bipush (-2), 2) := by decide +kernel
theorem dX4_drum_50 : decode cX4_drum 50 = .ok (.invokevirtual 58, 3) := by decide +kernel
theorem dX4_drum_53 : decode cX4_drum 53 = .ok (.pop, 1) := by decide +kernel
theorem dX4_drum_54 : decode cX4_drum 54 = .ok (.bipush (-20), 2) := by decide +kernel
theorem dX4_drum_56 : decode cX4_drum 56 = .ok (.aload_n 0, 1) := by decide +kernel
theorem dX4_drum_57 : decode cX4_drum 57 = .ok (.getfield 32, 3) := by decide +kernel
theorem dX4_drum_60 : decode cX4_drum 60 = .ok (.getfield 159, 3) := by decide +kernel
theorem dX4_drum_63 : decode cX4_drum 63 = .ok (.isub, 1) := by decide +kernel
theorem dX4_drum_64 : decode cX4_drum 64 = .ok (.ireturn, 1) := by decide +kernel
theorem dX4_drum_65 : decode cX4_drum 65 = .ok (.iload_n 1, 1) := by decide +kernel
theorem dX4_drum_66 : decode cX4_drum 66 = .ok (.ireturn, 1) := by decide +kernel
theorem dX4_heapOf_0 : decode cX4_heapOf 0 = .ok (.iload_n 1, 1) := by decide +kernel
theorem dX4_heapOf_1 : decode cX4_heapOf 1 = .ok (.aload_n 0, 1) := by decide +kernel
theorem dX4_heapOf_2 : decode cX4_heapOf 2 = .ok (.getfield 12, 3) := by decide +kernel
theorem dX4_heapOf_5 : decode cX4_heapOf 5 = .ok (.getfield 123, 3) := by decide +kernel
theorem dX4_heapOf_8 : decode cX4_heapOf 8 = .ok (.iconst 1, 1) := by decide +kernel
theorem dX4_heapOf_9 : decode cX4_heapOf 9 = .ok (.isub, 1) := by decide +kernel
theorem dX4_heapOf_10 : decode cX4_heapOf 10 = .ok (.invokestatic 54, 3) := by decide +kernel
theorem dX4_heapOf_13 : decode cX4_heapOf 13 = .ok (.ifCond .eq 11, 3) := by decide +kernel
theorem dX4_heapOf_16 : decode cX4_heapOf 16 = .ok (.iload_n 2, 1) := by decide +kernel
theorem dX4_heapOf_17 : decode cX4_heapOf 17 = .ok (.iconst 2, 1) := by decide +kernel
theorem dX4_heapOf_18 : decode cX4_heapOf 18 = .ok (.invokestatic 54, 3) := by decide +kernel
theorem dX4_heapOf_21 : decode cX4_heapOf 21 = .ok (.ifCond .ne 10, 3) := by decide +kernel
theorem dX4_heapOf_24 : decode cX4_heapOf 24 = .ok (.aload_n 0, 1) := by decide +kernel
theorem dX4_heapOf_25 : decode cX4_heapOf 25 = .ok (.bipush (-2), 2) := by decide +kernel
theorem dX4_heapOf_27 : decode cX4_heapOf 27 = .ok (.invokevirtual 58, 3) := by decide +kernel
theorem dX4_heapOf_30 : decode cX4_heapOf 30 = .ok (.ireturn, 1) := by decide +kernel
theorem dX4_heapOf_31 : decode cX4_heapOf 31 = .ok (.iload_n 2, 1) := by decide +kernel
theorem dX4_heapOf_32 : decode cX4_heapOf 32 = .ok (.iconst 2, 1) := by decide +kernel
theorem dX4_heapOf_33 : decode cX4_heapOf 33 = .ok (.if_icmp .ne 12, 3) := by decide +kernel
theorem dX4_heapOf_36 : decode cX4_heapOf 36 = .ok (.aload_n 0, 1) := by decide +kernel
theorem dX4_heapOf_37 : decode cX4_heapOf 37 = .ok (.getfield 12, 3) := by decide +kernel
theorem dX4_heapOf_40 : decode cX4_heapOf 40 = .ok (.iload_n 1, 1) := by decide +kernel
theorem dX4_heapOf_41 : decode cX4_heapOf 41 = .ok (.invokevirtual 162, 3) := by decide +kernel
theorem dX4_heapOf_44 : decode cX4_heapOf 44 = .ok (.ireturn, 1) := by decide +kernel
theorem dX4_heapOf_45 : decode cX4_heapOf 45 = .ok (.iload_n 2, 1) := by decide +kernel
theorem dX4_heapOf_46 : decode cX4_heapOf 46 = .ok (.ifCond .ne 15, 3) := by decide +kernel
theorem dX4_heapOf_49 : decode cX4_heapOf 49 = .ok (.aload_n 0, 1) := by decide +kernel
theorem dX4_heapOf_50 : decode cX4_heapOf 50 = .ok (.getfield 12, 3) := by decide +kernel
theorem dX4_heapOf_53 : decode cX4_heapOf 53 = .ok (.getfield 165, 3) := by decide +kernel
theorem dX4_heapOf_56 : decode cX4_heapOf 56 = .ok (.iload_n 1, 1) := by decide +kernel
theorem dX4_heapOf_57 : decode cX4_heapOf 57 = .ok (.iaload, 1) := by decide +kernel
theorem dX4_heapOf_58 : decode cX4_heapOf 58 = .ok (.goto 12, 3) := by decide +kernel
theorem dX4_heapOf_61 : decode cX4_heapOf 61 = .ok (.aload_n 0, 1) := by decide +kernel
theorem dX4_heapOf_62 : decode cX4_heapOf 62 = .ok (.getfield 12, 3) := by decide +kernel
theorem dX4_heapOf_65 : decode cX4_heapOf 65 = .ok (.getfield 168, 3) := by decide +kernel
theorem dX4_heapOf_68 : decode cX4_heapOf 68 = .ok (.iload_n 1, 1) := by decide +kernel
theorem dX4_heapOf_69 : decode cX4_heapOf 69 = .ok (.iaload, 1) := by decide +kernel
theorem dX4_heapOf_70 : decode cX4_heapOf 70 = .ok (.ireturn, 1) := by decide +kernel
theorem dX4_factOf_0 : decode cX4_factOf 0 = .ok (.iload_n 1, 1) := by decide +kernel
theorem dX4_factOf_1 : decode cX4_factOf 1 = .ok (.aload_n 0, 1) := by decide +kernel
theorem dX4_factOf_2 : decode cX4_factOf 2 = .ok (.getfield 12, 3) := by decide +kernel
theorem dX4_factOf_5 : decode cX4_factOf 5 = .ok (.getfield 132, 3) := by decide +kernel
theorem dX4_factOf_8 : decode cX4_factOf 8 = .ok (.iconst 1, 1) := by decide +kernel
theorem dX4_factOf_9 : decode cX4_factOf 9 = .ok (.isub, 1) := by decide +kernel
theorem dX4_factOf_10 : decode cX4_factOf 10 = .ok (.invokestatic 54, 3) := by decide +kernel
theorem dX4_factOf_13 : decode cX4_factOf 13 = .ok (.ifCond .eq 11, 3) := by decide +kernel
theorem dX4_factOf_16 : decode cX4_factOf 16 = .ok (.iload_n 2, 1) := by decide +kernel
theorem dX4_factOf_17 : decode cX4_factOf 17 = .ok (.iconst 2, 1) := by decide +kernel
theorem dX4_factOf_18 : decode cX4_factOf 18 = .ok (.invokestatic 54, 3) := by decide +kernel
theorem dX4_factOf_21 : decode cX4_factOf 21 = .ok (.ifCond .ne 10, 3) := by decide +kernel
theorem dX4_factOf_24 : decode cX4_factOf 24 = .ok (.aload_n 0, 1) := by decide +kernel
theorem dX4_factOf_25 : decode cX4_factOf 25 = .ok (.bipush (-2), 2) := by decide +kernel
theorem dX4_factOf_27 : decode cX4_factOf 27 = .ok (.invokevirtual 58, 3) := by decide +kernel
theorem dX4_factOf_30 : decode cX4_factOf 30 = .ok (.ireturn, 1) := by decide +kernel
theorem dX4_factOf_31 : decode cX4_factOf 31 = .ok (.iload_n 2, 1) := by decide +kernel
theorem dX4_factOf_32 : decode cX4_factOf 32 = .ok (.ifCond .ne 13, 3) := by decide +kernel
theorem dX4_factOf_35 : decode cX4_factOf 35 = .ok (.aload_n 0, 1) := by decide +kernel
theorem dX4_factOf_36 : decode cX4_factOf 36 = .ok (.getfield 12, 3) := by decide +kernel
theorem dX4_factOf_39 : decode cX4_factOf 39 = .ok (.getfield 171, 3) := by decide +kernel
theorem dX4_factOf_42 : decode cX4_factOf 42 = .ok (.iload_n 1, 1) := by decide +kernel
theorem dX4_factOf_43 : decode cX4_factOf 43 = .ok (.iaload, 1) := by decide +kernel
theorem dX4_factOf_44 : decode cX4_factOf 44 = .ok (.ireturn, 1) := by decide +kernel
theorem dX4_factOf_45 : decode cX4_factOf 45 = .ok (.iload_n 2, 1) := by decide +kernel
theorem dX4_factOf_46 : decode cX4_factOf 46 = .ok (.iconst 1, 1) := by decide +kernel
theorem dX4_factOf_47 : decode cX4_factOf 47 = .ok (.if_icmp .ne 15, 3) := by decide +kernel
theorem dX4_factOf_50 : decode cX4_factOf 50 = .ok (.aload_n 0, 1) := by decide +kernel
theorem dX4_factOf_51 : decode cX4_factOf 51 = .ok (.getfield 12, 3) := by decide +kernel
theorem dX4_factOf_54 : decode cX4_factOf 54 = .ok (.getfield 174, 3) := by decide +kernel
theorem dX4_factOf_57 : decode cX4_factOf 57 = .ok (.iload_n 1, 1) := by decide +kernel
theorem dX4_factOf_58 : decode cX4_factOf 58 = .ok (.iaload, 1) := by decide +kernel
theorem dX4_factOf_59 : decode cX4_factOf 59 = .ok (.goto 12, 3) := by decide +kernel
theorem dX4_factOf_62 : decode cX4_factOf 62 = .ok (.aload_n 0, 1) := by decide +kernel
theorem dX4_factOf_63 : decode cX4_factOf 63 = .ok (.getfield 12, 3) := by decide +kernel
theorem dX4_factOf_66 : decode cX4_factOf 66 = .ok (.getfield 177, 3) := by decide +kernel
theorem dX4_factOf_69 : decode cX4_factOf 69 = .ok (.iload_n 1, 1) := by decide +kernel
theorem dX4_factOf_70 : decode cX4_factOf 70 = .ok (.iaload, 1) := by decide +kernel
theorem dX4_factOf_71 : decode cX4_factOf 71 = .ok (.ireturn, 1) := by decide +kernel
theorem dX4_read_0 : decode cX4_read 0 = .ok (.aload_n 0, 1) := by decide +kernel
theorem dX4_read_1 : decode cX4_read 1 = .ok (.getfield 12, 3) := by decide +kernel
theorem dX4_read_4 : decode cX4_read 4 = .ok (.iload_n 1, 1) := by decide +kernel
theorem dX4_read_5 : decode cX4_read 5 = .ok (.invokevirtual 180, 3) := by decide +kernel
theorem dX4_read_8 : decode cX4_read 8 = .ok (.ifCond .eq 13, 3) := by decide +kernel
theorem dX4_read_11 : decode cX4_read 11 = .ok (.aload_n 0, 1) := by decide +kernel
theorem dX4_read_12 : decode cX4_read 12 = .ok (.getfield 12, 3) := by decide +kernel
theorem dX4_read_15 : decode cX4_read 15 = .ok (.getfield 120, 3) := by decide +kernel
theorem dX4_read_18 : decode cX4_read 18 = .ok (.goto 9, 3) := by decide +kernel
theorem dX4_read_21 : decode cX4_read 21 = .ok (.aload_n 0, 1) := by decide +kernel
theorem dX4_read_22 : decode cX4_read 22 = .ok (.bipush (-5), 2) := by decide +kernel
theorem dX4_read_24 : decode cX4_read 24 = .ok (.invokevirtual 58, 3) := by decide +kernel
theorem dX4_read_27 : decode cX4_read 27 = .ok (.ireturn, 1) := by decide +kernel
theorem dX4_slip_0 : decode cX4_slip 0 = .ok (.iload_n 1, 1) := by decide +kernel
theorem dX4_slip_1 : decode cX4_slip 1 = .ok (.aload_n 0, 1) := by decide +kernel
theorem dX4_slip_2 : decode cX4_slip 2 = .ok (.getfield 12, 3) := by decide +kernel
theorem dX4_slip_5 : decode cX4_slip 5 = .ok (.getfield 120, 3) := by decide +kernel
theorem dX4_slip_8 : decode cX4_slip 8 = .ok (.iconst 1, 1) := by decide +kernel
theorem dX4_slip_9 : decode cX4_slip 9 = .ok (.isub, 1) := by decide +kernel
theorem dX4_slip_10 : decode cX4_slip 10 = .ok (.invokestatic 54, 3) := by decide +kernel
theorem dX4_slip_13 : decode cX4_slip 13 = .ok (.ifCond .eq 15, 3) := by decide +kernel
theorem dX4_slip_16 : decode cX4_slip 16 = .ok (.aload_n 0, 1) := by decide +kernel
theorem dX4_slip_17 : decode cX4_slip 17 = .ok (.getfield 12, 3) := by decide +kernel
theorem dX4_slip_20 : decode cX4_slip 20 = .ok (.getfield 184, 3) := by decide +kernel
theorem dX4_slip_23 : decode cX4_slip 23 = .ok (.iload_n 1, 1) := by decide +kernel
theorem dX4_slip_24 : decode cX4_slip 24 = .ok (.iaload, 1) := by decide +kernel
theorem dX4_slip_25 : decode cX4_slip 25 = .ok (.goto 9, 3) := by decide +kernel
theorem dX4_slip_28 : decode cX4_slip 28 = .ok (.aload_n 0, 1) := by decide +kernel
theorem dX4_slip_29 : decode cX4_slip 29 = .ok (.bipush (-2), 2) := by decide +kernel
theorem dX4_slip_31 : decode cX4_slip 31 = .ok (.invokevirtual 58, 3) := by decide +kernel
theorem dX4_slip_34 : decode cX4_slip 34 = .ok (.ireturn, 1) := by decide +kernel
theorem dX4_again_0 : decode cX4_again 0 = .ok (.aload_n 0, 1) := by decide +kernel
theorem dX4_again_1 : decode cX4_again 1 = .ok (.getfield 12, 3) := by decide +kernel
theorem dX4_again_4 : decode cX4_again 4 = .ok (.getfield 120, 3) := by decide +kernel
theorem dX4_again_7 : decode cX4_again 7 = .ok (.istore_n 1, 1) := by decide +kernel
theorem dX4_again_8 : decode cX4_again 8 = .ok (.aload_n 0, 1) := by decide +kernel
theorem dX4_again_9 : decode cX4_again 9 = .ok (.getfield 12, 3) := by decide +kernel
theorem dX4_again_12 : decode cX4_again 12 = .ok (.invokevirtual 187, 3) := by decide +kernel
theorem dX4_again_15 : decode cX4_again 15 = .ok (.iload_n 1, 1) := by decide +kernel
theorem dX4_again_16 : decode cX4_again 16 = .ok (.ireturn, 1) := by decide +kernel
theorem dX4_lead_0 : decode cX4_lead 0 = .ok (.iconst 2, 1) := by decide +kernel
theorem dX4_lead_1 : decode cX4_lead 1 = .ok (.aload_n 0, 1) := by decide +kernel
theorem dX4_lead_2 : decode cX4_lead 2 = .ok (.getfield 12, 3) := by decide +kernel
theorem dX4_lead_5 : decode cX4_lead 5 = .ok (.getfield 190, 3) := by decide +kernel
theorem dX4_lead_8 : decode cX4_lead 8 = .ok (.imul, 1) := by decide +kernel
theorem dX4_lead_9 : decode cX4_lead 9 = .ok (.aload_n 0, 1) := by decide +kernel
theorem dX4_lead_10 : decode cX4_lead 10 = .ok (.getfield 12, 3) := by decide +kernel
theorem dX4_lead_13 : decode cX4_lead 13 = .ok (.getfield 120, 3) := by decide +kernel
theorem dX4_lead_16 : decode cX4_lead 16 = .ok (.isub, 1) := by decide +kernel
theorem dX4_lead_17 : decode cX4_lead 17 = .ok (.ireturn, 1) := by decide +kernel
theorem dX4_isSure_0 : decode cX4_isSure 0 = .ok (.aload_n 0, 1) := by decide +kernel
theorem dX4_isSure_1 : decode cX4_isSure 1 = .ok (.getfield 25, 3) := by decide +kernel
theorem dX4_isSure_4 : decode cX4_isSure 4 = .ok (.aload_n 0, 1) := by decide +kernel
theorem dX4_isSure_5 : decode cX4_isSure 5 = .ok (.getfield 12, 3) := by decide +kernel
theorem dX4_isSure_8 : decode cX4_isSure 8 = .ok (.aload_n 0, 1) := by decide +kernel
theorem dX4_isSure_9 : decode cX4_isSure 9 = .ok (.getfield 12, 3) := by decide +kernel
theorem dX4_isSure_12 : decode cX4_isSure 12 = .ok (.getfield 193, 3) := by decide +kernel
theorem dX4_isSure_15 : decode cX4_isSure 15 = .ok (.invokevirtual 196, 3) := by decide +kernel
theorem dX4_isSure_18 : decode cX4_isSure 18 = .ok (.aload_n 0, 1) := by decide +kernel
theorem dX4_isSure_19 : decode cX4_isSure 19 = .ok (.getfield 25, 3) := by decide +kernel
theorem dX4_isSure_22 : decode cX4_isSure 22 = .ok (.invokevirtual 200, 3) := by decide +kernel
theorem dX4_isSure_25 : decode cX4_isSure 25 = .ok (.aload_n 0, 1) := by decide +kernel
theorem dX4_isSure_26 : decode cX4_isSure 26 = .ok (.getfield 25, 3) := by decide +kernel
theorem dX4_isSure_29 : decode cX4_isSure 29 = .ok (.aload_n 0, 1) := by decide +kernel
theorem dX4_isSure_30 : decode cX4_isSure 30 = .ok (.getfield 12, 3) := by decide +kernel
theorem dX4_isSure_33 : decode cX4_isSure 33 = .ok (.getfield 120, 3) := by decide +kernel
theorem dX4_isSure_36 : decode cX4_isSure 36 = .ok (.aload_n 0, 1) := by decide +kernel
theorem dX4_isSure_37 : decode cX4_isSure 37 = .ok (.getfield 12, 3) := by decide +kernel
theorem dX4_isSure_40 : decode cX4_isSure 40 = .ok (.getfield 190, 3) := by decide +kernel
theorem dX4_isSure_43 : decode cX4_isSure 43 = .ok (.invokevirtual 203, 3) := by decide +kernel
theorem dX4_isSure_46 : decode cX4_isSure 46 = .ok (.ifCond .eq 7, 3) := by decide +kernel
theorem dX4_isSure_49 : decode cX4_isSure 49 = .ok (.iconst 0, 1) := by decide +kernel
theorem dX4_isSure_50 : decode cX4_isSure 50 = .ok (.goto 4, 3) := by decide +kernel
theorem dX4_isSure_53 : decode cX4_isSure 53 = .ok (.iconst 1, 1) := by decide +kernel
theorem dX4_isSure_54 : decode cX4_isSure 54 = .ok (.ireturn, 1) := by decide +kernel
theorem dX4_rows_0 : decode cX4_rows 0 = .ok (.aload_n 0, 1) := by decide +kernel
theorem dX4_rows_1 : decode cX4_rows 1 = .ok (.getfield 25, 3) := by decide +kernel
theorem dX4_rows_4 : decode cX4_rows 4 = .ok (.aload_n 0, 1) := by decide +kernel
theorem dX4_rows_5 : decode cX4_rows 5 = .ok (.getfield 12, 3) := by decide +kernel
theorem dX4_rows_8 : decode cX4_rows 8 = .ok (.aload_n 0, 1) := by decide +kernel
theorem dX4_rows_9 : decode cX4_rows 9 = .ok (.getfield 12, 3) := by decide +kernel
theorem dX4_rows_12 : decode cX4_rows 12 = .ok (.getfield 193, 3) := by decide +kernel
theorem dX4_rows_15 : decode cX4_rows 15 = .ok (.invokevirtual 196, 3) := by decide +kernel
theorem dX4_rows_18 : decode cX4_rows 18 = .ok (.aload_n 0, 1) := by decide +kernel
theorem dX4_rows_19 : decode cX4_rows 19 = .ok (.getfield 25, 3) := by decide +kernel
theorem dX4_rows_22 : decode cX4_rows 22 = .ok (.invokevirtual 206, 3) := by decide +kernel
theorem dX4_rows_25 : decode cX4_rows 25 = .ok (.ireturn, 1) := by decide +kernel
theorem dX4_ways_0 : decode cX4_ways 0 = .ok (.aload_n 0, 1) := by decide +kernel
theorem dX4_ways_1 : decode cX4_ways 1 = .ok (.getfield 25, 3) := by decide +kernel
theorem dX4_ways_4 : decode cX4_ways 4 = .ok (.aload_n 0, 1) := by decide +kernel
theorem dX4_ways_5 : decode cX4_ways 5 = .ok (.getfield 12, 3) := by decide +kernel
theorem dX4_ways_8 : decode cX4_ways 8 = .ok (.invokevirtual 209, 3) := by decide +kernel
theorem dX4_ways_11 : decode cX4_ways 11 = .ok (.aload_n 0, 1) := by decide +kernel
theorem dX4_ways_12 : decode cX4_ways 12 = .ok (.getfield 25, 3) := by decide +kernel
theorem dX4_ways_15 : decode cX4_ways 15 = .ok (.invokevirtual 206, 3) := by decide +kernel
theorem dX4_ways_18 : decode cX4_ways 18 = .ok (.ireturn, 1) := by decide +kernel
theorem dX4_ahead_0 : decode cX4_ahead 0 = .ok (.iload_n 1, 1) := by decide +kernel
theorem dX4_ahead_1 : decode cX4_ahead 1 = .ok (.bipush 9, 2) := by decide +kernel
theorem dX4_ahead_3 : decode cX4_ahead 3 = .ok (.invokestatic 54, 3) := by decide +kernel
theorem dX4_ahead_6 : decode cX4_ahead 6 = .ok (.ifCond .eq 11, 3) := by decide +kernel
theorem dX4_ahead_9 : decode cX4_ahead 9 = .ok (.aload_n 0, 1) := by decide +kernel
theorem dX4_ahead_10 : decode cX4_ahead 10 = .ok (.iload_n 1, 1) := by decide +kernel
theorem dX4_ahead_11 : decode cX4_ahead 11 = .ok (.invokevirtual 212, 3) := by decide +kernel
theorem dX4_ahead_14 : decode cX4_ahead 14 = .ok (.goto 9, 3) := by decide +kernel
theorem dX4_ahead_17 : decode cX4_ahead 17 = .ok (.aload_n 0, 1) := by decide +kernel
theorem dX4_ahead_18 : decode cX4_ahead 18 = .ok (.bipush (-2), 2) := by decide +kernel
theorem dX4_ahead_20 : decode cX4_ahead 20 = .ok (.invokevirtual 58, 3) := by decide +kernel
theorem dX4_ahead_23 : decode cX4_ahead 23 = .ok (.ireturn, 1) := by decide +kernel
theorem dX4_never_0 : decode cX4_never 0 = .ok (.aload_n 0, 1) := by decide +kernel
theorem dX4_never_1 : decode cX4_never 1 = .ok (.getfield 25, 3) := by decide +kernel
theorem dX4_never_4 : decode cX4_never 4 = .ok (.aload_n 0, 1) := by decide +kernel
theorem dX4_never_5 : decode cX4_never 5 = .ok (.getfield 12, 3) := by decide +kernel
theorem dX4_never_8 : decode cX4_never 8 = .ok (.invokevirtual 209, 3) := by decide +kernel
theorem dX4_never_11 : decode cX4_never 11 = .ok (.aload_n 0, 1) := by decide +kernel
theorem dX4_never_12 : decode cX4_never 12 = .ok (.getfield 25, 3) := by decide +kernel
theorem dX4_never_15 : decode cX4_never 15 = .ok (.iconst 1, 1) := by decide +kernel
theorem dX4_never_16 : decode cX4_never 16 = .ok (.aload_n 0, 1) := by decide +kernel
theorem dX4_never_17 : decode cX4_never 17 = .ok (.getfield 25, 3) := by decide +kernel
theorem dX4_never_20 : decode cX4_never 20 = .ok (.getfield 215, 3) := by decide +kernel
theorem dX4_never_23 : decode cX4_never 23 = .ok (.invokevirtual 218, 3) := by decide +kernel
theorem dX4_never_26 : decode cX4_never 26 = .ok (.aload_n 0, 1) := by decide +kernel
theorem dX4_never_27 : decode cX4_never 27 = .ok (.getfield 25, 3) := by decide +kernel
theorem dX4_never_30 : decode cX4_never 30 = .ok (.invokevirtual 206, 3) := by decide +kernel
theorem dX4_never_33 : decode cX4_never 33 = .ok (.ireturn, 1) := by decide +kernel
theorem dX4_level_0 : decode cX4_level 0 = .ok (.iload_n 1, 1) := by decide +kernel
theorem dX4_level_1 : decode cX4_level 1 = .ok (.bipush 24, 2) := by decide +kernel
theorem dX4_level_3 : decode cX4_level 3 = .ok (.invokestatic 54, 3) := by decide +kernel
theorem dX4_level_6 : decode cX4_level 6 = .ok (.ifCond .ne 10, 3) := by decide +kernel
theorem dX4_level_9 : decode cX4_level 9 = .ok (.aload_n 0, 1) := by decide +kernel
theorem dX4_level_10 : decode cX4_level 10 = .ok (.bipush (-2), 2) := by decide +kernel
theorem dX4_level_12 : decode cX4_level 12 = .ok (.invokevirtual 58, 3) := by decide +kernel
theorem dX4_level_15 : decode cX4_level 15 = .ok (.ireturn, 1) := by decide +kernel
theorem dX4_level_16 : decode cX4_level 16 = .ok (.aload_n 0, 1) := by decide +kernel
theorem dX4_level_17 : decode cX4_level 17 = .ok (.invokevirtual 221, 3) := by decide +kernel
theorem dX4_level_20 : decode cX4_level 20 = .ok (.aload_n 0, 1) := by decide +kernel
theorem dX4_level_21 : decode cX4_level 21 = .ok (.getfield 25, 3) := by decide +kernel
theorem dX4_level_24 : decode cX4_level 24 = .ok (.getfield 224, 3) := by decide +kernel
theorem dX4_level_27 : decode cX4_level 27 = .ok (.iload_n 1, 1) := by decide +kernel
theorem dX4_level_28 : decode cX4_level 28 = .ok (.iaload, 1) := by decide +kernel
theorem dX4_level_29 : decode cX4_level 29 = .ok (.ireturn, 1) := by decide +kernel
theorem dX4_last_0 : decode cX4_last 0 = .ok (.iload_n 1, 1) := by decide +kernel
theorem dX4_last_1 : decode cX4_last 1 = .ok (.bipush 24, 2) := by decide +kernel
theorem dX4_last_3 : decode cX4_last 3 = .ok (.invokestatic 54, 3) := by decide +kernel
theorem dX4_last_6 : decode cX4_last 6 = .ok (.ifCond .ne 10, 3) := by decide +kernel
theorem dX4_last_9 : decode cX4_last 9 = .ok (.aload_n 0, 1) := by decide +kernel
theorem dX4_last_10 : decode cX4_last 10 = .ok (.bipush (-2), 2) := by decide +kernel
theorem dX4_last_12 : decode cX4_last 12 = .ok (.invokevirtual 58, 3) := by decide +kernel
theorem dX4_last_15 : decode cX4_last 15 = .ok (.ireturn, 1) := by decide +kernel
theorem dX4_last_16 : decode cX4_last 16 = .ok (.aload_n 0, 1) := by decide +kernel
theorem dX4_last_17 : decode cX4_last 17 = .ok (.getfield 25, 3) := by decide +kernel
theorem dX4_last_20 : decode cX4_last 20 = .ok (.aload_n 0, 1) := by decide +kernel
theorem dX4_last_21 : decode cX4_last 21 = .ok (.getfield 12, 3) := by decide +kernel
theorem dX4_last_24 : decode cX4_last 24 = .ok (.invokevirtual 209, 3) := by decide +kernel
theorem dX4_last_27 : decode cX4_last 27 = .ok (.iload_n 1, 1) := by decide +kernel
theorem dX4_last_28 : decode cX4_last 28 = .ok (.aload_n 0, 1) := by decide +kernel
theorem dX4_last_29 : decode cX4_last 29 = .ok (.getfield 25, 3) := by decide +kernel
theorem dX4_last_32 : decode cX4_last 32 = .ok (.getfield 215, 3) := by decide +kernel
theorem dX4_last_35 : decode cX4_last 35 = .ok (.if_icmp .le 5, 3) := by decide +kernel
theorem dX4_last_38 : decode cX4_last 38 = .ok (.iconst 0, 1) := by decide +kernel
theorem dX4_last_39 : decode cX4_last 39 = .ok (.ireturn, 1) := by decide +kernel
theorem dX4_last_40 : decode cX4_last 40 = .ok (.aload_n 0, 1) := by decide +kernel
theorem dX4_last_41 : decode cX4_last 41 = .ok (.getfield 25, 3) := by decide +kernel
theorem dX4_last_44 : decode cX4_last 44 = .ok (.iload_n 1, 1) := by decide +kernel
theorem dX4_last_45 : decode cX4_last 45 = .ok (.invokevirtual 227, 3) := by decide +kernel
theorem dX4_last_48 : decode cX4_last 48 = .ok (.aload_n 0, 1) := by decide +kernel
theorem dX4_last_49 : decode cX4_last 49 = .ok (.getfield 25, 3) := by decide +kernel
theorem dX4_last_52 : decode cX4_last 52 = .ok (.iload_n 1, 1) := by decide +kernel
theorem dX4_last_53 : decode cX4_last 53 = .ok (.iconst 1, 1) := by decide +kernel
theorem dX4_last_54 : decode cX4_last 54 = .ok (.iadd, 1) := by decide +kernel
theorem dX4_last_55 : decode cX4_last 55 = .ok (.aload_n 0, 1) := by decide +kernel
theorem dX4_last_56 : decode cX4_last 56 = .ok (.getfield 25, 3) := by decide +kernel
theorem dX4_last_59 : decode cX4_last 59 = .ok (.getfield 215, 3) := by decide +kernel
theorem dX4_last_62 : decode cX4_last 62 = .ok (.invokevirtual 231, 3) := by decide +kernel
theorem dX4_last_65 : decode cX4_last 65 = .ok (.aload_n 0, 1) := by decide +kernel
theorem dX4_last_66 : decode cX4_last 66 = .ok (.getfield 25, 3) := by decide +kernel
theorem dX4_last_69 : decode cX4_last 69 = .ok (.invokevirtual 206, 3) := by decide +kernel
theorem dX4_last_72 : decode cX4_last 72 = .ok (.ireturn, 1) := by decide +kernel
theorem dX4_greatest_0 : decode cX4_greatest 0 = .ok (.iload_n 1, 1) := by decide +kernel
theorem dX4_greatest_1 : decode cX4_greatest 1 = .ok (.bipush 24, 2) := by decide +kernel
theorem dX4_greatest_3 : decode cX4_greatest 3 = .ok (.invokestatic 54, 3) := by decide +kernel
theorem dX4_greatest_6 : decode cX4_greatest 6 = .ok (.ifCond .ne 10, 3) := by decide +kernel
theorem dX4_greatest_9 : decode cX4_greatest 9 = .ok (.aload_n 0, 1) := by decide +kernel
theorem dX4_greatest_10 : decode cX4_greatest 10 = .ok (.bipush (-2), 2) := by decide +kernel
theorem dX4_greatest_12 : decode cX4_greatest 12 = .ok (.invokevirtual 58, 3) := by decide +kernel
theorem dX4_greatest_15 : decode cX4_greatest 15 = .ok (.ireturn, 1) := by decide +kernel
theorem dX4_greatest_16 : decode cX4_greatest 16 = .ok (.aload_n 0, 1) := by decide +kernel
theorem dX4_greatest_17 : decode cX4_greatest 17 = .ok (.iload_n 1, 1) := by decide +kernel
theorem dX4_greatest_18 : decode cX4_greatest 18 = .ok (.invokevirtual 234, 3) := by decide +kernel
theorem dX4_greatest_21 : decode cX4_greatest 21 = .ok (.aload_n 0, 1) := by decide +kernel
theorem dX4_greatest_22 : decode cX4_greatest 22 = .ok (.iload_n 1, 1) := by decide +kernel
theorem dX4_greatest_23 : decode cX4_greatest 23 = .ok (.iconst 1, 1) := by decide +kernel
theorem dX4_greatest_24 : decode cX4_greatest 24 = .ok (.isub, 1) := by decide +kernel
theorem dX4_greatest_25 : decode cX4_greatest 25 = .ok (.invokevirtual 234, 3) := by decide +kernel
theorem dX4_greatest_28 : decode cX4_greatest 28 = .ok (.isub, 1) := by decide +kernel
theorem dX4_greatest_29 : decode cX4_greatest 29 = .ok (.ireturn, 1) := by decide +kernel
theorem dX4_sure_0 : decode cX4_sure 0 = .ok (.iload_n 1, 1) := by decide +kernel
theorem dX4_sure_1 : decode cX4_sure 1 = .ok (.bipush 24, 2) := by decide +kernel
theorem dX4_sure_3 : decode cX4_sure 3 = .ok (.invokestatic 54, 3) := by decide +kernel
theorem dX4_sure_6 : decode cX4_sure 6 = .ok (.ifCond .ne 10, 3) := by decide +kernel
theorem dX4_sure_9 : decode cX4_sure 9 = .ok (.aload_n 0, 1) := by decide +kernel
theorem dX4_sure_10 : decode cX4_sure 10 = .ok (.bipush (-2), 2) := by decide +kernel
theorem dX4_sure_12 : decode cX4_sure 12 = .ok (.invokevirtual 58, 3) := by decide +kernel
theorem dX4_sure_15 : decode cX4_sure 15 = .ok (.ireturn, 1) := by decide +kernel
theorem dX4_sure_16 : decode cX4_sure 16 = .ok (.aload_n 0, 1) := by decide +kernel
theorem dX4_sure_17 : decode cX4_sure 17 = .ok (.invokevirtual 237, 3) := by decide +kernel
theorem dX4_sure_20 : decode cX4_sure 20 = .ok (.aload_n 0, 1) := by decide +kernel
theorem dX4_sure_21 : decode cX4_sure 21 = .ok (.getfield 25, 3) := by decide +kernel
theorem dX4_sure_24 : decode cX4_sure 24 = .ok (.getfield 224, 3) := by decide +kernel
theorem dX4_sure_27 : decode cX4_sure 27 = .ok (.iload_n 1, 1) := by decide +kernel
theorem dX4_sure_28 : decode cX4_sure 28 = .ok (.iaload, 1) := by decide +kernel
theorem dX4_sure_29 : decode cX4_sure 29 = .ok (.ireturn, 1) := by decide +kernel
theorem dX4_soFar_0 : decode cX4_soFar 0 = .ok (.iload_n 1, 1) := by decide +kernel
theorem dX4_soFar_1 : decode cX4_soFar 1 = .ok (.bipush 24, 2) := by decide +kernel
theorem dX4_soFar_3 : decode cX4_soFar 3 = .ok (.invokestatic 54, 3) := by decide +kernel
theorem dX4_soFar_6 : decode cX4_soFar 6 = .ok (.ifCond .eq 12, 3) := by decide +kernel
theorem dX4_soFar_9 : decode cX4_soFar 9 = .ok (.iload_n 2, 1) := by decide +kernel
theorem dX4_soFar_10 : decode cX4_soFar 10 = .ok (.bipush 24, 2) := by decide +kernel
theorem dX4_soFar_12 : decode cX4_soFar 12 = .ok (.invokestatic 54, 3) := by decide +kernel
theorem dX4_soFar_15 : decode cX4_soFar 15 = .ok (.ifCond .ne 10, 3) := by decide +kernel
theorem dX4_soFar_18 : decode cX4_soFar 18 = .ok (.aload_n 0, 1) := by decide +kernel
theorem dX4_soFar_19 : decode cX4_soFar 19 = .ok (.bipush (-2), 2) := by decide +kernel
theorem dX4_soFar_21 : decode cX4_soFar 21 = .ok (.invokevirtual 58, 3) := by decide +kernel
theorem dX4_soFar_24 : decode cX4_soFar 24 = .ok (.ireturn, 1) := by decide +kernel
theorem dX4_soFar_25 : decode cX4_soFar 25 = .ok (.aload_n 0, 1) := by decide +kernel
theorem dX4_soFar_26 : decode cX4_soFar 26 = .ok (.getfield 25, 3) := by decide +kernel
theorem dX4_soFar_29 : decode cX4_soFar 29 = .ok (.aload_n 0, 1) := by decide +kernel
theorem dX4_soFar_30 : decode cX4_soFar 30 = .ok (.getfield 12, 3) := by decide +kernel
theorem dX4_soFar_33 : decode cX4_soFar 33 = .ok (.invokevirtual 209, 3) := by decide +kernel
theorem dX4_soFar_36 : decode cX4_soFar 36 = .ok (.iload_n 1, 1) := by decide +kernel
theorem dX4_soFar_37 : decode cX4_soFar 37 = .ok (.aload_n 0, 1) := by decide +kernel
theorem dX4_soFar_38 : decode cX4_soFar 38 = .ok (.getfield 25, 3) := by decide +kernel
theorem dX4_soFar_41 : decode cX4_soFar 41 = .ok (.getfield 215, 3) := by decide +kernel
theorem dX4_soFar_44 : decode cX4_soFar 44 = .ok (.if_icmp .le 5, 3) := by decide +kernel
theorem dX4_soFar_47 : decode cX4_soFar 47 = .ok (.iconst 0, 1) := by decide +kernel
theorem dX4_soFar_48 : decode cX4_soFar 48 = .ok (.ireturn, 1) := by decide +kernel
theorem dX4_soFar_49 : decode cX4_soFar 49 = .ok (.aload_n 0, 1) := by decide +kernel
theorem dX4_soFar_50 : decode cX4_soFar 50 = .ok (.getfield 25, 3) := by decide +kernel
theorem dX4_soFar_53 : decode cX4_soFar 53 = .ok (.iload_n 1, 1) := by decide +kernel
theorem dX4_soFar_54 : decode cX4_soFar 54 = .ok (.iload_n 2, 1) := by decide +kernel
theorem dX4_soFar_55 : decode cX4_soFar 55 = .ok (.invokevirtual 240, 3) := by decide +kernel
theorem dX4_soFar_58 : decode cX4_soFar 58 = .ok (.aload_n 0, 1) := by decide +kernel
theorem dX4_soFar_59 : decode cX4_soFar 59 = .ok (.getfield 25, 3) := by decide +kernel
theorem dX4_soFar_62 : decode cX4_soFar 62 = .ok (.invokevirtual 206, 3) := by decide +kernel
theorem dX4_soFar_65 : decode cX4_soFar 65 = .ok (.ireturn, 1) := by decide +kernel
theorem dX4_spent_0 : decode cX4_spent 0 = .ok (.aload_n 0, 1) := by decide +kernel
theorem dX4_spent_1 : decode cX4_spent 1 = .ok (.getfield 25, 3) := by decide +kernel
theorem dX4_spent_4 : decode cX4_spent 4 = .ok (.aload_n 0, 1) := by decide +kernel
theorem dX4_spent_5 : decode cX4_spent 5 = .ok (.getfield 12, 3) := by decide +kernel
theorem dX4_spent_8 : decode cX4_spent 8 = .ok (.invokevirtual 209, 3) := by decide +kernel
theorem dX4_spent_11 : decode cX4_spent 11 = .ok (.aload_n 0, 1) := by decide +kernel
theorem dX4_spent_12 : decode cX4_spent 12 = .ok (.getfield 25, 3) := by decide +kernel
theorem dX4_spent_15 : decode cX4_spent 15 = .ok (.invokevirtual 243, 3) := by decide +kernel
theorem dX4_spent_18 : decode cX4_spent 18 = .ok (.aload_n 0, 1) := by decide +kernel
theorem dX4_spent_19 : decode cX4_spent 19 = .ok (.getfield 25, 3) := by decide +kernel
theorem dX4_spent_22 : decode cX4_spent 22 = .ok (.invokevirtual 246, 3) := by decide +kernel
theorem dX4_spent_25 : decode cX4_spent 25 = .ok (.lreturn, 1) := by decide +kernel
theorem dX4_mean_0 : decode cX4_mean 0 = .ok (.aload_n 0, 1) := by decide +kernel
theorem dX4_mean_1 : decode cX4_mean 1 = .ok (.getfield 25, 3) := by decide +kernel
theorem dX4_mean_4 : decode cX4_mean 4 = .ok (.aload_n 0, 1) := by decide +kernel
theorem dX4_mean_5 : decode cX4_mean 5 = .ok (.getfield 12, 3) := by decide +kernel
theorem dX4_mean_8 : decode cX4_mean 8 = .ok (.invokevirtual 209, 3) := by decide +kernel
theorem dX4_mean_11 : decode cX4_mean 11 = .ok (.aload_n 0, 1) := by decide +kernel
theorem dX4_mean_12 : decode cX4_mean 12 = .ok (.getfield 25, 3) := by decide +kernel
theorem dX4_mean_15 : decode cX4_mean 15 = .ok (.invokevirtual 200, 3) := by decide +kernel
theorem dX4_mean_18 : decode cX4_mean 18 = .ok (.aload_n 0, 1) := by decide +kernel
theorem dX4_mean_19 : decode cX4_mean 19 = .ok (.getfield 25, 3) := by decide +kernel
theorem dX4_mean_22 : decode cX4_mean 22 = .ok (.invokevirtual 246, 3) := by decide +kernel
theorem dX4_mean_25 : decode cX4_mean 25 = .ok (.lreturn, 1) := by decide +kernel
theorem dX4_price_0 : decode cX4_price 0 = .ok (.iload_n 1, 1) := by decide +kernel
theorem dX4_price_1 : decode cX4_price 1 = .ok (.bipush 9, 2) := by decide +kernel
theorem dX4_price_3 : decode cX4_price 3 = .ok (.invokestatic 54, 3) := by decide +kernel
theorem dX4_price_6 : decode cX4_price 6 = .ok (.ifCond .ne 10, 3) := by decide +kernel
theorem dX4_price_9 : decode cX4_price 9 = .ok (.aload_n 0, 1) := by decide +kernel
theorem dX4_price_10 : decode cX4_price 10 = .ok (.bipush (-2), 2) := by decide +kernel
theorem dX4_price_12 : decode cX4_price 12 = .ok (.invokevirtual 58, 3) := by decide +kernel
theorem dX4_price_15 : decode cX4_price 15 = .ok (.ireturn, 1) := by decide +kernel
theorem dX4_price_16 : decode cX4_price 16 = .ok (.aload_n 0, 1) := by decide +kernel
theorem dX4_price_17 : decode cX4_price 17 = .ok (.getfield 25, 3) := by decide +kernel
theorem dX4_price_20 : decode cX4_price 20 = .ok (.aload_n 0, 1) := by decide +kernel
theorem dX4_price_21 : decode cX4_price 21 = .ok (.getfield 12, 3) := by decide +kernel
theorem dX4_price_24 : decode cX4_price 24 = .ok (.invokevirtual 209, 3) := by decide +kernel
theorem dX4_price_27 : decode cX4_price 27 = .ok (.aload_n 0, 1) := by decide +kernel
theorem dX4_price_28 : decode cX4_price 28 = .ok (.getfield 25, 3) := by decide +kernel
theorem dX4_price_31 : decode cX4_price 31 = .ok (.invokevirtual 206, 3) := by decide +kernel
theorem dX4_price_34 : decode cX4_price 34 = .ok (.istore_n 2, 1) := by decide +kernel
theorem dX4_price_35 : decode cX4_price 35 = .ok (.iload_n 2, 1) := by decide +kernel
theorem dX4_price_36 : decode cX4_price 36 = .ok (.ifCond .ne 10, 3) := by decide +kernel
theorem dX4_price_39 : decode cX4_price 39 = .ok (.aload_n 0, 1) := by decide +kernel
theorem dX4_price_40 : decode cX4_price 40 = .ok (.bipush (-5), 2) := by decide +kernel
theorem dX4_price_42 : decode cX4_price 42 = .ok (.invokevirtual 58, 3) := by decide +kernel
theorem dX4_price_45 : decode cX4_price 45 = .ok (.ireturn, 1) := by decide +kernel
theorem dX4_price_46 : decode cX4_price 46 = .ok (.ldc2_w 250, 3) := by decide +kernel
theorem dX4_price_49 : decode cX4_price 49 = .ok (.aload_n 0, 1) := by decide +kernel
theorem dX4_price_50 : decode cX4_price 50 = .ok (.iload_n 1, 1) := by decide +kernel
theorem dX4_price_51 : decode cX4_price 51 = .ok (.invokevirtual 212, 3) := by decide +kernel
theorem dX4_price_54 : decode cX4_price 54 = .ok (.i2l, 1) := by decide +kernel
theorem dX4_price_55 : decode cX4_price 55 = .ok (.lmul, 1) := by decide +kernel
theorem dX4_price_56 : decode cX4_price 56 = .ok (.iload_n 2, 1) := by decide +kernel
theorem dX4_price_57 : decode cX4_price 57 = .ok (.i2l, 1) := by decide +kernel
theorem dX4_price_58 : decode cX4_price 58 = .ok (.ldiv, 1) := by decide +kernel
theorem dX4_price_59 : decode cX4_price 59 = .ok (.l2i, 1) := by decide +kernel
theorem dX4_price_60 : decode cX4_price 60 = .ok (.ireturn, 1) := by decide +kernel
theorem dX4_often_0 : decode cX4_often 0 = .ok (.aload_n 0, 1) := by decide +kernel
theorem dX4_often_1 : decode cX4_often 1 = .ok (.invokevirtual 221, 3) := by decide +kernel
theorem dX4_often_4 : decode cX4_often 4 = .ok (.iconst 0, 1) := by decide +kernel
theorem dX4_often_5 : decode cX4_often 5 = .ok (.istore_n 1, 1) := by decide +kernel
theorem dX4_often_6 : decode cX4_often 6 = .ok (.iconst 1, 1) := by decide +kernel
theorem dX4_often_7 : decode cX4_often 7 = .ok (.istore_n 2, 1) := by decide +kernel
theorem dX4_often_8 : decode cX4_often 8 = .ok (.iload_n 2, 1) := by decide +kernel
theorem dX4_often_9 : decode cX4_often 9 = .ok (.bipush 24, 2) := by decide +kernel
theorem dX4_often_11 : decode cX4_often 11 = .ok (.if_icmp .gt 32, 3) := by decide +kernel
theorem dX4_often_14 : decode cX4_often 14 = .ok (.aload_n 0, 1) := by decide +kernel
theorem dX4_often_15 : decode cX4_often 15 = .ok (.getfield 25, 3) := by decide +kernel
theorem dX4_often_18 : decode cX4_often 18 = .ok (.getfield 224, 3) := by decide +kernel
theorem dX4_often_21 : decode cX4_often 21 = .ok (.iload_n 2, 1) := by decide +kernel
theorem dX4_often_22 : decode cX4_often 22 = .ok (.iaload, 1) := by decide +kernel
theorem dX4_often_23 : decode cX4_often 23 = .ok (.aload_n 0, 1) := by decide +kernel
theorem dX4_often_24 : decode cX4_often 24 = .ok (.getfield 25, 3) := by decide +kernel
theorem dX4_often_27 : decode cX4_often 27 = .ok (.getfield 224, 3) := by decide +kernel
theorem dX4_often_30 : decode cX4_often 30 = .ok (.iload_n 1, 1) := by decide +kernel
theorem dX4_often_31 : decode cX4_often 31 = .ok (.iaload, 1) := by decide +kernel
theorem dX4_often_32 : decode cX4_often 32 = .ok (.if_icmp .le 5, 3) := by decide +kernel
theorem dX4_often_35 : decode cX4_often 35 = .ok (.iload_n 2, 1) := by decide +kernel
theorem dX4_often_36 : decode cX4_often 36 = .ok (.istore_n 1, 1) := by decide +kernel
theorem dX4_often_37 : decode cX4_often 37 = .ok (.iinc 2 1, 3) := by decide +kernel
theorem dX4_often_40 : decode cX4_often 40 = .ok (.goto (-32), 3) := by decide +kernel
theorem dX4_often_43 : decode cX4_often 43 = .ok (.iload_n 1, 1) := by decide +kernel
theorem dX4_often_44 : decode cX4_often 44 = .ok (.ireturn, 1) := by decide +kernel
theorem dX4_half_0 : decode cX4_half 0 = .ok (.aload_n 0, 1) := by decide +kernel
theorem dX4_half_1 : decode cX4_half 1 = .ok (.invokevirtual 237, 3) := by decide +kernel
theorem dX4_half_4 : decode cX4_half 4 = .ok (.aload_n 0, 1) := by decide +kernel
theorem dX4_half_5 : decode cX4_half 5 = .ok (.getfield 25, 3) := by decide +kernel
theorem dX4_half_8 : decode cX4_half 8 = .ok (.iconst 0, 1) := by decide +kernel
theorem dX4_half_9 : decode cX4_half 9 = .ok (.invokevirtual 252, 3) := by decide +kernel
theorem dX4_half_12 : decode cX4_half 12 = .ok (.istore_n 1, 1) := by decide +kernel
theorem dX4_half_13 : decode cX4_half 13 = .ok (.iload_n 1, 1) := by decide +kernel
theorem dX4_half_14 : decode cX4_half 14 = .ok (.ifCond .ne 10, 3) := by decide +kernel
theorem dX4_half_17 : decode cX4_half 17 = .ok (.aload_n 0, 1) := by decide +kernel
theorem dX4_half_18 : decode cX4_half 18 = .ok (.bipush (-5), 2) := by decide +kernel
theorem dX4_half_20 : decode cX4_half 20 = .ok (.invokevirtual 58, 3) := by decide +kernel
theorem dX4_half_23 : decode cX4_half 23 = .ok (.ireturn, 1) := by decide +kernel
theorem dX4_half_24 : decode cX4_half 24 = .ok (.iconst 0, 1) := by decide +kernel
theorem dX4_half_25 : decode cX4_half 25 = .ok (.istore_n 2, 1) := by decide +kernel
theorem dX4_half_26 : decode cX4_half 26 = .ok (.aload_n 0, 1) := by decide +kernel
theorem dX4_half_27 : decode cX4_half 27 = .ok (.getfield 25, 3) := by decide +kernel
theorem dX4_half_30 : decode cX4_half 30 = .ok (.getfield 224, 3) := by decide +kernel
theorem dX4_half_33 : decode cX4_half 33 = .ok (.iconst 0, 1) := by decide +kernel
theorem dX4_half_34 : decode cX4_half 34 = .ok (.iaload, 1) := by decide +kernel
theorem dX4_half_35 : decode cX4_half 35 = .ok (.istore_n 3, 1) := by decide +kernel
theorem dX4_half_36 : decode cX4_half 36 = .ok (.iload_n 2, 1) := by decide +kernel
theorem dX4_half_37 : decode cX4_half 37 = .ok (.bipush 24, 2) := by decide +kernel
theorem dX4_half_39 : decode cX4_half 39 = .ok (.if_icmp .ge 28, 3) := by decide +kernel
theorem dX4_half_42 : decode cX4_half 42 = .ok (.iconst 2, 1) := by decide +kernel
theorem dX4_half_43 : decode cX4_half 43 = .ok (.iload_n 3, 1) := by decide +kernel
theorem dX4_half_44 : decode cX4_half 44 = .ok (.imul, 1) := by decide +kernel
theorem dX4_half_45 : decode cX4_half 45 = .ok (.iload_n 1, 1) := by decide +kernel
theorem dX4_half_46 : decode cX4_half 46 = .ok (.if_icmp .ge 21, 3) := by decide +kernel
theorem dX4_half_49 : decode cX4_half 49 = .ok (.iinc 2 1, 3) := by decide +kernel
theorem dX4_half_52 : decode cX4_half 52 = .ok (.iload_n 3, 1) := by decide +kernel
theorem dX4_half_53 : decode cX4_half 53 = .ok (.aload_n 0, 1) := by decide +kernel
theorem dX4_half_54 : decode cX4_half 54 = .ok (.getfield 25, 3) := by decide +kernel
theorem dX4_half_57 : decode cX4_half 57 = .ok (.getfield 224, 3) := by decide +kernel
theorem dX4_half_60 : decode cX4_half 60 = .ok (.iload_n 2, 1) := by decide +kernel
theorem dX4_half_61 : decode cX4_half 61 = .ok (.iaload, 1) := by decide +kernel
theorem dX4_half_62 : decode cX4_half 62 = .ok (.iadd, 1) := by decide +kernel
theorem dX4_half_63 : decode cX4_half 63 = .ok (.istore_n 3, 1) := by decide +kernel
theorem dX4_half_64 : decode cX4_half 64 = .ok (.goto (-28), 3) := by decide +kernel
theorem dX4_half_67 : decode cX4_half 67 = .ok (.iload_n 2, 1) := by decide +kernel
theorem dX4_half_68 : decode cX4_half 68 = .ok (.ireturn, 1) := by decide +kernel
theorem dX4_judge_0 : decode cX4_judge 0 = .ok (.aload_n 0, 1) := by decide +kernel
theorem dX4_judge_1 : decode cX4_judge 1 = .ok (.iload_n 1, 1) := by decide +kernel
theorem dX4_judge_2 : decode cX4_judge 2 = .ok (.iload_n 1, 1) := by decide +kernel
theorem dX4_judge_3 : decode cX4_judge 3 = .ok (.invokevirtual 66, 3) := by decide +kernel
theorem dX4_judge_6 : decode cX4_judge 6 = .ok (.istore_n 2, 1) := by decide +kernel
theorem dX4_judge_7 : decode cX4_judge 7 = .ok (.iload_n 2, 1) := by decide +kernel
theorem dX4_judge_8 : decode cX4_judge 8 = .ok (.ifCond .eq 9, 3) := by decide +kernel
theorem dX4_judge_11 : decode cX4_judge 11 = .ok (.aload_n 0, 1) := by decide +kernel
theorem dX4_judge_12 : decode cX4_judge 12 = .ok (.iload_n 2, 1) := by decide +kernel
theorem dX4_judge_13 : decode cX4_judge 13 = .ok (.invokevirtual 58, 3) := by decide +kernel
theorem dX4_judge_16 : decode cX4_judge 16 = .ok (.ireturn, 1) := by decide +kernel
theorem dX4_judge_17 : decode cX4_judge 17 = .ok (.aload_n 0, 1) := by decide +kernel
theorem dX4_judge_18 : decode cX4_judge 18 = .ok (.getfield 25, 3) := by decide +kernel
theorem dX4_judge_21 : decode cX4_judge 21 = .ok (.aload_n 0, 1) := by decide +kernel
theorem dX4_judge_22 : decode cX4_judge 22 = .ok (.getfield 12, 3) := by decide +kernel
theorem dX4_judge_25 : decode cX4_judge 25 = .ok (.invokevirtual 209, 3) := by decide +kernel
theorem dX4_judge_28 : decode cX4_judge 28 = .ok (.aload_n 0, 1) := by decide +kernel
theorem dX4_judge_29 : decode cX4_judge 29 = .ok (.aload_n 0, 1) := by decide +kernel
theorem dX4_judge_30 : decode cX4_judge 30 = .ok (.getfield 38, 3) := by decide +kernel
theorem dX4_judge_33 : decode cX4_judge 33 = .ok (.iload_n 1, 1) := by decide +kernel
theorem dX4_judge_34 : decode cX4_judge 34 = .ok (.aaload, 1) := by decide +kernel
theorem dX4_judge_35 : decode cX4_judge 35 = .ok (.invokevirtual 255, 3) := by decide +kernel
theorem dX4_judge_38 : decode cX4_judge 38 = .ok (.ireturn, 1) := by decide +kernel
theorem dX4_told_0 : decode cX4_told 0 = .ok (.iload_n 2, 1) := by decide +kernel
theorem dX4_told_1 : decode cX4_told 1 = .ok (.iconst 2, 1) := by decide +kernel
theorem dX4_told_2 : decode cX4_told 2 = .ok (.invokestatic 54, 3) := by decide +kernel
theorem dX4_told_5 : decode cX4_told 5 = .ok (.ifCond .eq 11, 3) := by decide +kernel
theorem dX4_told_8 : decode cX4_told 8 = .ok (.aload_n 0, 1) := by decide +kernel
theorem dX4_told_9 : decode cX4_told 9 = .ok (.iload_n 1, 1) := by decide +kernel
theorem dX4_told_10 : decode cX4_told 10 = .ok (.invokevirtual 259, 3) := by decide +kernel
theorem dX4_told_13 : decode cX4_told 13 = .ok (.goto 5, 3) := by decide +kernel
theorem dX4_told_16 : decode cX4_told 16 = .ok (.bipush (-2), 2) := by decide +kernel
theorem dX4_told_18 : decode cX4_told 18 = .ok (.istore_n 3, 1) := by decide +kernel
theorem dX4_told_19 : decode cX4_told 19 = .ok (.iload_n 3, 1) := by decide +kernel
theorem dX4_told_20 : decode cX4_told 20 = .ok (.ifCond .eq 11, 3) := by decide +kernel
theorem dX4_told_23 : decode cX4_told 23 = .ok (.aload_n 0, 1) := by decide +kernel
theorem dX4_told_24 : decode cX4_told 24 = .ok (.iload_n 3, 1) := by decide +kernel
theorem dX4_told_25 : decode cX4_told 25 = .ok (.invokevirtual 58, 3) := by decide +kernel
theorem dX4_told_28 : decode cX4_told 28 = .ok (.goto 13, 3) := by decide +kernel
theorem dX4_told_31 : decode cX4_told 31 = .ok (.aload_n 0, 1) := by decide +kernel
theorem dX4_told_32 : decode cX4_told 32 = .ok (.getfield 38, 3) := by decide +kernel
theorem dX4_told_35 : decode cX4_told 35 = .ok (.iload_n 1, 1) := by decide +kernel
theorem dX4_told_36 : decode cX4_told 36 = .ok (.aaload, 1) := by decide +kernel
theorem dX4_told_37 : decode cX4_told 37 = .ok (.iload_n 2, 1) := by decide +kernel
theorem dX4_told_38 : decode cX4_told 38 = .ok (.invokestatic 262, 3) := by decide +kernel
theorem dX4_told_41 : decode cX4_told 41 = .ok (.ireturn, 1) := by decide +kernel
theorem dX4_luck_0 : decode cX4_luck 0 = .ok (.aload_n 0, 1) := by decide +kernel
theorem dX4_luck_1 : decode cX4_luck 1 = .ok (.iload_n 1, 1) := by decide +kernel
theorem dX4_luck_2 : decode cX4_luck 2 = .ok (.invokevirtual 259, 3) := by decide +kernel
theorem dX4_luck_5 : decode cX4_luck 5 = .ok (.istore_n 2, 1) := by decide +kernel
theorem dX4_luck_6 : decode cX4_luck 6 = .ok (.iload_n 2, 1) := by decide +kernel
theorem dX4_luck_7 : decode cX4_luck 7 = .ok (.ifCond .eq 9, 3) := by decide +kernel
theorem dX4_luck_10 : decode cX4_luck 10 = .ok (.aload_n 0, 1) := by decide +kernel
theorem dX4_luck_11 : decode cX4_luck 11 = .ok (.iload_n 2, 1) := by decide +kernel
theorem dX4_luck_12 : decode cX4_luck 12 = .ok (.invokevirtual 58, 3) := by decide +kernel
theorem dX4_luck_15 : decode cX4_luck 15 = .ok (.ireturn, 1) := by decide +kernel
theorem dX4_luck_16 : decode cX4_luck 16 = .ok (.aload_n 0, 1) := by decide +kernel
theorem dX4_luck_17 : decode cX4_luck 17 = .ok (.getfield 25, 3) := by decide +kernel
theorem dX4_luck_20 : decode cX4_luck 20 = .ok (.aload_n 0, 1) := by decide +kernel
theorem dX4_luck_21 : decode cX4_luck 21 = .ok (.getfield 12, 3) := by decide +kernel
theorem dX4_luck_24 : decode cX4_luck 24 = .ok (.invokevirtual 209, 3) := by decide +kernel
theorem dX4_luck_27 : decode cX4_luck 27 = .ok (.aload_n 0, 1) := by decide +kernel
theorem dX4_luck_28 : decode cX4_luck 28 = .ok (.getfield 25, 3) := by decide +kernel
theorem dX4_luck_31 : decode cX4_luck 31 = .ok (.invokevirtual 243, 3) := by decide +kernel
theorem dX4_luck_34 : decode cX4_luck 34 = .ok (.aload_n 0, 1) := by decide +kernel
theorem dX4_luck_35 : decode cX4_luck 35 = .ok (.getfield 25, 3) := by decide +kernel
theorem dX4_luck_38 : decode cX4_luck 38 = .ok (.invokevirtual 266, 3) := by decide +kernel
theorem dX4_luck_41 : decode cX4_luck 41 = .ok (.aload_n 0, 1) := by decide +kernel
theorem dX4_luck_42 : decode cX4_luck 42 = .ok (.getfield 25, 3) := by decide +kernel
theorem dX4_luck_45 : decode cX4_luck 45 = .ok (.aload_n 0, 1) := by decide +kernel
theorem dX4_luck_46 : decode cX4_luck 46 = .ok (.getfield 38, 3) := by decide +kernel
theorem dX4_luck_49 : decode cX4_luck 49 = .ok (.iload_n 1, 1) := by decide +kernel
theorem dX4_luck_50 : decode cX4_luck 50 = .ok (.aaload, 1) := by decide +kernel
theorem dX4_luck_51 : decode cX4_luck 51 = .ok (.iconst 0, 1) := by decide +kernel
theorem dX4_luck_52 : decode cX4_luck 52 = .ok (.invokestatic 262, 3) := by decide +kernel
theorem dX4_luck_55 : decode cX4_luck 55 = .ok (.invokevirtual 252, 3) := by decide +kernel
theorem dX4_luck_58 : decode cX4_luck 58 = .ok (.ireturn, 1) := by decide +kernel
theorem dX4_order_0 : decode cX4_order 0 = .ok (.iload_n 2, 1) := by decide +kernel
theorem dX4_order_1 : decode cX4_order 1 = .ok (.aload_n 0, 1) := by decide +kernel
theorem dX4_order_2 : decode cX4_order 2 = .ok (.getfield 12, 3) := by decide +kernel
theorem dX4_order_5 : decode cX4_order 5 = .ok (.getfield 123, 3) := by decide +kernel
theorem dX4_order_8 : decode cX4_order 8 = .ok (.iconst 1, 1) := by decide +kernel
theorem dX4_order_9 : decode cX4_order 9 = .ok (.isub, 1) := by decide +kernel
theorem dX4_order_10 : decode cX4_order 10 = .ok (.invokestatic 54, 3) := by decide +kernel
theorem dX4_order_13 : decode cX4_order 13 = .ok (.ifCond .ne 10, 3) := by decide +kernel
theorem dX4_order_16 : decode cX4_order 16 = .ok (.aload_n 0, 1) := by decide +kernel
theorem dX4_order_17 : decode cX4_order 17 = .ok (.bipush (-2), 2) := by decide +kernel
theorem dX4_order_19 : decode cX4_order 19 = .ok (.invokevirtual 58, 3) := by decide +kernel
theorem dX4_order_22 : decode cX4_order 22 = .ok (.ireturn, 1) := by decide +kernel
theorem dX4_order_23 : decode cX4_order 23 = .ok (.iconst 0, 1) := by decide +kernel
theorem dX4_order_24 : decode cX4_order 24 = .ok (.istore_n 3, 1) := by decide +kernel
theorem dX4_order_25 : decode cX4_order 25 = .ok (.aload_n 0, 1) := by decide +kernel
theorem dX4_order_26 : decode cX4_order 26 = .ok (.iconst 0, 1) := by decide +kernel
theorem dX4_order_27 : decode cX4_order 27 = .ok (.invokevirtual 269, 3) := by decide +kernel
theorem dX4_order_30 : decode cX4_order 30 = .ok (.lstore 4, 2) := by decide +kernel
theorem dX4_order_32 : decode cX4_order 32 = .ok (.iconst 1, 1) := by decide +kernel
theorem dX4_order_33 : decode cX4_order 33 = .ok (.istore 6, 2) := by decide +kernel
theorem dX4_order_35 : decode cX4_order 35 = .ok (.iload 6, 2) := by decide +kernel
theorem dX4_order_37 : decode cX4_order 37 = .ok (.getstatic 273, 3) := by decide +kernel
theorem dX4_order_40 : decode cX4_order 40 = .ok (.aload_n 0, 1) := by decide +kernel
theorem dX4_order_41 : decode cX4_order 41 = .ok (.getfield 12, 3) := by decide +kernel
theorem dX4_order_44 : decode cX4_order 44 = .ok (.getfield 123, 3) := by decide +kernel
theorem dX4_order_47 : decode cX4_order 47 = .ok (.iaload, 1) := by decide +kernel
theorem dX4_order_48 : decode cX4_order 48 = .ok (.if_icmp .ge 47, 3) := by decide +kernel
theorem dX4_order_51 : decode cX4_order 51 = .ok (.aload_n 0, 1) := by decide +kernel
theorem dX4_order_52 : decode cX4_order 52 = .ok (.iload 6, 2) := by decide +kernel
theorem dX4_order_54 : decode cX4_order 54 = .ok (.invokevirtual 269, 3) := by decide +kernel
theorem dX4_order_57 : decode cX4_order 57 = .ok (.lstore 7, 2) := by decide +kernel
theorem dX4_order_59 : decode cX4_order 59 = .ok (.iload_n 1, 1) := by decide +kernel
theorem dX4_order_60 : decode cX4_order 60 = .ok (.ifCond .eq 14, 3) := by decide +kernel
theorem dX4_order_63 : decode cX4_order 63 = .ok (.lload 7, 2) := by decide +kernel
theorem dX4_order_65 : decode cX4_order 65 = .ok (.lload 4, 2) := by decide +kernel
theorem dX4_order_67 : decode cX4_order 67 = .ok (.lcmp, 1) := by decide +kernel
theorem dX4_order_68 : decode cX4_order 68 = .ok (.ifCond .le 21, 3) := by decide +kernel
theorem dX4_order_71 : decode cX4_order 71 = .ok (.goto 11, 3) := by decide +kernel
theorem dX4_order_74 : decode cX4_order 74 = .ok (.lload 7, 2) := by decide +kernel
theorem dX4_order_76 : decode cX4_order 76 = .ok (.lload 4, 2) := by decide +kernel
theorem dX4_order_78 : decode cX4_order 78 = .ok (.lcmp, 1) := by decide +kernel
theorem dX4_order_79 : decode cX4_order 79 = .ok (.ifCond .ge 10, 3) := by decide +kernel
theorem dX4_order_82 : decode cX4_order 82 = .ok (.iload 6, 2) := by decide +kernel
theorem dX4_order_84 : decode cX4_order 84 = .ok (.istore_n 3, 1) := by decide +kernel
