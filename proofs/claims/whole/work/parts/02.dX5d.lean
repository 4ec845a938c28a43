theorem dX5_head_1 : decode cX5_head 1 = .ok (.istore_n 1, 1) := by decide +kernel
theorem dX5_head_2 : decode cX5_head 2 = .ok (.lconst 0, 1) := by decide +kernel
theorem dX5_head_3 : decode cX5_head 3 = .ok (.lstore_n 2, 1) := by decide +kernel
theorem dX5_head_4 : decode cX5_head 4 = .ok (.iconst 0, 1) := by decide +kernel
theorem dX5_head_5 : decode cX5_head 5 = .ok (.istore 4, 2) := by decide +kernel
theorem dX5_head_7 : decode cX5_head 7 = .ok (.iload 4, 2) := by decide +kernel
theorem dX5_head_9 : decode cX5_head 9 = .ok (.bipush 8, 2) := by decide +kernel
theorem dX5_head_11 : decode cX5_head 11 = .ok (.if_icmp .ge 58, 3) := by decide +kernel
theorem dX5_head_14 : decode cX5_head 14 = .ok (.aload_n 0, 1) := by decide +kernel
theorem dX5_head_15 : decode cX5_head 15 = .ok (.getfield 7, 3) := by decide +kernel
theorem dX5_head_18 : decode cX5_head 18 = .ok (.iload 4, 2) := by decide +kernel
theorem dX5_head_20 : decode cX5_head 20 = .ok (.iaload, 1) := by decide +kernel
theorem dX5_head_21 : decode cX5_head 21 = .ok (.iconst 2, 1) := by decide +kernel
theorem dX5_head_22 : decode cX5_head 22 = .ok (.if_icmp .ne 41, 3) := by decide +kernel
theorem dX5_head_25 : decode cX5_head 25 = .ok (.aload_n 0, 1) := by decide +kernel
theorem dX5_head_26 : decode cX5_head 26 = .ok (.aload_n 0, 1) := by decide +kernel
theorem dX5_head_27 : decode cX5_head 27 = .ok (.getfield 28, 3) := by decide +kernel
theorem dX5_head_30 : decode cX5_head 30 = .ok (.iload 4, 2) := by decide +kernel
theorem dX5_head_32 : decode cX5_head 32 = .ok (.iaload, 1) := by decide +kernel
theorem dX5_head_33 : decode cX5_head 33 = .ok (.aload_n 0, 1) := by decide +kernel
theorem dX5_head_34 : decode cX5_head 34 = .ok (.getfield 31, 3) := by decide +kernel
theorem dX5_head_37 : decode cX5_head 37 = .ok (.iload 4, 2) := by decide +kernel
theorem dX5_head_39 : decode cX5_head 39 = .ok (.iaload, 1) := by decide +kernel
theorem dX5_head_40 : decode cX5_head 40 = .ok (.invokevirtual 126, 3) := by decide +kernel
theorem dX5_head_43 : decode cX5_head 43 = .ok (.lstore 5, 2) := by decide +kernel
theorem dX5_head_45 : decode cX5_head 45 = .ok (.iload_n 1, 1) := by decide +kernel
theorem dX5_head_46 : decode cX5_head 46 = .ok (.iconst (-1), 1) := by decide +kernel
theorem dX5_head_47 : decode cX5_head 47 = .ok (.if_icmp .eq 10, 3) := by decide +kernel
theorem dX5_head_50 : decode cX5_head 50 = .ok (.lload 5, 2) := by decide +kernel
theorem dX5_head_52 : decode cX5_head 52 = .ok (.lload_n 2, 1) := by decide +kernel
theorem dX5_head_53 : decode cX5_head 53 = .ok (.lcmp, 1) := by decide +kernel
theorem dX5_head_54 : decode cX5_head 54 = .ok (.ifCond .le 9, 3) := by decide +kernel
theorem dX5_head_57 : decode cX5_head 57 = .ok (.iload 4, 2) := by decide +kernel
theorem dX5_head_59 : decode cX5_head 59 = .ok (.istore_n 1, 1) := by decide +kernel
theorem dX5_head_60 : decode cX5_head 60 = .ok (.lload 5, 2) := by decide +kernel
theorem dX5_head_62 : decode cX5_head 62 = .ok (.lstore_n 2, 1) := by decide +kernel
theorem dX5_head_63 : decode cX5_head 63 = .ok (.iinc 4 1, 3) := by decide +kernel
theorem dX5_head_66 : decode cX5_head 66 = .ok (.goto (-59), 3) := by decide +kernel
theorem dX5_head_69 : decode cX5_head 69 = .ok (.iload_n 1, 1) := by decide +kernel
theorem dX5_head_70 : decode cX5_head 70 = .ok (.iconst (-1), 1) := by decide +kernel
theorem dX5_head_71 : decode cX5_head 71 = .ok (.if_icmp .ne 12, 3) := by decide +kernel
theorem dX5_head_74 : decode cX5_head 74 = .ok (.aload_n 0, 1) := by decide +kernel
theorem dX5_head_75 : decode cX5_head 75 = .ok (.bipush (-5), 2) := by decide +kernel
theorem dX5_head_77 : decode cX5_head 77 = .ok (.invokevirtual 103, 3) := by decide +kernel
theorem dX5_head_80 : decode cX5_head 80 = .ok (.goto 4, 3) := by decide +kernel
theorem dX5_head_83 : decode cX5_head 83 = .ok (.iload_n 1, 1) := by decide +kernel
theorem dX5_head_84 : decode cX5_head 84 = .ok (.ireturn, 1) := by decide +kernel
theorem dX5_noRoom_0 : decode cX5_noRoom 0 = .ok (.aload_n 0, 1) := by decide +kernel
theorem dX5_noRoom_1 : decode cX5_noRoom 1 = .ok (.invokevirtual 276, 3) := by decide +kernel
theorem dX5_noRoom_4 : decode cX5_noRoom 4 = .ok (.iconst 0, 1) := by decide +kernel
theorem dX5_noRoom_5 : decode cX5_noRoom 5 = .ok (.istore_n 2, 1) := by decide +kernel
theorem dX5_noRoom_6 : decode cX5_noRoom 6 = .ok (.iconst 0, 1) := by decide +kernel
theorem dX5_noRoom_7 : decode cX5_noRoom 7 = .ok (.istore_n 3, 1) := by decide +kernel
theorem dX5_noRoom_8 : decode cX5_noRoom 8 = .ok (.iload_n 3, 1) := by decide +kernel
theorem dX5_noRoom_9 : decode cX5_noRoom 9 = .ok (.aload_n 0, 1) := by decide +kernel
theorem dX5_noRoom_10 : decode cX5_noRoom 10 = .ok (.getfield 16, 3) := by decide +kernel
theorem dX5_noRoom_13 : decode cX5_noRoom 13 = .ok (.iload_n 1, 1) := by decide +kernel
theorem dX5_noRoom_14 : decode cX5_noRoom 14 = .ok (.iaload, 1) := by decide +kernel
theorem dX5_noRoom_15 : decode cX5_noRoom 15 = .ok (.if_icmp .ge 75, 3) := by decide +kernel
theorem dX5_noRoom_18 : decode cX5_noRoom 18 = .ok (.aload_n 0, 1) := by decide +kernel
theorem dX5_noRoom_19 : decode cX5_noRoom 19 = .ok (.getfield 21, 3) := by decide +kernel
theorem dX5_noRoom_22 : decode cX5_noRoom 22 = .ok (.iload_n 1, 1) := by decide +kernel
theorem dX5_noRoom_23 : decode cX5_noRoom 23 = .ok (.aaload, 1) := by decide +kernel
theorem dX5_noRoom_24 : decode cX5_noRoom 24 = .ok (.iload_n 3, 1) := by decide +kernel
theorem dX5_noRoom_25 : decode cX5_noRoom 25 = .ok (.laload, 1) := by decide +kernel
theorem dX5_noRoom_26 : decode cX5_noRoom 26 = .ok (.lstore 4, 2) := by decide +kernel
theorem dX5_noRoom_28 : decode cX5_noRoom 28 = .ok (.lload 4, 2) := by decide +kernel
theorem dX5_noRoom_30 : decode cX5_noRoom 30 = .ok (.lconst 0, 1) := by decide +kernel
theorem dX5_noRoom_31 : decode cX5_noRoom 31 = .ok (.lconst 1, 1) := by decide +kernel
theorem dX5_noRoom_32 : decode cX5_noRoom 32 = .ok (.invokestatic 95, 3) := by decide +kernel
theorem dX5_noRoom_35 : decode cX5_noRoom 35 = .ok (.ifCond .eq 26, 3) := by decide +kernel
theorem dX5_noRoom_38 : decode cX5_noRoom 38 = .ok (.iload_n 3, 1) := by decide +kernel
theorem dX5_noRoom_39 : decode cX5_noRoom 39 = .ok (.aload_n 0, 1) := by decide +kernel
theorem dX5_noRoom_40 : decode cX5_noRoom 40 = .ok (.getfield 254, 3) := by decide +kernel
theorem dX5_noRoom_43 : decode cX5_noRoom 43 = .ok (.if_icmp .ge 18, 3) := by decide +kernel
theorem dX5_noRoom_46 : decode cX5_noRoom 46 = .ok (.iload_n 3, 1) := by decide +kernel
theorem dX5_noRoom_47 : decode cX5_noRoom 47 = .ok (.ifCond .ne 16, 3) := by decide +kernel
theorem dX5_noRoom_50 : decode cX5_noRoom 50 = .ok (.aload_n 0, 1) := by decide +kernel
theorem dX5_noRoom_51 : decode cX5_noRoom 51 = .ok (.getfield 66, 3) := by decide +kernel
theorem dX5_noRoom_54 : decode cX5_noRoom 54 = .ok (.iconst 0, 1) := by decide +kernel
theorem dX5_noRoom_55 : decode cX5_noRoom 55 = .ok (.aaload, 1) := by decide +kernel
theorem dX5_noRoom_56 : decode cX5_noRoom 56 = .ok (.iconst 0, 1) := by decide +kernel
theorem dX5_noRoom_57 : decode cX5_noRoom 57 = .ok (.baload, 1) := by decide +kernel
theorem dX5_noRoom_58 : decode cX5_noRoom 58 = .ok (.ifCond .ne 5, 3) := by decide +kernel
theorem dX5_noRoom_61 : decode cX5_noRoom 61 = .ok (.iload_n 3, 1) := by decide +kernel
theorem dX5_noRoom_62 : decode cX5_noRoom 62 = .ok (.ireturn, 1) := by decide +kernel
theorem dX5_noRoom_63 : decode cX5_noRoom 63 = .ok (.iload_n 2, 1) := by decide +kernel
theorem dX5_noRoom_64 : decode cX5_noRoom 64 = .ok (.lload 4, 2) := by decide +kernel
theorem dX5_noRoom_66 : decode cX5_noRoom 66 = .ok (.l2i, 1) := by decide +kernel
theorem dX5_noRoom_67 : decode cX5_noRoom 67 = .ok (.iadd, 1) := by decide +kernel
theorem dX5_noRoom_68 : decode cX5_noRoom 68 = .ok (.istore_n 2, 1) := by decide +kernel
theorem dX5_noRoom_69 : decode cX5_noRoom 69 = .ok (.aload_n 0, 1) := by decide +kernel
theorem dX5_noRoom_70 : decode cX5_noRoom 70 = .ok (.getfield 66, 3) := by decide +kernel
theorem dX5_noRoom_73 : decode cX5_noRoom 73 = .ok (.iload_n 3, 1) := by decide +kernel
theorem dX5_noRoom_74 : decode cX5_noRoom 74 = .ok (.iconst 1, 1) := by decide +kernel
theorem dX5_noRoom_75 : decode cX5_noRoom 75 = .ok (.iadd, 1) := by decide +kernel
theorem dX5_noRoom_76 : decode cX5_noRoom 76 = .ok (.aaload, 1) := by decide +kernel
theorem dX5_noRoom_77 : decode cX5_noRoom 77 = .ok (.iload_n 2, 1) := by decide +kernel
theorem dX5_noRoom_78 : decode cX5_noRoom 78 = .ok (.baload, 1) := by decide +kernel
theorem dX5_noRoom_79 : decode cX5_noRoom 79 = .ok (.ifCond .ne 5, 3) := by decide +kernel
theorem dX5_noRoom_82 : decode cX5_noRoom 82 = .ok (.iload_n 3, 1) := by decide +kernel
theorem dX5_noRoom_83 : decode cX5_noRoom 83 = .ok (.ireturn, 1) := by decide +kernel
theorem dX5_noRoom_84 : decode cX5_noRoom 84 = .ok (.iinc 3 1, 3) := by decide +kernel
theorem dX5_noRoom_87 : decode cX5_noRoom 87 = .ok (.goto (-79), 3) := by decide +kernel
theorem dX5_noRoom_90 : decode cX5_noRoom 90 = .ok (.iconst (-1), 1) := by decide +kernel
theorem dX5_noRoom_91 : decode cX5_noRoom 91 = .ok (.ireturn, 1) := by decide +kernel
theorem dX5_judge_0 : decode cX5_judge 0 = .ok (.aload_n 0, 1) := by decide +kernel
theorem dX5_judge_1 : decode cX5_judge 1 = .ok (.iload_n 1, 1) := by decide +kernel
theorem dX5_judge_2 : decode cX5_judge 2 = .ok (.invokevirtual 107, 3) := by decide +kernel
theorem dX5_judge_5 : decode cX5_judge 5 = .ok (.istore_n 2, 1) := by decide +kernel
theorem dX5_judge_6 : decode cX5_judge 6 = .ok (.iload_n 2, 1) := by decide +kernel
theorem dX5_judge_7 : decode cX5_judge 7 = .ok (.ifCond .eq 7, 3) := by decide +kernel
theorem dX5_judge_10 : decode cX5_judge 10 = .ok (.iload_n 2, 1) := by decide +kernel
theorem dX5_judge_11 : decode cX5_judge 11 = .ok (.goto 8, 3) := by decide +kernel
theorem dX5_judge_14 : decode cX5_judge 14 = .ok (.aload_n 0, 1) := by decide +kernel
theorem dX5_judge_15 : decode cX5_judge 15 = .ok (.iload_n 1, 1) := by decide +kernel
theorem dX5_judge_16 : decode cX5_judge 16 = .ok (.invokevirtual 330, 3) := by decide +kernel
theorem dX5_judge_19 : decode cX5_judge 19 = .ok (.ireturn, 1) := by decide +kernel
theorem dX5_noWhole_0 : decode cX5_noWhole 0 = .ok (.aload_n 0, 1) := by decide +kernel
theorem dX5_noWhole_1 : decode cX5_noWhole 1 = .ok (.iload_n 1, 1) := by decide +kernel
theorem dX5_noWhole_2 : decode cX5_noWhole 2 = .ok (.invokevirtual 107, 3) := by decide +kernel
theorem dX5_noWhole_5 : decode cX5_noWhole 5 = .ok (.istore_n 2, 1) := by decide +kernel
theorem dX5_noWhole_6 : decode cX5_noWhole 6 = .ok (.iload_n 2, 1) := by decide +kernel
theorem dX5_noWhole_7 : decode cX5_noWhole 7 = .ok (.ifCond .eq 5, 3) := by decide +kernel
theorem dX5_noWhole_10 : decode cX5_noWhole 10 = .ok (.iload_n 2, 1) := by decide +kernel
theorem dX5_noWhole_11 : decode cX5_noWhole 11 = .ok (.ireturn, 1) := by decide +kernel
theorem dX5_noWhole_12 : decode cX5_noWhole 12 = .ok (.aload_n 0, 1) := by decide +kernel
theorem dX5_noWhole_13 : decode cX5_noWhole 13 = .ok (.iload_n 1, 1) := by decide +kernel
theorem dX5_noWhole_14 : decode cX5_noWhole 14 = .ok (.invokevirtual 330, 3) := by decide +kernel
theorem dX5_noWhole_17 : decode cX5_noWhole 17 = .ok (.iconst (-1), 1) := by decide +kernel
theorem dX5_noWhole_18 : decode cX5_noWhole 18 = .ok (.if_icmp .ne 16, 3) := by decide +kernel
theorem dX5_noWhole_21 : decode cX5_noWhole 21 = .ok (.aload_n 0, 1) := by decide +kernel
theorem dX5_noWhole_22 : decode cX5_noWhole 22 = .ok (.getfield 16, 3) := by decide +kernel
theorem dX5_noWhole_25 : decode cX5_noWhole 25 = .ok (.iload_n 1, 1) := by decide +kernel
theorem dX5_noWhole_26 : decode cX5_noWhole 26 = .ok (.iaload, 1) := by decide +kernel
theorem dX5_noWhole_27 : decode cX5_noWhole 27 = .ok (.aload_n 0, 1) := by decide +kernel
theorem dX5_noWhole_28 : decode cX5_noWhole 28 = .ok (.getfield 254, 3) := by decide +kernel
theorem dX5_noWhole_31 : decode cX5_noWhole 31 = .ok (.if_icmp .eq 12, 3) := by decide +kernel
theorem dX5_noWhole_34 : decode cX5_noWhole 34 = .ok (.aload_n 0, 1) := by decide +kernel
theorem dX5_noWhole_35 : decode cX5_noWhole 35 = .ok (.bipush (-5), 2) := by decide +kernel
theorem dX5_noWhole_37 : decode cX5_noWhole 37 = .ok (.invokevirtual 103, 3) := by decide +kernel
theorem dX5_noWhole_40 : decode cX5_noWhole 40 = .ok (.goto 4, 3) := by decide +kernel
theorem dX5_noWhole_43 : decode cX5_noWhole 43 = .ok (.iconst 0, 1) := by decide +kernel
theorem dX5_noWhole_44 : decode cX5_noWhole 44 = .ok (.ireturn, 1) := by decide +kernel
theorem dX5_ofTold_0 : decode cX5_ofTold 0 = .ok (.iconst 0, 1) := by decide +kernel
theorem dX5_ofTold_1 : decode cX5_ofTold 1 = .ok (.istore_n 3, 1) := by decide +kernel
theorem dX5_ofTold_2 : decode cX5_ofTold 2 = .ok (.iconst 0, 1) := by decide +kernel
theorem dX5_ofTold_3 : decode cX5_ofTold 3 = .ok (.istore 4, 2) := by decide +kernel
theorem dX5_ofTold_5 : decode cX5_ofTold 5 = .ok (.iconst 0, 1) := by decide +kernel
theorem dX5_ofTold_6 : decode cX5_ofTold 6 = .ok (.istore 5, 2) := by decide +kernel
theorem dX5_ofTold_8 : decode cX5_ofTold 8 = .ok (.iconst 1, 1) := by decide +kernel
theorem dX5_ofTold_9 : decode cX5_ofTold 9 = .ok (.istore 6, 2) := by decide +kernel
theorem dX5_ofTold_11 : decode cX5_ofTold 11 = .ok (.iload 6, 2) := by decide +kernel
theorem dX5_ofTold_13 : decode cX5_ofTold 13 = .ok (.aload_n 0, 1) := by decide +kernel
theorem dX5_ofTold_14 : decode cX5_ofTold 14 = .ok (.getfield 254, 3) := by decide +kernel
theorem dX5_ofTold_17 : decode cX5_ofTold 17 = .ok (.if_icmp .gt 75, 3) := by decide +kernel
theorem dX5_ofTold_20 : decode cX5_ofTold 20 = .ok (.iload_n 3, 1) := by decide +kernel
theorem dX5_ofTold_21 : decode cX5_ofTold 21 = .ok (.aload_n 0, 1) := by decide +kernel
theorem dX5_ofTold_22 : decode cX5_ofTold 22 = .ok (.getfield 21, 3) := by decide +kernel
theorem dX5_ofTold_25 : decode cX5_ofTold 25 = .ok (.iload_n 1, 1) := by decide +kernel
theorem dX5_ofTold_26 : decode cX5_ofTold 26 = .ok (.aaload, 1) := by decide +kernel
theorem dX5_ofTold_27 : decode cX5_ofTold 27 = .ok (.iload 6, 2) := by decide +kernel
theorem dX5_ofTold_29 : decode cX5_ofTold 29 = .ok (.iconst 1, 1) := by decide +kernel
theorem dX5_ofTold_30 : decode cX5_ofTold 30 = .ok (.isub, 1) := by decide +kernel
theorem dX5_ofTold_31 : decode cX5_ofTold 31 = .ok (.laload, 1) := by decide +kernel
theorem dX5_ofTold_32 : decode cX5_ofTold 32 = .ok (.l2i, 1) := by decide +kernel
theorem dX5_ofTold_33 : decode cX5_ofTold 33 = .ok (.iadd, 1) := by decide +kernel
theorem dX5_ofTold_34 : decode cX5_ofTold 34 = .ok (.istore_n 3, 1) := by decide +kernel
theorem dX5_ofTold_35 : decode cX5_ofTold 35 = .ok (.iconst 2, 1) := by decide +kernel
theorem dX5_ofTold_36 : decode cX5_ofTold 36 = .ok (.iload_n 3, 1) := by decide +kernel
theorem dX5_ofTold_37 : decode cX5_ofTold 37 = .ok (.imul, 1) := by decide +kernel
theorem dX5_ofTold_38 : decode cX5_ofTold 38 = .ok (.iload 6, 2) := by decide +kernel
theorem dX5_ofTold_40 : decode cX5_ofTold 40 = .ok (.isub, 1) := by decide +kernel
theorem dX5_ofTold_41 : decode cX5_ofTold 41 = .ok (.istore 7, 2) := by decide +kernel
theorem dX5_ofTold_43 : decode cX5_ofTold 43 = .ok (.iload 4, 2) := by decide +kernel
theorem dX5_ofTold_45 : decode cX5_ofTold 45 = .ok (.iload_n 2, 1) := by decide +kernel
theorem dX5_ofTold_46 : decode cX5_ofTold 46 = .ok (.ifCond .ne 11, 3) := by decide +kernel
theorem dX5_ofTold_49 : decode cX5_ofTold 49 = .ok (.iload 7, 2) := by decide +kernel
theorem dX5_ofTold_51 : decode cX5_ofTold 51 = .ok (.ifCond .le 15, 3) := by decide +kernel
theorem dX5_ofTold_54 : decode cX5_ofTold 54 = .ok (.goto 8, 3) := by decide +kernel
theorem dX5_ofTold_57 : decode cX5_ofTold 57 = .ok (.iload 7, 2) := by decide +kernel
theorem dX5_ofTold_59 : decode cX5_ofTold 59 = .ok (.ifCond .ne 7, 3) := by decide +kernel
theorem dX5_ofTold_62 : decode cX5_ofTold 62 = .ok (.iconst 1, 1) := by decide +kernel
theorem dX5_ofTold_63 : decode cX5_ofTold 63 = .ok (.goto 4, 3) := by decide +kernel
theorem dX5_ofTold_66 : decode cX5_ofTold 66 = .ok (.iconst 0, 1) := by decide +kernel
theorem dX5_ofTold_67 : decode cX5_ofTold 67 = .ok (.iadd, 1) := by decide +kernel
theorem dX5_ofTold_68 : decode cX5_ofTold 68 = .ok (.istore 4, 2) := by decide +kernel
theorem dX5_ofTold_70 : decode cX5_ofTold 70 = .ok (.iload 7, 2) := by decide +kernel
theorem dX5_ofTold_72 : decode cX5_ofTold 72 = .ok (.iload 5, 2) := by decide +kernel
theorem dX5_ofTold_74 : decode cX5_ofTold 74 = .ok (.if_icmp .le 8, 3) := by decide +kernel
theorem dX5_ofTold_77 : decode cX5_ofTold 77 = .ok (.iload 7, 2) := by decide +kernel
theorem dX5_ofTold_79 : decode cX5_ofTold 79 = .ok (.goto 5, 3) := by decide +kernel
theorem dX5_ofTold_82 : decode cX5_ofTold 82 = .ok (.iload 5, 2) := by decide +kernel
theorem dX5_ofTold_84 : decode cX5_ofTold 84 = .ok (.istore 5, 2) := by decide +kernel
theorem dX5_ofTold_86 : decode cX5_ofTold 86 = .ok (.iinc 6 1, 3) := by decide +kernel
theorem dX5_ofTold_89 : decode cX5_ofTold 89 = .ok (.goto (-78), 3) := by decide +kernel
theorem dX5_ofTold_92 : decode cX5_ofTold 92 = .ok (.iload_n 2, 1) := by decide +kernel
theorem dX5_ofTold_93 : decode cX5_ofTold 93 = .ok (.iconst 2, 1) := by decide +kernel
theorem dX5_ofTold_94 : decode cX5_ofTold 94 = .ok (.if_icmp .ne 8, 3) := by decide +kernel
theorem dX5_ofTold_97 : decode cX5_ofTold 97 = .ok (.iload 5, 2) := by decide +kernel
theorem dX5_ofTold_99 : decode cX5_ofTold 99 = .ok (.goto 5, 3) := by decide +kernel
theorem dX5_ofTold_102 : decode cX5_ofTold 102 = .ok (.iload 4, 2) := by decide +kernel
theorem dX5_ofTold_104 : decode cX5_ofTold 104 = .ok (.ireturn, 1) := by decide +kernel
theorem dX5_told_0 : decode cX5_told 0 = .ok (.iload_n 2, 1) := by decide +kernel
theorem dX5_told_1 : decode cX5_told 1 = .ok (.i2l, 1) := by decide +kernel
theorem dX5_told_2 : decode cX5_told 2 = .ok (.lconst 0, 1) := by decide +kernel
theorem dX5_told_3 : decode cX5_told 3 = .ok (.ldc2_w 252, 3) := by decide +kernel
theorem dX5_told_6 : decode cX5_told 6 = .ok (.invokestatic 95, 3) := by decide +kernel
theorem dX5_told_9 : decode cX5_told 9 = .ok (.ifCond .ne 10, 3) := by decide +kernel
theorem dX5_told_12 : decode cX5_told 12 = .ok (.aload_n 0, 1) := by decide +kernel
theorem dX5_told_13 : decode cX5_told 13 = .ok (.bipush (-2), 2) := by decide +kernel
theorem dX5_told_15 : decode cX5_told 15 = .ok (.invokevirtual 103, 3) := by decide +kernel
theorem dX5_told_18 : decode cX5_told 18 = .ok (.ireturn, 1) := by decide +kernel
theorem dX5_told_19 : decode cX5_told 19 = .ok (.aload_n 0, 1) := by decide +kernel
theorem dX5_told_20 : decode cX5_told 20 = .ok (.iload_n 1, 1) := by decide +kernel
theorem dX5_told_21 : decode cX5_told 21 = .ok (.invokevirtual 333, 3) := by decide +kernel
theorem dX5_told_24 : decode cX5_told 24 = .ok (.istore_n 3, 1) := by decide +kernel
theorem dX5_told_25 : decode cX5_told 25 = .ok (.iload_n 3, 1) := by decide +kernel
theorem dX5_told_26 : decode cX5_told 26 = .ok (.ifCond .eq 7, 3) := by decide +kernel
theorem dX5_told_29 : decode cX5_told 29 = .ok (.iload_n 3, 1) := by decide +kernel
theorem dX5_told_30 : decode cX5_told 30 = .ok (.goto 9, 3) := by decide +kernel
theorem dX5_told_33 : decode cX5_told 33 = .ok (.aload_n 0, 1) := by decide +kernel
theorem dX5_told_34 : decode cX5_told 34 = .ok (.iload_n 1, 1) := by decide +kernel
theorem dX5_told_35 : decode cX5_told 35 = .ok (.iload_n 2, 1) := by decide +kernel
theorem dX5_told_36 : decode cX5_told 36 = .ok (.invokevirtual 336, 3) := by decide +kernel
theorem dX5_told_39 : decode cX5_told 39 = .ok (.ireturn, 1) := by decide +kernel
theorem dX5_luck_0 : decode cX5_luck 0 = .ok (.aload_n 0, 1) := by decide +kernel
theorem dX5_luck_1 : decode cX5_luck 1 = .ok (.iload_n 1, 1) := by decide +kernel
theorem dX5_luck_2 : decode cX5_luck 2 = .ok (.invokevirtual 333, 3) := by decide +kernel
theorem dX5_luck_5 : decode cX5_luck 5 = .ok (.istore_n 2, 1) := by decide +kernel
theorem dX5_luck_6 : decode cX5_luck 6 = .ok (.iload_n 2, 1) := by decide +kernel
theorem dX5_luck_7 : decode cX5_luck 7 = .ok (.ifCond .eq 5, 3) := by decide +kernel
theorem dX5_luck_10 : decode cX5_luck 10 = .ok (.iload_n 2, 1) := by decide +kernel
theorem dX5_luck_11 : decode cX5_luck 11 = .ok (.ireturn, 1) := by decide +kernel
theorem dX5_luck_12 : decode cX5_luck 12 = .ok (.aload_n 0, 1) := by decide +kernel
theorem dX5_luck_13 : decode cX5_luck 13 = .ok (.iload_n 1, 1) := by decide +kernel
theorem dX5_luck_14 : decode cX5_luck 14 = .ok (.iconst 0, 1) := by decide +kernel
theorem dX5_luck_15 : decode cX5_luck 15 = .ok (.invokevirtual 336, 3) := by decide +kernel
theorem dX5_luck_18 : decode cX5_luck 18 = .ok (.istore_n 3, 1) := by decide +kernel
theorem dX5_luck_19 : decode cX5_luck 19 = .ok (.aload_n 0, 1) := by decide +kernel
theorem dX5_luck_20 : decode cX5_luck 20 = .ok (.iconst 0, 1) := by decide +kernel
theorem dX5_luck_21 : decode cX5_luck 21 = .ok (.invokevirtual 296, 3) := by decide +kernel
theorem dX5_luck_24 : decode cX5_luck 24 = .ok (.lconst 0, 1) := by decide +kernel
theorem dX5_luck_25 : decode cX5_luck 25 = .ok (.lstore 4, 2) := by decide +kernel
theorem dX5_luck_27 : decode cX5_luck 27 = .ok (.iload_n 3, 1) := by decide +kernel
theorem dX5_luck_28 : decode cX5_luck 28 = .ok (.istore 6, 2) := by decide +kernel
theorem dX5_luck_30 : decode cX5_luck 30 = .ok (.iload 6, 2) := by decide +kernel
theorem dX5_luck_32 : decode cX5_luck 32 = .ok (.aload_n 0, 1) := by decide +kernel
theorem dX5_luck_33 : decode cX5_luck 33 = .ok (.getfield 254, 3) := by decide +kernel
theorem dX5_luck_36 : decode cX5_luck 36 = .ok (.if_icmp .gt 20, 3) := by decide +kernel
theorem dX5_luck_39 : decode cX5_luck 39 = .ok (.lload 4, 2) := by decide +kernel
theorem dX5_luck_41 : decode cX5_luck 41 = .ok (.aload_n 0, 1) := by decide +kernel
theorem dX5_luck_42 : decode cX5_luck 42 = .ok (.iload 6, 2) := by decide +kernel
theorem dX5_luck_44 : decode cX5_luck 44 = .ok (.invokevirtual 300, 3) := by decide +kernel
theorem dX5_luck_47 : decode cX5_luck 47 = .ok (.ladd, 1) := by decide +kernel
theorem dX5_luck_48 : decode cX5_luck 48 = .ok (.lstore 4, 2) := by decide +kernel
theorem dX5_luck_50 : decode cX5_luck 50 = .ok (.iinc 6 1, 3) := by decide +kernel
theorem dX5_luck_53 : decode cX5_luck 53 = .ok (.goto (-23), 3) := by decide +kernel
theorem dX5_luck_56 : decode cX5_luck 56 = .ok (.lload 4, 2) := by decide +kernel
theorem dX5_luck_58 : decode cX5_luck 58 = .ok (.l2i, 1) := by decide +kernel
theorem dX5_luck_59 : decode cX5_luck 59 = .ok (.ireturn, 1) := by decide +kernel
theorem dX5_seek_0 : decode cX5_seek 0 = .ok (.iload_n 1, 1) := by decide +kernel
theorem dX5_seek_1 : decode cX5_seek 1 = .ok (.aload_n 0, 1) := by decide +kernel
theorem dX5_seek_2 : decode cX5_seek 2 = .ok (.getfield 130, 3) := by decide +kernel
theorem dX5_seek_5 : decode cX5_seek 5 = .ok (.if_icmp .ne 123, 3) := by decide +kernel
theorem dX5_seek_8 : decode cX5_seek 8 = .ok (.iconst 0, 1) := by decide +kernel
theorem dX5_seek_9 : decode cX5_seek 9 = .ok (.istore 4, 2) := by decide +kernel
theorem dX5_seek_11 : decode cX5_seek 11 = .ok (.iload 4, 2) := by decide +kernel
theorem dX5_seek_13 : decode cX5_seek 13 = .ok (.aload_n 0, 1) := by decide +kernel
theorem dX5_seek_14 : decode cX5_seek 14 = .ok (.getfield 130, 3) := by decide +kernel
theorem dX5_seek_17 : decode cX5_seek 17 = .ok (.if_icmp .ge 23, 3) := by decide +kernel
theorem dX5_seek_20 : decode cX5_seek 20 = .ok (.aload_n 0, 1) := by decide +kernel
theorem dX5_seek_21 : decode cX5_seek 21 = .ok (.getfield 46, 3) := by decide +kernel
theorem dX5_seek_24 : decode cX5_seek 24 = .ok (.iload 4, 2) := by decide +kernel
theorem dX5_seek_26 : decode cX5_seek 26 = .ok (.aload_n 0, 1) := by decide +kernel
theorem dX5_seek_27 : decode cX5_seek 27 = .ok (.getfield 87, 3) := by decide +kernel
theorem dX5_seek_30 : decode cX5_seek 30 = .ok (.iload 4, 2) := by decide +kernel
theorem dX5_seek_32 : decode cX5_seek 32 = .ok (.iaload, 1) := by decide +kernel
theorem dX5_seek_33 : decode cX5_seek 33 = .ok (.iastore, 1) := by decide +kernel
theorem dX5_seek_34 : decode cX5_seek 34 = .ok (.iinc 4 1, 3) := by decide +kernel
theorem dX5_seek_37 : decode cX5_seek 37 = .ok (.goto (-26), 3) := by decide +kernel
theorem dX5_seek_40 : decode cX5_seek 40 = .ok (.aload_n 0, 1) := by decide +kernel
theorem dX5_seek_41 : decode cX5_seek 41 = .ok (.invokevirtual 263, 3) := by decide +kernel
theorem dX5_seek_44 : decode cX5_seek 44 = .ok (.aload_n 0, 1) := by decide +kernel
theorem dX5_seek_45 : decode cX5_seek 45 = .ok (.invokevirtual 316, 3) := by decide +kernel
theorem dX5_seek_48 : decode cX5_seek 48 = .ok (.lstore 4, 2) := by decide +kernel
theorem dX5_seek_50 : decode cX5_seek 50 = .ok (.aload_n 0, 1) := by decide +kernel
theorem dX5_seek_51 : decode cX5_seek 51 = .ok (.getfield 340, 3) := by decide +kernel
theorem dX5_seek_54 : decode cX5_seek 54 = .ok (.ifCond .ne 30, 3) := by decide +kernel
theorem dX5_seek_57 : decode cX5_seek 57 = .ok (.iload_n 3, 1) := by decide +kernel
theorem dX5_seek_58 : decode cX5_seek 58 = .ok (.ifCond .eq 16, 3) := by decide +kernel
theorem dX5_seek_61 : decode cX5_seek 61 = .ok (.lload 4, 2) := by decide +kernel
theorem dX5_seek_63 : decode cX5_seek 63 = .ok (.aload_n 0, 1) := by decide +kernel
theorem dX5_seek_64 : decode cX5_seek 64 = .ok (.getfield 344, 3) := by decide +kernel
theorem dX5_seek_67 : decode cX5_seek 67 = .ok (.lcmp, 1) := by decide +kernel
theorem dX5_seek_68 : decode cX5_seek 68 = .ok (.ifCond .le 59, 3) := by decide +kernel
theorem dX5_seek_71 : decode cX5_seek 71 = .ok (.goto 13, 3) := by decide +kernel
theorem dX5_seek_74 : decode cX5_seek 74 = .ok (.lload 4, 2) := by decide +kernel
theorem dX5_seek_76 : decode cX5_seek 76 = .ok (.aload_n 0, 1) := by decide +kernel
theorem dX5_seek_77 : decode cX5_seek 77 = .ok (.getfield 344, 3) := by decide +kernel
theorem dX5_seek_80 : decode cX5_seek 80 = .ok (.lcmp, 1) := by decide +kernel
theorem dX5_seek_81 : decode cX5_seek 81 = .ok (.ifCond .ge 46, 3) := by decide +kernel
theorem dX5_seek_84 : decode cX5_seek 84 = .ok (.aload_n 0, 1) := by decide +kernel
theorem dX5_seek_85 : decode cX5_seek 85 = .ok (.iconst 0, 1) := by decide +kernel
theorem dX5_seek_86 : decode cX5_seek 86 = .ok (.putfield 340, 3) := by decide +kernel
theorem dX5_seek_89 : decode cX5_seek 89 = .ok (.aload_n 0, 1) := by decide +kernel
theorem dX5_seek_90 : decode cX5_seek 90 = .ok (.lload 4, 2) := by decide +kernel
theorem dX5_seek_92 : decode cX5_seek 92 = .ok (.putfield 344, 3) := by decide +kernel
theorem dX5_seek_95 : decode cX5_seek 95 = .ok (.iconst 0, 1) := by decide +kernel
theorem dX5_seek_96 : decode cX5_seek 96 = .ok (.istore 6, 2) := by decide +kernel
theorem dX5_seek_98 : decode cX5_seek 98 = .ok (.iload 6, 2) := by decide +kernel
theorem dX5_seek_100 : decode cX5_seek 100 = .ok (.aload_n 0, 1) := by decide +kernel
theorem dX5_seek_101 : decode cX5_seek 101 = .ok (.getfield 130, 3) := by decide +kernel
theorem dX5_seek_104 : decode cX5_seek 104 = .ok (.if_icmp .ge 23, 3) := by decide +kernel
theorem dX5_seek_107 : decode cX5_seek 107 = .ok (.aload_n 0, 1) := by decide +kernel
theorem dX5_seek_108 : decode cX5_seek 108 = .ok (.getfield 90, 3) := by decide +kernel
theorem dX5_seek_111 : decode cX5_seek 111 = .ok (.iload 6, 2) := by decide +kernel
theorem dX5_seek_113 : decode cX5_seek 113 = .ok (.aload_n 0, 1) := by decide +kernel
theorem dX5_seek_114 : decode cX5_seek 114 = .ok (.getfield 87, 3) := by decide +kernel
theorem dX5_seek_117 : decode cX5_seek 117 = .ok (.iload 6, 2) := by decide +kernel
theorem dX5_seek_119 : decode cX5_seek 119 = .ok (.iaload, 1) := by decide +kernel
theorem dX5_seek_120 : decode cX5_seek 120 = .ok (.iastore, 1) := by decide +kernel
theorem dX5_seek_121 : decode cX5_seek 121 = .ok (.iinc 6 1, 3) := by decide +kernel
theorem dX5_seek_124 : decode cX5_seek 124 = .ok (.goto (-26), 3) := by decide +kernel
theorem dX5_seek_127 : decode cX5_seek 127 = .ok (.return_, 1) := by decide +kernel
theorem dX5_seek_128 : decode cX5_seek 128 = .ok (.iconst 0, 1) := by decide +kernel
theorem dX5_seek_129 : decode cX5_seek 129 = .ok (.istore 4, 2) := by decide +kernel
theorem dX5_seek_131 : decode cX5_seek 131 = .ok (.iload 4, 2) := by decide +kernel
theorem dX5_seek_133 : decode cX5_seek 133 = .ok (.aload_n 0, 1) := by decide +kernel
theorem dX5_seek_134 : decode cX5_seek 134 = .ok (.getfield 130, 3) := by decide +kernel
theorem dX5_seek_137 : decode cX5_seek 137 = .ok (.if_icmp .ge 40, 3) := by decide +kernel
theorem dX5_seek_140 : decode cX5_seek 140 = .ok (.iload_n 2, 1) := by decide +kernel
theorem dX5_seek_141 : decode cX5_seek 141 = .ok (.iload 4, 2) := by decide +kernel
theorem dX5_seek_143 : decode cX5_seek 143 = .ok (.ishr, 1) := by decide +kernel
theorem dX5_seek_144 : decode cX5_seek 144 = .ok (.iconst 1, 1) := by decide +kernel
theorem dX5_seek_145 : decode cX5_seek 145 = .ok (.iand, 1) := by decide +kernel
theorem dX5_seek_146 : decode cX5_seek 146 = .ok (.ifCond .ne 25, 3) := by decide +kernel
theorem dX5_seek_149 : decode cX5_seek 149 = .ok (.aload_n 0, 1) := by decide +kernel
theorem dX5_seek_150 : decode cX5_seek 150 = .ok (.getfield 87, 3) := by decide +kernel
theorem dX5_seek_153 : decode cX5_seek 153 = .ok (.iload_n 1, 1) := by decide +kernel
theorem dX5_seek_154 : decode cX5_seek 154 = .ok (.iload 4, 2) := by decide +kernel
theorem dX5_seek_156 : decode cX5_seek 156 = .ok (.iastore, 1) := by decide +kernel
theorem dX5_seek_157 : decode cX5_seek 157 = .ok (.aload_n 0, 1) := by decide +kernel
theorem dX5_seek_158 : decode cX5_seek 158 = .ok (.iload_n 1, 1) := by decide +kernel
theorem dX5_seek_159 : decode cX5_seek 159 = .ok (.iconst 1, 1) := by decide +kernel
theorem dX5_seek_160 : decode cX5_seek 160 = .ok (.iadd, 1) := by decide +kernel
theorem dX5_seek_161 : decode cX5_seek 161 = .ok (.iload_n 2, 1) := by decide +kernel
theorem dX5_seek_162 : decode cX5_seek 162 = .ok (.iconst 1, 1) := by decide +kernel
theorem dX5_seek_163 : decode cX5_seek 163 = .ok (.iload 4, 2) := by decide +kernel
theorem dX5_seek_165 : decode cX5_seek 165 = .ok (.ishl, 1) := by decide +kernel
theorem dX5_seek_166 : decode cX5_seek 166 = .ok (.ior, 1) := by decide +kernel
theorem dX5_seek_167 : decode cX5_seek 167 = .ok (.iload_n 3, 1) := by decide +kernel
theorem dX5_seek_168 : decode cX5_seek 168 = .ok (.invokevirtual 348, 3) := by decide +kernel
theorem dX5_seek_171 : decode cX5_seek 171 = .ok (.iinc 4 1, 3) := by decide +kernel
theorem dX5_seek_174 : decode cX5_seek 174 = .ok (.goto (-43), 3) := by decide +kernel
theorem dX5_seek_177 : decode cX5_seek 177 = .ok (.return_, 1) := by decide +kernel
theorem dX5_order_0 : decode cX5_order 0 = .ok (.iload_n 2, 1) := by decide +kernel
theorem dX5_order_1 : decode cX5_order 1 = .ok (.i2l, 1) := by decide +kernel
theorem dX5_order_2 : decode cX5_order 2 = .ok (.lconst 0, 1) := by decide +kernel
theorem dX5_order_3 : decode cX5_order 3 = .ok (.aload_n 0, 1) := by decide +kernel
theorem dX5_order_4 : decode cX5_order 4 = .ok (.getfield 130, 3) := by decide +kernel
theorem dX5_order_7 : decode cX5_order 7 = .ok (.iconst 1, 1) := by decide +kernel
theorem dX5_order_8 : decode cX5_order 8 = .ok (.isub, 1) := by decide +kernel
theorem dX5_order_9 : decode cX5_order 9 = .ok (.i2l, 1) := by decide +kernel
theorem dX5_order_10 : decode cX5_order 10 = .ok (.invokestatic 95, 3) := by decide +kernel
theorem dX5_order_13 : decode cX5_order 13 = .ok (.ifCond .ne 10, 3) := by decide +kernel
theorem dX5_order_16 : decode cX5_order 16 = .ok (.aload_n 0, 1) := by decide +kernel
theorem dX5_order_17 : decode cX5_order 17 = .ok (.bipush (-2), 2) := by decide +kernel
theorem dX5_order_19 : decode cX5_order 19 = .ok (.invokevirtual 103, 3) := by decide +kernel
theorem dX5_order_22 : decode cX5_order 22 = .ok (.ireturn, 1) := by decide +kernel
theorem dX5_order_23 : decode cX5_order 23 = .ok (.aload_n 0, 1) := by decide +kernel
theorem dX5_order_24 : decode cX5_order 24 = .ok (.invokevirtual 241, 3) := by decide +kernel
theorem dX5_order_27 : decode cX5_order 27 = .ok (.astore_n 3, 1) := by decide +kernel
theorem dX5_order_28 : decode cX5_order 28 = .ok (.aload_n 3, 1) := by decide +kernel
theorem dX5_order_29 : decode cX5_order 29 = .ok (.iconst 1, 1) := by decide +kernel
theorem dX5_order_30 : decode cX5_order 30 = .ok (.putfield 340, 3) := by decide +kernel
theorem dX5_order_33 : decode cX5_order 33 = .ok (.aload_n 3, 1) := by decide +kernel
theorem dX5_order_34 : decode cX5_order 34 = .ok (.iconst 0, 1) := by decide +kernel
theorem dX5_order_35 : decode cX5_order 35 = .ok (.iconst 0, 1) := by decide +kernel
theorem dX5_order_36 : decode cX5_order 36 = .ok (.iload_n 1, 1) := by decide +kernel
theorem dX5_order_37 : decode cX5_order 37 = .ok (.invokevirtual 348, 3) := by decide +kernel
theorem dX5_order_40 : decode cX5_order 40 = .ok (.aload_n 3, 1) := by decide +kernel
theorem dX5_order_41 : decode cX5_order 41 = .ok (.getfield 90, 3) := by decide +kernel
theorem dX5_order_44 : decode cX5_order 44 = .ok (.iload_n 2, 1) := by decide +kernel
theorem dX5_order_45 : decode cX5_order 45 = .ok (.iaload, 1) := by decide +kernel
theorem dX5_order_46 : decode cX5_order 46 = .ok (.ireturn, 1) := by decide +kernel
theorem dX5_lost_0 : decode cX5_lost 0 = .ok (.iload_n 1, 1) := by decide +kernel
theorem dX5_lost_1 : decode cX5_lost 1 = .ok (.i2l, 1) := by decide +kernel
theorem dX5_lost_2 : decode cX5_lost 2 = .ok (.lconst 0, 1) := by decide +kernel
theorem dX5_lost_3 : decode cX5_lost 3 = .ok (.ldc2_w 352, 3) := by decide +kernel
theorem dX5_lost_6 : decode cX5_lost 6 = .ok (.invokestatic 95, 3) := by decide +kernel
theorem dX5_lost_9 : decode cX5_lost 9 = .ok (.ifCond .ne 10, 3) := by decide +kernel
theorem dX5_lost_12 : decode cX5_lost 12 = .ok (.aload_n 0, 1) := by decide +kernel
theorem dX5_lost_13 : decode cX5_lost 13 = .ok (.bipush (-2), 2) := by decide +kernel
theorem dX5_lost_15 : decode cX5_lost 15 = .ok (.invokevirtual 103, 3) := by decide +kernel
theorem dX5_lost_18 : decode cX5_lost 18 = .ok (.ireturn, 1) := by decide +kernel
theorem dX5_lost_19 : decode cX5_lost 19 = .ok (.iconst 2, 1) := by decide +kernel
theorem dX5_lost_20 : decode cX5_lost 20 = .ok (.aload_n 0, 1) := by decide +kernel
theorem dX5_lost_21 : decode cX5_lost 21 = .ok (.invokevirtual 133, 3) := by decide +kernel
theorem dX5_lost_24 : decode cX5_lost 24 = .ok (.imul, 1) := by decide +kernel
theorem dX5_lost_25 : decode cX5_lost 25 = .ok (.aload_n 0, 1) := by decide +kernel
theorem dX5_lost_26 : decode cX5_lost 26 = .ok (.invokevirtual 140, 3) := by decide +kernel
theorem dX5_lost_29 : decode cX5_lost 29 = .ok (.isub, 1) := by decide +kernel
theorem dX5_lost_30 : decode cX5_lost 30 = .ok (.istore_n 2, 1) := by decide +kernel
theorem dX5_lost_31 : decode cX5_lost 31 = .ok (.iload_n 2, 1) := by decide +kernel
theorem dX5_lost_32 : decode cX5_lost 32 = .ok (.ifCond .ge 8, 3) := by decide +kernel
theorem dX5_lost_35 : decode cX5_lost 35 = .ok (.iload_n 2, 1) := by decide +kernel
theorem dX5_lost_36 : decode cX5_lost 36 = .ok (.ineg, 1) := by decide +kernel
theorem dX5_lost_37 : decode cX5_lost 37 = .ok (.goto 4, 3) := by decide +kernel
theorem dX5_lost_40 : decode cX5_lost 40 = .ok (.iload_n 2, 1) := by decide +kernel
theorem dX5_lost_41 : decode cX5_lost 41 = .ok (.istore_n 3, 1) := by decide +kernel
theorem dX5_lost_42 : decode cX5_lost 42 = .ok (.lconst 1, 1) := by decide +kernel
theorem dX5_lost_43 : decode cX5_lost 43 = .ok (.lstore 4, 2) := by decide +kernel
theorem dX5_lost_45 : decode cX5_lost 45 = .ok (.lconst 0, 1) := by decide +kernel
theorem dX5_lost_46 : decode cX5_lost 46 = .ok (.lstore 6, 2) := by decide +kernel
theorem dX5_lost_48 : decode cX5_lost 48 = .ok (.iconst 0, 1) := by decide +kernel
theorem dX5_lost_49 : decode cX5_lost 49 = .ok (.istore 8, 2) := by decide +kernel
theorem dX5_lost_51 : decode cX5_lost 51 = .ok (.iload 8, 2) := by decide +kernel
theorem dX5_lost_53 : decode cX5_lost 53 = .ok (.iload_n 1, 1) := by decide +kernel
theorem dX5_lost_54 : decode cX5_lost 54 = .ok (.if_icmp .gt 63, 3) := by decide +kernel
theorem dX5_lost_57 : decode cX5_lost 57 = .ok (.iload_n 3, 1) := by decide +kernel
theorem dX5_lost_58 : decode cX5_lost 58 = .ok (.iconst 2, 1) := by decide +kernel
theorem dX5_lost_59 : decode cX5_lost 59 = .ok (.iload 8, 2) := by decide +kernel
theorem dX5_lost_61 : decode cX5_lost 61 = .ok (.imul, 1) := by decide +kernel
theorem dX5_lost_62 : decode cX5_lost 62 = .ok (.iadd, 1) := by decide +kernel
theorem dX5_lost_63 : decode cX5_lost 63 = .ok (.iload_n 1, 1) := by decide +kernel
theorem dX5_lost_64 : decode cX5_lost 64 = .ok (.isub, 1) := by decide +kernel
theorem dX5_lost_65 : decode cX5_lost 65 = .ok (.istore 9, 2) := by decide +kernel
theorem dX5_lost_67 : decode cX5_lost 67 = .ok (.lload 6, 2) := by decide +kernel
theorem dX5_lost_69 : decode cX5_lost 69 = .ok (.iload_n 3, 1) := by decide +kernel
theorem dX5_lost_70 : decode cX5_lost 70 = .ok (.ifCond .ne 11, 3) := by decide +kernel
theorem dX5_lost_73 : decode cX5_lost 73 = .ok (.iload 9, 2) := by decide +kernel
theorem dX5_lost_75 : decode cX5_lost 75 = .ok (.ifCond .le 16, 3) := by decide +kernel
theorem dX5_lost_78 : decode cX5_lost 78 = .ok (.goto 8, 3) := by decide +kernel
theorem dX5_lost_81 : decode cX5_lost 81 = .ok (.iload 9, 2) := by decide +kernel
theorem dX5_lost_83 : decode cX5_lost 83 = .ok (.ifCond .gt 8, 3) := by decide +kernel
theorem dX5_lost_86 : decode cX5_lost 86 = .ok (.lload 4, 2) := by decide +kernel
theorem dX5_lost_88 : decode cX5_lost 88 = .ok (.goto 4, 3) := by decide +kernel
theorem dX5_lost_91 : decode cX5_lost 91 = .ok (.lconst 0, 1) := by decide +kernel
theorem dX5_lost_92 : decode cX5_lost 92 = .ok (.ladd, 1) := by decide +kernel
theorem dX5_lost_93 : decode cX5_lost 93 = .ok (.lstore 6, 2) := by decide +kernel
theorem dX5_lost_95 : decode cX5_lost 95 = .ok (.lload 4, 2) := by decide +kernel
theorem dX5_lost_97 : decode cX5_lost 97 = .ok (.iload_n 1, 1) := by decide +kernel
theorem dX5_lost_98 : decode cX5_lost 98 = .ok (.iload 8, 2) := by decide +kernel
theorem dX5_lost_100 : decode cX5_lost 100 = .ok (.isub, 1) := by decide +kernel
theorem dX5_lost_101 : decode cX5_lost 101 = .ok (.i2l, 1) := by decide +kernel
theorem dX5_lost_102 : decode cX5_lost 102 = .ok (.lmul, 1) := by decide +kernel
theorem dX5_lost_103 : decode cX5_lost 103 = .ok (.iload 8, 2) := by decide +kernel
theorem dX5_lost_105 : decode cX5_lost 105 = .ok (.iconst 1, 1) := by decide +kernel
theorem dX5_lost_106 : decode cX5_lost 106 = .ok (.iadd, 1) := by decide +kernel
theorem dX5_lost_107 : decode cX5_lost 107 = .ok (.i2l, 1) := by decide +kernel
theorem dX5_lost_108 : decode cX5_lost 108 = .ok (.ldiv, 1) := by decide +kernel
theorem dX5_lost_109 : decode cX5_lost 109 = .ok (.lstore 4, 2) := by decide +kernel
theorem dX5_lost_111 : decode cX5_lost 111 = .ok (.iinc 8 1, 3) := by decide +kernel
theorem dX5_lost_114 : decode cX5_lost 114 = .ok (.goto (-63), 3) := by decide +kernel
theorem dX5_lost_117 : decode cX5_lost 117 = .ok (.lload 6, 2) := by decide +kernel
theorem dX5_lost_119 : decode cX5_lost 119 = .ok (.l2i, 1) := by decide +kernel
theorem dX5_lost_120 : decode cX5_lost 120 = .ok (.ireturn, 1) := by decide +kernel
theorem dX5_noBooks_0 : decode cX5_noBooks 0 = .ok (.aload_n 0, 1) := by decide +kernel
theorem dX5_noBooks_1 : decode cX5_noBooks 1 = .ok (.iload_n 1, 1) := by decide +kernel
theorem dX5_noBooks_2 : decode cX5_noBooks 2 = .ok (.iload_n 2, 1) := by decide +kernel
theorem dX5_noBooks_3 : decode cX5_noBooks 3 = .ok (.iconst 0, 1) := by decide +kernel
theorem dX5_noBooks_4 : decode cX5_noBooks 4 = .ok (.invokevirtual 114, 3) := by decide +kernel
theorem dX5_noBooks_7 : decode cX5_noBooks 7 = .ok (.istore_n 3, 1) := by decide +kernel
theorem dX5_noBooks_8 : decode cX5_noBooks 8 = .ok (.iload_n 3, 1) := by decide +kernel
theorem dX5_noBooks_9 : decode cX5_noBooks 9 = .ok (.ifCond .eq 5, 3) := by decide +kernel
theorem dX5_noBooks_12 : decode cX5_noBooks 12 = .ok (.iload_n 3, 1) := by decide +kernel
theorem dX5_noBooks_13 : decode cX5_noBooks 13 = .ok (.ireturn, 1) := by decide +kernel
theorem dX5_noBooks_14 : decode cX5_noBooks 14 = .ok (.aload_n 0, 1) := by decide +kernel
theorem dX5_noBooks_15 : decode cX5_noBooks 15 = .ok (.getfield 16, 3) := by decide +kernel
theorem dX5_noBooks_18 : decode cX5_noBooks 18 = .ok (.iload_n 1, 1) := by decide +kernel
theorem dX5_noBooks_19 : decode cX5_noBooks 19 = .ok (.iaload, 1) := by decide +kernel
theorem dX5_noBooks_20 : decode cX5_noBooks 20 = .ok (.aload_n 0, 1) := by decide +kernel
theorem dX5_noBooks_21 : decode cX5_noBooks 21 = .ok (.invokevirtual 140, 3) := by decide +kernel
theorem dX5_noBooks_24 : decode cX5_noBooks 24 = .ok (.if_icmp .ne 16, 3) := by decide +kernel
theorem dX5_noBooks_27 : decode cX5_noBooks 27 = .ok (.aload_n 0, 1) := by decide +kernel
theorem dX5_noBooks_28 : decode cX5_noBooks 28 = .ok (.getfield 16, 3) := by decide +kernel
theorem dX5_noBooks_31 : decode cX5_noBooks 31 = .ok (.iload_n 2, 1) := by decide +kernel
theorem dX5_noBooks_32 : decode cX5_noBooks 32 = .ok (.iaload, 1) := by decide +kernel
theorem dX5_noBooks_33 : decode cX5_noBooks 33 = .ok (.aload_n 0, 1) := by decide +kernel
theorem dX5_noBooks_34 : decode cX5_noBooks 34 = .ok (.invokevirtual 140, 3) := by decide +kernel
theorem dX5_noBooks_37 : decode cX5_noBooks 37 = .ok (.if_icmp .eq 12, 3) := by decide +kernel
theorem dX5_noBooks_40 : decode cX5_noBooks 40 = .ok (.aload_n 0, 1) := by decide +kernel
theorem dX5_noBooks_41 : decode cX5_noBooks 41 = .ok (.bipush (-2), 2) := by decide +kernel
theorem dX5_noBooks_43 : decode cX5_noBooks 43 = .ok (.invokevirtual 103, 3) := by decide +kernel
theorem dX5_noBooks_46 : decode cX5_noBooks 46 = .ok (.goto 4, 3) := by decide +kernel
theorem dX5_noBooks_49 : decode cX5_noBooks 49 = .ok (.iconst 0, 1) := by decide +kernel
theorem dX5_noBooks_50 : decode cX5_noBooks 50 = .ok (.ireturn, 1) := by decide +kernel
theorem dX5_unlikeAt_0 : decode cX5_unlikeAt 0 = .ok (.iconst 0, 1) := by decide +kernel
theorem dX5_unlikeAt_1 : decode cX5_unlikeAt 1 = .ok (.istore_n 3, 1) := by decide +kernel
theorem dX5_unlikeAt_2 : decode cX5_unlikeAt 2 = .ok (.iload_n 3, 1) := by decide +kernel
theorem dX5_unlikeAt_3 : decode cX5_unlikeAt 3 = .ok (.aload_n 0, 1) := by decide +kernel
theorem dX5_unlikeAt_4 : decode cX5_unlikeAt 4 = .ok (.getfield 16, 3) := by decide +kernel
theorem dX5_unlikeAt_7 : decode cX5_unlikeAt 7 = .ok (.iload_n 1, 1) := by decide +kernel
theorem dX5_unlikeAt_8 : decode cX5_unlikeAt 8 = .ok (.iaload, 1) := by decide +kernel
theorem dX5_unlikeAt_9 : decode cX5_unlikeAt 9 = .ok (.if_icmp .ge 63, 3) := by decide +kernel
theorem dX5_unlikeAt_12 : decode cX5_unlikeAt 12 = .ok (.aload_n 0, 1) := by decide +kernel
theorem dX5_unlikeAt_13 : decode cX5_unlikeAt 13 = .ok (.getfield 21, 3) := by decide +kernel
theorem dX5_unlikeAt_16 : decode cX5_unlikeAt 16 = .ok (.iload_n 1, 1) := by decide +kernel
theorem dX5_unlikeAt_17 : decode cX5_unlikeAt 17 = .ok (.aaload, 1) := by decide +kernel
theorem dX5_unlikeAt_18 : decode cX5_unlikeAt 18 = .ok (.iload_n 3, 1) := by decide +kernel
theorem dX5_unlikeAt_19 : decode cX5_unlikeAt 19 = .ok (.laload, 1) := by decide +kernel
theorem dX5_unlikeAt_20 : decode cX5_unlikeAt 20 = .ok (.lconst 0, 1) := by decide +kernel
theorem dX5_unlikeAt_21 : decode cX5_unlikeAt 21 = .ok (.lconst 1, 1) := by decide +kernel
theorem dX5_unlikeAt_22 : decode cX5_unlikeAt 22 = .ok (.invokestatic 95, 3) := by decide +kernel
theorem dX5_unlikeAt_25 : decode cX5_unlikeAt 25 = .ok (.ifCond .eq 41, 3) := by decide +kernel
theorem dX5_unlikeAt_28 : decode cX5_unlikeAt 28 = .ok (.aload_n 0, 1) := by decide +kernel
theorem dX5_unlikeAt_29 : decode cX5_unlikeAt 29 = .ok (.getfield 21, 3) := by decide +kernel
theorem dX5_unlikeAt_32 : decode cX5_unlikeAt 32 = .ok (.iload_n 2, 1) := by decide +kernel
theorem dX5_unlikeAt_33 : decode cX5_unlikeAt 33 = .ok (.aaload, 1) := by decide +kernel
theorem dX5_unlikeAt_34 : decode cX5_unlikeAt 34 = .ok (.iload_n 3, 1) := by decide +kernel
theorem dX5_unlikeAt_35 : decode cX5_unlikeAt 35 = .ok (.laload, 1) := by decide +kernel
theorem dX5_unlikeAt_36 : decode cX5_unlikeAt 36 = .ok (.lconst 0, 1) := by decide +kernel
theorem dX5_unlikeAt_37 : decode cX5_unlikeAt 37 = .ok (.lconst 1, 1) := by decide +kernel
theorem dX5_unlikeAt_38 : decode cX5_unlikeAt 38 = .ok (.invokestatic 95, 3) := by decide +kernel
theorem dX5_unlikeAt_41 : decode cX5_unlikeAt 41 = .ok (.ifCond .eq 25, 3) := by decide +kernel
theorem dX5_unlikeAt_44 : decode cX5_unlikeAt 44 = .ok (.aload_n 0, 1) := by decide +kernel
theorem dX5_unlikeAt_45 : decode cX5_unlikeAt 45 = .ok (.getfield 21, 3) := by decide +kernel
theorem dX5_unlikeAt_48 : decode cX5_unlikeAt 48 = .ok (.iload_n 1, 1) := by decide +kernel
theorem dX5_unlikeAt_49 : decode cX5_unlikeAt 49 = .ok (.aaload, 1) := by decide +kernel
theorem dX5_unlikeAt_50 : decode cX5_unlikeAt 50 = .ok (.iload_n 3, 1) := by decide +kernel
theorem dX5_unlikeAt_51 : decode cX5_unlikeAt 51 = .ok (.laload, 1) := by decide +kernel
theorem dX5_unlikeAt_52 : decode cX5_unlikeAt 52 = .ok (.aload_n 0, 1) := by decide +kernel
theorem dX5_unlikeAt_53 : decode cX5_unlikeAt 53 = .ok (.getfield 21, 3) := by decide +kernel
theorem dX5_unlikeAt_56 : decode cX5_unlikeAt 56 = .ok (.iload_n 2, 1) := by decide +kernel
theorem dX5_unlikeAt_57 : decode cX5_unlikeAt 57 = .ok (.aaload, 1) := by decide +kernel
theorem dX5_unlikeAt_58 : decode cX5_unlikeAt 58 = .ok (.iload_n 3, 1) := by decide +kernel
theorem dX5_unlikeAt_59 : decode cX5_unlikeAt 59 = .ok (.laload, 1) := by decide +kernel
theorem dX5_unlikeAt_60 : decode cX5_unlikeAt 60 = .ok (.lcmp, 1) := by decide +kernel
theorem dX5_unlikeAt_61 : decode cX5_unlikeAt 61 = .ok (.ifCond .eq 5, 3) := by decide +kernel
theorem dX5_unlikeAt_64 : decode cX5_unlikeAt 64 = .ok (.iload_n 3, 1) := by decide +kernel
theorem dX5_unlikeAt_65 : decode cX5_unlikeAt 65 = .ok (.ireturn, 1) := by decide +kernel
theorem dX5_unlikeAt_66 : decode cX5_unlikeAt 66 = .ok (.iinc 3 1, 3) := by decide +kernel
theorem dX5_unlikeAt_69 : decode cX5_unlikeAt 69 = .ok (.goto (-67), 3) := by decide +kernel
theorem dX5_unlikeAt_72 : decode cX5_unlikeAt 72 = .ok (.iconst (-1), 1) := by decide +kernel
theorem dX5_unlikeAt_73 : decode cX5_unlikeAt 73 = .ok (.ireturn, 1) := by decide +kernel
theorem dX5_books_0 : decode cX5_books 0 = .ok (.aload_n 0, 1) := by decide +kernel
theorem dX5_books_1 : decode cX5_books 1 = .ok (.iload_n 1, 1) := by decide +kernel
theorem dX5_books_2 : decode cX5_books 2 = .ok (.iload_n 2, 1) := by decide +kernel
theorem dX5_books_3 : decode cX5_books 3 = .ok (.invokevirtual 354, 3) := by decide +kernel
theorem dX5_books_6 : decode cX5_books 6 = .ok (.istore_n 3, 1) := by decide +kernel
theorem dX5_books_7 : decode cX5_books 7 = .ok (.iload_n 3, 1) := by decide +kernel
theorem dX5_books_8 : decode cX5_books 8 = .ok (.ifCond .eq 5, 3) := by decide +kernel
theorem dX5_books_11 : decode cX5_books 11 = .ok (.iload_n 3, 1) := by decide +kernel
theorem dX5_books_12 : decode cX5_books 12 = .ok (.ireturn, 1) := by decide +kernel
theorem dX5_books_13 : decode cX5_books 13 = .ok (.aload_n 0, 1) := by decide +kernel
theorem dX5_books_14 : decode cX5_books 14 = .ok (.iload_n 1, 1) := by decide +kernel
theorem dX5_books_15 : decode cX5_books 15 = .ok (.iload_n 2, 1) := by decide +kernel
theorem dX5_books_16 : decode cX5_books 16 = .ok (.invokevirtual 357, 3) := by decide +kernel
theorem dX5_books_19 : decode cX5_books 19 = .ok (.iconst (-1), 1) := by decide +kernel
theorem dX5_books_20 : decode cX5_books 20 = .ok (.if_icmp .eq 5, 3) := by decide +kernel
theorem dX5_books_23 : decode cX5_books 23 = .ok (.iconst 0, 1) := by decide +kernel
theorem dX5_books_24 : decode cX5_books 24 = .ok (.ireturn, 1) := by decide +kernel
theorem dX5_books_25 : decode cX5_books 25 = .ok (.aload_n 0, 1) := by decide +kernel
theorem dX5_books_26 : decode cX5_books 26 = .ok (.invokevirtual 263, 3) := by decide +kernel
theorem dX5_books_29 : decode cX5_books 29 = .ok (.iconst 0, 1) := by decide +kernel
theorem dX5_books_30 : decode cX5_books 30 = .ok (.istore 4, 2) := by decide +kernel
theorem dX5_books_32 : decode cX5_books 32 = .ok (.iload 4, 2) := by decide +kernel
theorem dX5_books_34 : decode cX5_books 34 = .ok (.aload_n 0, 1) := by decide +kernel
theorem dX5_books_35 : decode cX5_books 35 = .ok (.getfield 254, 3) := by decide +kernel
theorem dX5_books_38 : decode cX5_books 38 = .ok (.if_icmp .gt 219, 3) := by decide +kernel
theorem dX5_books_41 : decode cX5_books 41 = .ok (.iconst 0, 1) := by decide +kernel
theorem dX5_books_42 : decode cX5_books 42 = .ok (.istore 5, 2) := by decide +kernel
theorem dX5_books_44 : decode cX5_books 44 = .ok (.iload 5, 2) := by decide +kernel
theorem dX5_books_46 : decode cX5_books 46 = .ok (.iload 4, 2) := by decide +kernel
theorem dX5_books_48 : decode cX5_books 48 = .ok (.if_icmp .gt 203, 3) := by decide +kernel
theorem dX5_books_51 : decode cX5_books 51 = .ok (.aload_n 0, 1) := by decide +kernel
theorem dX5_books_52 : decode cX5_books 52 = .ok (.getfield 69, 3) := by decide +kernel
theorem dX5_books_55 : decode cX5_books 55 = .ok (.iload 4, 2) := by decide +kernel
theorem dX5_books_57 : decode cX5_books 57 = .ok (.aaload, 1) := by decide +kernel
theorem dX5_books_58 : decode cX5_books 58 = .ok (.iload 5, 2) := by decide +kernel
theorem dX5_books_60 : decode cX5_books 60 = .ok (.iload 4, 2) := by decide +kernel
theorem dX5_books_62 : decode cX5_books 62 = .ok (.ifCond .ne 7, 3) := by decide +kernel
theorem dX5_books_65 : decode cX5_books 65 = .ok (.lconst 1, 1) := by decide +kernel
theorem dX5_books_66 : decode cX5_books 66 = .ok (.goto 4, 3) := by decide +kernel
theorem dX5_books_69 : decode cX5_books 69 = .ok (.lconst 0, 1) := by decide +kernel
theorem dX5_books_70 : decode cX5_books 70 = .ok (.lastore, 1) := by decide +kernel
theorem dX5_books_71 : decode cX5_books 71 = .ok (.iload 4, 2) := by decide +kernel
theorem dX5_books_73 : decode cX5_books 73 = .ok (.ifCond .le 135, 3) := by decide +kernel
theorem dX5_books_76 : decode cX5_books 76 = .ok (.aload_n 0, 1) := by decide +kernel
theorem dX5_books_77 : decode cX5_books 77 = .ok (.getfield 21, 3) := by decide +kernel
theorem dX5_books_80 : decode cX5_books 80 = .ok (.iload_n 1, 1) := by decide +kernel
theorem dX5_books_81 : decode cX5_books 81 = .ok (.aaload, 1) := by decide +kernel
theorem dX5_books_82 : decode cX5_books 82 = .ok (.iload 4, 2) := by decide +kernel
theorem dX5_books_84 : decode cX5_books 84 = .ok (.iconst 1, 1) := by decide +kernel
theorem dX5_books_85 : decode cX5_books 85 = .ok (.isub, 1) := by decide +kernel
theorem dX5_books_86 : decode cX5_books 86 = .ok (.laload, 1) := by decide +kernel
theorem dX5_books_87 : decode cX5_books 87 = .ok (.lconst 0, 1) := by decide +kernel
theorem dX5_books_88 : decode cX5_books 88 = .ok (.lconst 1, 1) := by decide +kernel
theorem dX5_books_89 : decode cX5_books 89 = .ok (.invokestatic 95, 3) := by decide +kernel
theorem dX5_books_92 : decode cX5_books 92 = .ok (.ifCond .eq 17, 3) := by decide +kernel
theorem dX5_books_95 : decode cX5_books 95 = .ok (.aload_n 0, 1) := by decide +kernel
theorem dX5_books_96 : decode cX5_books 96 = .ok (.getfield 21, 3) := by decide +kernel
theorem dX5_books_99 : decode cX5_books 99 = .ok (.iload_n 1, 1) := by decide +kernel
theorem dX5_books_100 : decode cX5_books 100 = .ok (.aaload, 1) := by decide +kernel
theorem dX5_books_101 : decode cX5_books 101 = .ok (.iload 4, 2) := by decide +kernel
theorem dX5_books_103 : decode cX5_books 103 = .ok (.iconst 1, 1) := by decide +kernel
theorem dX5_books_104 : decode cX5_books 104 = .ok (.isub, 1) := by decide +kernel
theorem dX5_books_105 : decode cX5_books 105 = .ok (.laload, 1) := by decide +kernel
theorem dX5_books_106 : decode cX5_books 106 = .ok (.goto 14, 3) := by decide +kernel
theorem dX5_books_109 : decode cX5_books 109 = .ok (.aload_n 0, 1) := by decide +kernel
theorem dX5_books_110 : decode cX5_books 110 = .ok (.getfield 21, 3) := by decide +kernel
theorem dX5_books_113 : decode cX5_books 113 = .ok (.iload_n 2, 1) := by decide +kernel
theorem dX5_books_114 : decode cX5_books 114 = .ok (.aaload, 1) := by decide +kernel
theorem dX5_books_115 : decode cX5_books 115 = .ok (.iload 4, 2) := by decide +kernel
theorem dX5_books_117 : decode cX5_books 117 = .ok (.iconst 1, 1) := by decide +kernel
theorem dX5_books_118 : decode cX5_books 118 = .ok (.isub, 1) := by decide +kernel
theorem dX5_books_119 : decode cX5_books 119 = .ok (.laload, 1) := by decide +kernel
theorem dX5_books_120 : decode cX5_books 120 = .ok (.lstore 6, 2) := by decide +kernel
theorem dX5_books_122 : decode cX5_books 122 = .ok (.aload_n 0, 1) := by decide +kernel
theorem dX5_books_123 : decode cX5_books 123 = .ok (.getfield 69, 3) := by decide +kernel
theorem dX5_books_126 : decode cX5_books 126 = .ok (.iload 4, 2) := by decide +kernel
theorem dX5_books_128 : decode cX5_books 128 = .ok (.aaload, 1) := by decide +kernel
theorem dX5_books_129 : decode cX5_books 129 = .ok (.iload 5, 2) := by decide +kernel
theorem dX5_books_131 : decode cX5_books 131 = .ok (.dup2, 1) := by decide +kernel
theorem dX5_books_132 : decode cX5_books 132 = .ok (.laload, 1) := by decide +kernel
theorem dX5_books_133 : decode cX5_books 133 = .ok (.iload 5, 2) := by decide +kernel
theorem dX5_books_135 : decode cX5_books 135 = .ok (.ifCond .le 27, 3) := by decide +kernel
theorem dX5_books_138 : decode cX5_books 138 = .ok (.lload 6, 2) := by decide +kernel
theorem dX5_books_140 : decode cX5_books 140 = .ok (.lconst 0, 1) := by decide +kernel
theorem dX5_books_141 : decode cX5_books 141 = .ok (.lcmp, 1) := by decide +kernel
theorem dX5_books_142 : decode cX5_books 142 = .ok (.ifCond .eq 20, 3) := by decide +kernel
theorem dX5_books_145 : decode cX5_books 145 = .ok (.aload_n 0, 1) := by decide +kernel
theorem dX5_books_146 : decode cX5_books 146 = .ok (.getfield 69, 3) := by decide +kernel
theorem dX5_books_149 : decode cX5_books 149 = .ok (.iload 4, 2) := by decide +kernel
theorem dX5_books_151 : decode cX5_books 151 = .ok (.iconst 1, 1) := by decide +kernel
theorem dX5_books_152 : decode cX5_books 152 = .ok (.isub, 1) := by decide +kernel
theorem dX5_books_153 : decode cX5_books 153 = .ok (.aaload, 1) := by decide +kernel
theorem dX5_books_154 : decode cX5_books 154 = .ok (.iload 5, 2) := by decide +kernel
theorem dX5_books_156 : decode cX5_books 156 = .ok (.iconst 1, 1) := by decide +kernel
theorem dX5_books_157 : decode cX5_books 157 = .ok (.isub, 1) := by decide +kernel
theorem dX5_books_158 : decode cX5_books 158 = .ok (.laload, 1) := by decide +kernel
theorem dX5_books_159 : decode cX5_books 159 = .ok (.goto 4, 3) := by decide +kernel
theorem dX5_books_162 : decode cX5_books 162 = .ok (.lconst 0, 1) := by decide +kernel
theorem dX5_books_163 : decode cX5_books 163 = .ok (.ladd, 1) := by decide +kernel
theorem dX5_books_164 : decode cX5_books 164 = .ok (.lastore, 1) := by decide +kernel
theorem dX5_books_165 : decode cX5_books 165 = .ok (.aload_n 0, 1) := by decide +kernel
theorem dX5_books_166 : decode cX5_books 166 = .ok (.getfield 69, 3) := by decide +kernel
theorem dX5_books_169 : decode cX5_books 169 = .ok (.iload 4, 2) := by decide +kernel
theorem dX5_books_171 : decode cX5_books 171 = .ok (.aaload, 1) := by decide +kernel
theorem dX5_books_172 : decode cX5_books 172 = .ok (.iload 5, 2) := by decide +kernel
theorem dX5_books_174 : decode cX5_books 174 = .ok (.dup2, 1) := by decide +kernel
theorem dX5_books_175 : decode cX5_books 175 = .ok (.laload, 1) := by decide +kernel
theorem dX5_books_176 : decode cX5_books 176 = .ok (.iload 5, 2) := by decide +kernel
theorem dX5_books_178 : decode cX5_books 178 = .ok (.iload 4, 2) := by decide +kernel
theorem dX5_books_180 : decode cX5_books 180 = .ok (.if_icmp .ge 25, 3) := by decide +kernel
theorem dX5_books_183 : decode cX5_books 183 = .ok (.lload 6, 2) := by decide +kernel
theorem dX5_books_185 : decode cX5_books 185 = .ok (.lconst 1, 1) := by decide +kernel
theorem dX5_books_186 : decode cX5_books 186 = .ok (.lcmp, 1) := by decide +kernel
theorem dX5_books_187 : decode cX5_books 187 = .ok (.ifCond .eq 18, 3) := by decide +kernel
theorem dX5_books_190 : decode cX5_books 190 = .ok (.aload_n 0, 1) := by decide +kernel
theorem dX5_books_191 : decode cX5_books 191 = .ok (.getfield 69, 3) := by decide +kernel
theorem dX5_books_194 : decode cX5_books 194 = .ok (.iload 4, 2) := by decide +kernel
theorem dX5_books_196 : decode cX5_books 196 = .ok (.iconst 1, 1) := by decide +kernel
theorem dX5_books_197 : decode cX5_books 197 = .ok (.isub, 1) := by decide +kernel
theorem dX5_books_198 : decode cX5_books 198 = .ok (.aaload, 1) := by decide +kernel
theorem dX5_books_199 : decode cX5_books 199 = .ok (.iload 5, 2) := by decide +kernel
theorem dX5_books_201 : decode cX5_books 201 = .ok (.laload, 1) := by decide +kernel
theorem dX5_books_202 : decode cX5_books 202 = .ok (.goto 4, 3) := by decide +kernel
theorem dX5_books_205 : decode cX5_books 205 = .ok (.lconst 0, 1) := by decide +kernel
theorem dX5_books_206 : decode cX5_books 206 = .ok (.ladd, 1) := by decide +kernel
theorem dX5_books_207 : decode cX5_books 207 = .ok (.lastore, 1) := by decide +kernel
theorem dX5_books_208 : decode cX5_books 208 = .ok (.aload_n 0, 1) := by decide +kernel
theorem dX5_books_209 : decode cX5_books 209 = .ok (.getfield 69, 3) := by decide +kernel
theorem dX5_books_212 : decode cX5_books 212 = .ok (.iload 4, 2) := by decide +kernel
theorem dX5_books_214 : decode cX5_books 214 = .ok (.aaload, 1) := by decide +kernel
theorem dX5_books_215 : decode cX5_books 215 = .ok (.iload 5, 2) := by decide +kernel
theorem dX5_books_217 : decode cX5_books 217 = .ok (.aload_n 0, 1) := by decide +kernel
theorem dX5_books_218 : decode cX5_books 218 = .ok (.getfield 66, 3) := by decide +kernel
theorem dX5_books_221 : decode cX5_books 221 = .ok (.iload 4, 2) := by decide +kernel
theorem dX5_books_223 : decode cX5_books 223 = .ok (.aaload, 1) := by decide +kernel
theorem dX5_books_224 : decode cX5_books 224 = .ok (.iload 5, 2) := by decide +kernel
theorem dX5_books_226 : decode cX5_books 226 = .ok (.baload, 1) := by decide +kernel
theorem dX5_books_227 : decode cX5_books 227 = .ok (.ifCond .eq 16, 3) := by decide +kernel
theorem dX5_books_230 : decode cX5_books 230 = .ok (.aload_n 0, 1) := by decide +kernel
theorem dX5_books_231 : decode cX5_books 231 = .ok (.getfield 69, 3) := by decide +kernel
theorem dX5_books_234 : decode cX5_books 234 = .ok (.iload 4, 2) := by decide +kernel
theorem dX5_books_236 : decode cX5_books 236 = .ok (.aaload, 1) := by decide +kernel
theorem dX5_books_237 : decode cX5_books 237 = .ok (.iload 5, 2) := by decide +kernel
theorem dX5_books_239 : decode cX5_books 239 = .ok (.laload, 1) := by decide +kernel
theorem dX5_books_240 : decode cX5_books 240 = .ok (.goto 4, 3) := by decide +kernel
theorem dX5_books_243 : decode cX5_books 243 = .ok (.lconst 0, 1) := by decide +kernel
theorem dX5_books_244 : decode cX5_books 244 = .ok (.lastore, 1) := by decide +kernel
theorem dX5_books_245 : decode cX5_books 245 = .ok (.iinc 5 1, 3) := by decide +kernel
theorem dX5_books_248 : decode cX5_books 248 = .ok (.goto (-204), 3) := by decide +kernel
theorem dX5_books_251 : decode cX5_books 251 = .ok (.iinc 4 1, 3) := by decide +kernel
theorem dX5_books_254 : decode cX5_books 254 = .ok (.goto (-222), 3) := by decide +kernel
theorem dX5_books_257 : decode cX5_books 257 = .ok (.aload_n 0, 1) := by decide +kernel
theorem dX5_books_258 : decode cX5_books 258 = .ok (.getfield 69, 3) := by decide +kernel
theorem dX5_books_261 : decode cX5_books 261 = .ok (.aload_n 0, 1) := by decide +kernel
theorem dX5_books_262 : decode cX5_books 262 = .ok (.getfield 254, 3) := by decide +kernel
theorem dX5_books_265 : decode cX5_books 265 = .ok (.aaload, 1) := by decide +kernel
theorem dX5_books_266 : decode cX5_books 266 = .ok (.aload_n 0, 1) := by decide +kernel
theorem dX5_books_267 : decode cX5_books 267 = .ok (.invokevirtual 133, 3) := by decide +kernel
theorem dX5_books_270 : decode cX5_books 270 = .ok (.laload, 1) := by decide +kernel
theorem dX5_books_271 : decode cX5_books 271 = .ok (.l2i, 1) := by decide +kernel
theorem dX5_books_272 : decode cX5_books 272 = .ok (.ireturn, 1) := by decide +kernel
theorem dX5_unlike_0 : decode cX5_unlike 0 = .ok (.aload_n 0, 1) := by decide +kernel
theorem dX5_unlike_1 : decode cX5_unlike 1 = .ok (.iload_n 1, 1) := by decide +kernel
theorem dX5_unlike_2 : decode cX5_unlike 2 = .ok (.iload_n 2, 1) := by decide +kernel
theorem dX5_unlike_3 : decode cX5_unlike 3 = .ok (.invokevirtual 354, 3) := by decide +kernel
theorem dX5_unlike_6 : decode cX5_unlike 6 = .ok (.istore_n 3, 1) := by decide +kernel
theorem dX5_unlike_7 : decode cX5_unlike 7 = .ok (.iload_n 3, 1) := by decide +kernel
theorem dX5_unlike_8 : decode cX5_unlike 8 = .ok (.ifCond .eq 7, 3) := by decide +kernel
theorem dX5_unlike_11 : decode cX5_unlike 11 = .ok (.iload_n 3, 1) := by decide +kernel
theorem dX5_unlike_12 : decode cX5_unlike 12 = .ok (.goto 9, 3) := by decide +kernel
theorem dX5_unlike_15 : decode cX5_unlike 15 = .ok (.aload_n 0, 1) := by decide +kernel
theorem dX5_unlike_16 : decode cX5_unlike 16 = .ok (.iload_n 1, 1) := by decide +kernel
theorem dX5_unlike_17 : decode cX5_unlike 17 = .ok (.iload_n 2, 1) := by decide +kernel
theorem dX5_unlike_18 : decode cX5_unlike 18 = .ok (.invokevirtual 357, 3) := by decide +kernel
theorem dX5_unlike_21 : decode cX5_unlike 21 = .ok (.ireturn, 1) := by decide +kernel
theorem dX5_below_0 : decode cX5_below 0 = .ok (.aload_n 0, 1) := by decide +kernel
theorem dX5_below_1 : decode cX5_below 1 = .ok (.aload_n 0, 1) := by decide +kernel
theorem dX5_below_2 : decode cX5_below 2 = .ok (.getfield 57, 3) := by decide +kernel
theorem dX5_below_5 : decode cX5_below 5 = .ok (.ldc_w 360, 3) := by decide +kernel
theorem dX5_below_8 : decode cX5_below 8 = .ok (.imul, 1) := by decide +kernel
theorem dX5_below_9 : decode cX5_below 9 = .ok (.sipush 12345, 3) := by decide +kernel
theorem dX5_below_12 : decode cX5_below 12 = .ok (.iadd, 1) := by decide +kernel
theorem dX5_below_13 : decode cX5_below 13 = .ok (.putfield 57, 3) := by decide +kernel
theorem dX5_below_16 : decode cX5_below 16 = .ok (.aload_n 0, 1) := by decide +kernel
theorem dX5_below_17 : decode cX5_below 17 = .ok (.getfield 57, 3) := by decide +kernel
theorem dX5_below_20 : decode cX5_below 20 = .ok (.bipush 16, 2) := by decide +kernel
theorem dX5_below_22 : decode cX5_below 22 = .ok (.iushr, 1) := by decide +kernel
theorem dX5_below_23 : decode cX5_below 23 = .ok (.iload_n 1, 1) := by decide +kernel
theorem dX5_below_24 : decode cX5_below 24 = .ok (.irem, 1) := by decide +kernel
theorem dX5_below_25 : decode cX5_below 25 = .ok (.ireturn, 1) := by decide +kernel
theorem dX5_drawOne_0 : decode cX5_drawOne 0 = .ok (.aload_n 0, 1) := by decide +kernel
theorem dX5_drawOne_1 : decode cX5_drawOne 1 = .ok (.iconst 1, 1) := by decide +kernel
theorem dX5_drawOne_2 : decode cX5_drawOne 2 = .ok (.invokevirtual 289, 3) := by decide +kernel
theorem dX5_drawOne_5 : decode cX5_drawOne 5 = .ok (.istore_n 1, 1) := by decide +kernel
theorem dX5_drawOne_6 : decode cX5_drawOne 6 = .ok (.aload_n 0, 1) := by decide +kernel
theorem dX5_drawOne_7 : decode cX5_drawOne 7 = .ok (.iload_n 1, 1) := by decide +kernel
theorem dX5_drawOne_8 : decode cX5_drawOne 8 = .ok (.aload_n 0, 1) := by decide +kernel
theorem dX5_drawOne_9 : decode cX5_drawOne 9 = .ok (.iconst 0, 1) := by decide +kernel
theorem dX5_drawOne_10 : decode cX5_drawOne 10 = .ok (.invokevirtual 289, 3) := by decide +kernel
theorem dX5_drawOne_13 : decode cX5_drawOne 13 = .ok (.iadd, 1) := by decide +kernel
theorem dX5_drawOne_14 : decode cX5_drawOne 14 = .ok (.invokevirtual 361, 3) := by decide +kernel
theorem dX5_drawOne_17 : decode cX5_drawOne 17 = .ok (.iload_n 1, 1) := by decide +kernel
theorem dX5_drawOne_18 : decode cX5_drawOne 18 = .ok (.if_icmp .ge 7, 3) := by decide +kernel
theorem dX5_drawOne_21 : decode cX5_drawOne 21 = .ok (.iconst 1, 1) := by decide +kernel
theorem dX5_drawOne_22 : decode cX5_drawOne 22 = .ok (.goto 4, 3) := by decide +kernel
theorem dX5_drawOne_25 : decode cX5_drawOne 25 = .ok (.iconst 0, 1) := by decide +kernel
theorem dX5_drawOne_26 : decode cX5_drawOne 26 = .ok (.istore_n 2, 1) := by decide +kernel
theorem dX5_drawOne_27 : decode cX5_drawOne 27 = .ok (.aload_n 0, 1) := by decide +kernel
theorem dX5_drawOne_28 : decode cX5_drawOne 28 = .ok (.getfield 54, 3) := by decide +kernel
theorem dX5_drawOne_31 : decode cX5_drawOne 31 = .ok (.aload_n 0, 1) := by decide +kernel
theorem dX5_drawOne_32 : decode cX5_drawOne 32 = .ok (.dup, 1) := by decide +kernel
theorem dX5_drawOne_33 : decode cX5_drawOne 33 = .ok (.getfield 137, 3) := by decide +kernel
theorem dX5_drawOne_36 : decode cX5_drawOne 36 = .ok (.dup_x1, 1) := by decide +kernel
theorem dX5_drawOne_37 : decode cX5_drawOne 37 = .ok (.iconst 1, 1) := by decide +kernel
theorem dX5_drawOne_38 : decode cX5_drawOne 38 = .ok (.iadd, 1) := by decide +kernel
theorem dX5_drawOne_39 : decode cX5_drawOne 39 = .ok (.putfield 137, 3) := by decide +kernel
theorem dX5_drawOne_42 : decode cX5_drawOne 42 = .ok (.iload_n 2, 1) := by decide +kernel
theorem dX5_drawOne_43 : decode cX5_drawOne 43 = .ok (.ifCond .eq 7, 3) := by decide +kernel
theorem dX5_drawOne_46 : decode cX5_drawOne 46 = .ok (.iconst 1, 1) := by decide +kernel
theorem dX5_drawOne_47 : decode cX5_drawOne 47 = .ok (.goto 4, 3) := by decide +kernel
theorem dX5_drawOne_50 : decode cX5_drawOne 50 = .ok (.iconst 0, 1) := by decide +kernel
theorem dX5_drawOne_51 : decode cX5_drawOne 51 = .ok (.iastore, 1) := by decide +kernel
theorem dX5_drawOne_52 : decode cX5_drawOne 52 = .ok (.iload_n 2, 1) := by decide +kernel
theorem dX5_drawOne_53 : decode cX5_drawOne 53 = .ok (.ifCond .eq 7, 3) := by decide +kernel
theorem dX5_drawOne_56 : decode cX5_drawOne 56 = .ok (.iconst 1, 1) := by decide +kernel
theorem dX5_drawOne_57 : decode cX5_drawOne 57 = .ok (.goto 4, 3) := by decide +kernel
theorem dX5_drawOne_60 : decode cX5_drawOne 60 = .ok (.iconst 0, 1) := by decide +kernel
theorem dX5_drawOne_61 : decode cX5_drawOne 61 = .ok (.ireturn, 1) := by decide +kernel
theorem dX5_draw_0 : decode cX5_draw 0 = .ok (.aload_n 0, 1) := by decide +kernel
theorem dX5_draw_1 : decode cX5_draw 1 = .ok (.getfield 137, 3) := by decide +kernel
theorem dX5_draw_4 : decode cX5_draw 4 = .ok (.aload_n 0, 1) := by decide +kernel
theorem dX5_draw_5 : decode cX5_draw 5 = .ok (.invokevirtual 140, 3) := by decide +kernel
theorem dX5_draw_8 : decode cX5_draw 8 = .ok (.if_icmp .ge 10, 3) := by decide +kernel
theorem dX5_draw_11 : decode cX5_draw 11 = .ok (.aload_n 0, 1) := by decide +kernel
theorem dX5_draw_12 : decode cX5_draw 12 = .ok (.invokevirtual 364, 3) := by decide +kernel
theorem dX5_draw_15 : decode cX5_draw 15 = .ok (.goto 9, 3) := by decide +kernel
theorem dX5_draw_18 : decode cX5_draw 18 = .ok (.aload_n 0, 1) := by decide +kernel
theorem dX5_draw_19 : decode cX5_draw 19 = .ok (.bipush (-5), 2) := by decide +kernel
theorem dX5_draw_21 : decode cX5_draw 21 = .ok (.invokevirtual 103, 3) := by decide +kernel
theorem dX5_draw_24 : decode cX5_draw 24 = .ok (.ireturn, 1) := by decide +kernel
theorem dX5_evening_0 : decode cX5_evening 0 = .ok (.aload_n 0, 1) := by decide +kernel
theorem dX5_evening_1 : decode cX5_evening 1 = .ok (.getfield 137, 3) := by decide +kernel
theorem dX5_evening_4 : decode cX5_evening 4 = .ok (.aload_n 0, 1) := by decide +kernel
theorem dX5_evening_5 : decode cX5_evening 5 = .ok (.invokevirtual 140, 3) := by decide +kernel
theorem dX5_evening_8 : decode cX5_evening 8 = .ok (.if_icmp .ge 11, 3) := by decide +kernel
theorem dX5_evening_11 : decode cX5_evening 11 = .ok (.aload_n 0, 1) := by decide +kernel
theorem dX5_evening_12 : decode cX5_evening 12 = .ok (.invokevirtual 364, 3) := by decide +kernel
theorem dX5_evening_15 : decode cX5_evening 15 = .ok (.pop, 1) := by decide +kernel
theorem dX5_evening_16 : decode cX5_evening 16 = .ok (.goto (-16), 3) := by decide +kernel
theorem dX5_evening_19 : decode cX5_evening 19 = .ok (.iconst 0, 1) := by decide +kernel
theorem dX5_evening_20 : decode cX5_evening 20 = .ok (.istore_n 1, 1) := by decide +kernel
theorem dX5_evening_21 : decode cX5_evening 21 = .ok (.iconst 1, 1) := by decide +kernel
theorem dX5_evening_22 : decode cX5_evening 22 = .ok (.istore_n 2, 1) := by decide +kernel
theorem dX5_evening_23 : decode cX5_evening 23 = .ok (.iload_n 2, 1) := by decide +kernel
theorem dX5_evening_24 : decode cX5_evening 24 = .ok (.aload_n 0, 1) := by decide +kernel
theorem dX5_evening_25 : decode cX5_evening 25 = .ok (.getfield 137, 3) := by decide +kernel
theorem dX5_evening_28 : decode cX5_evening 28 = .ok (.if_icmp .gt 28, 3) := by decide +kernel
theorem dX5_evening_31 : decode cX5_evening 31 = .ok (.iload_n 1, 1) := by decide +kernel
theorem dX5_evening_32 : decode cX5_evening 32 = .ok (.iconst 2, 1) := by decide +kernel
theorem dX5_evening_33 : decode cX5_evening 33 = .ok (.aload_n 0, 1) := by decide +kernel
theorem dX5_evening_34 : decode cX5_evening 34 = .ok (.iload_n 2, 1) := by decide +kernel
theorem dX5_evening_35 : decode cX5_evening 35 = .ok (.invokevirtual 257, 3) := by decide +kernel
theorem dX5_evening_38 : decode cX5_evening 38 = .ok (.imul, 1) := by decide +kernel
theorem dX5_evening_39 : decode cX5_evening 39 = .ok (.iload_n 2, 1) := by decide +kernel
theorem dX5_evening_40 : decode cX5_evening 40 = .ok (.if_icmp .le 7, 3) := by decide +kernel
theorem dX5_evening_43 : decode cX5_evening 43 = .ok (.iconst 1, 1) := by decide +kernel
theorem dX5_evening_44 : decode cX5_evening 44 = .ok (.goto 4, 3) := by decide +kernel
theorem dX5_evening_47 : decode cX5_evening 47 = .ok (.iconst 0, 1) := by decide +kernel
theorem dX5_evening_48 : decode cX5_evening 48 = .ok (.iadd, 1) := by decide +kernel
theorem dX5_evening_49 : decode cX5_evening 49 = .ok (.istore_n 1, 1) := by decide +kernel
theorem dX5_evening_50 : decode cX5_evening 50 = .ok (.iinc 2 1, 3) := by decide +kernel
theorem dX5_evening_53 : decode cX5_evening 53 = .ok (.goto (-30), 3) := by decide +kernel
theorem dX5_evening_56 : decode cX5_evening 56 = .ok (.iload_n 1, 1) := by decide +kernel
theorem dX5_evening_57 : decode cX5_evening 57 = .ok (.ireturn, 1) := by decide +kernel
theorem dX5_seed_0 : decode cX5_seed 0 = .ok (.aload_n 0, 1) := by decide +kernel
theorem dX5_seed_1 : decode cX5_seed 1 = .ok (.getfield 57, 3) := by decide +kernel
theorem dX5_seed_4 : decode cX5_seed 4 = .ok (.istore_n 2, 1) := by decide +kernel
theorem dX5_seed_5 : decode cX5_seed 5 = .ok (.aload_n 0, 1) := by decide +kernel
theorem dX5_seed_6 : decode cX5_seed 6 = .ok (.iload_n 1, 1) := by decide +kernel
theorem dX5_seed_7 : decode cX5_seed 7 = .ok (.putfield 57, 3) := by decide +kernel
theorem dX5_seed_10 : decode cX5_seed 10 = .ok (.iload_n 2, 1) := by decide +kernel
theorem dX5_seed_11 : decode cX5_seed 11 = .ok (.ireturn, 1) := by decide +kernel
theorem dX5_fresh_0 : decode cX5_fresh 0 = .ok (.aload_n 0, 1) := by decide +kernel
theorem dX5_fresh_1 : decode cX5_fresh 1 = .ok (.getfield 367, 3) := by decide +kernel
theorem dX5_fresh_4 : decode cX5_fresh 4 = .ok (.ifnonnull 14, 3) := by decide +kernel
theorem dX5_fresh_7 : decode cX5_fresh 7 = .ok (.aload_n 0, 1) := by decide +kernel
theorem dX5_fresh_8 : decode cX5_fresh 8 = .ok (.new 8, 3) := by decide +kernel
theorem dX5_fresh_11 : decode cX5_fresh 11 = .ok (.dup, 1) := by decide +kernel
theorem dX5_fresh_12 : decode cX5_fresh 12 = .ok (.invokespecial 371, 3) := by decide +kernel
theorem dX5_fresh_15 : decode cX5_fresh 15 = .ok (.putfield 367, 3) := by decide +kernel
theorem dX5_fresh_18 : decode cX5_fresh 18 = .ok (.aload_n 0, 1) := by decide +kernel
theorem dX5_fresh_19 : decode cX5_fresh 19 = .ok (.getfield 367, 3) := by decide +kernel
theorem dX5_fresh_22 : decode cX5_fresh 22 = .ok (.aload_n 0, 1) := by decide +kernel
theorem dX5_fresh_23 : decode cX5_fresh 23 = .ok (.invokevirtual 248, 3) := by decide +kernel
theorem dX5_fresh_26 : decode cX5_fresh 26 = .ok (.aload_n 0, 1) := by decide +kernel
theorem dX5_fresh_27 : decode cX5_fresh 27 = .ok (.getfield 367, 3) := by decide +kernel
theorem dX5_fresh_30 : decode cX5_fresh 30 = .ok (.areturn, 1) := by decide +kernel
theorem dX5_over_0 : decode cX5_over 0 = .ok (.iconst 0, 1) := by decide +kernel
theorem dX5_over_1 : decode cX5_over 1 = .ok (.istore_n 2, 1) := by decide +kernel
theorem dX5_over_2 : decode cX5_over 2 = .ok (.iload_n 2, 1) := by decide +kernel
theorem dX5_over_3 : decode cX5_over 3 = .ok (.aload_n 0, 1) := by decide +kernel
theorem dX5_over_4 : decode cX5_over 4 = .ok (.arraylength, 1) := by decide +kernel
theorem dX5_over_5 : decode cX5_over 5 = .ok (.if_icmp .ge 15, 3) := by decide +kernel
theorem dX5_over_8 : decode cX5_over 8 = .ok (.aload_n 1, 1) := by decide +kernel
theorem dX5_over_9 : decode cX5_over 9 = .ok (.iload_n 2, 1) := by decide +kernel
theorem dX5_over_10 : decode cX5_over 10 = .ok (.aload_n 0, 1) := by decide +kernel
theorem dX5_over_11 : decode cX5_over 11 = .ok (.iload_n 2, 1) := by decide +kernel
theorem dX5_over_12 : decode cX5_over 12 = .ok (.iaload, 1) := by decide +kernel
theorem dX5_over_13 : decode cX5_over 13 = .ok (.iastore, 1) := by decide +kernel
theorem dX5_over_14 : decode cX5_over 14 = .ok (.iinc 2 1, 3) := by decide +kernel
theorem dX5_over_17 : decode cX5_over 17 = .ok (.goto (-15), 3) := by decide +kernel
theorem dX5_over_20 : decode cX5_over 20 = .ok (.return_, 1) := by decide +kernel
theorem dX5_takeFrom_0 : decode cX5_takeFrom 0 = .ok (.aload_n 0, 1) := by decide +kernel
theorem dX5_takeFrom_1 : decode cX5_takeFrom 1 = .ok (.aload_n 1, 1) := by decide +kernel
theorem dX5_takeFrom_2 : decode cX5_takeFrom 2 = .ok (.getfield 130, 3) := by decide +kernel
theorem dX5_takeFrom_5 : decode cX5_takeFrom 5 = .ok (.putfield 130, 3) := by decide +kernel
theorem dX5_takeFrom_8 : decode cX5_takeFrom 8 = .ok (.aload_n 1, 1) := by decide +kernel
theorem dX5_takeFrom_9 : decode cX5_takeFrom 9 = .ok (.getfield 40, 3) := by decide +kernel
theorem dX5_takeFrom_12 : decode cX5_takeFrom 12 = .ok (.aload_n 0, 1) := by decide +kernel
theorem dX5_takeFrom_13 : decode cX5_takeFrom 13 = .ok (.getfield 40, 3) := by decide +kernel
theorem dX5_takeFrom_16 : decode cX5_takeFrom 16 = .ok (.invokestatic 372, 3) := by decide +kernel
theorem dX5_takeFrom_19 : decode cX5_takeFrom 19 = .ok (.aload_n 1, 1) := by decide +kernel
theorem dX5_takeFrom_20 : decode cX5_takeFrom 20 = .ok (.getfield 43, 3) := by decide +kernel
theorem dX5_takeFrom_23 : decode cX5_takeFrom 23 = .ok (.aload_n 0, 1) := by decide +kernel
theorem dX5_takeFrom_24 : decode cX5_takeFrom 24 = .ok (.getfield 43, 3) := by decide +kernel
theorem dX5_takeFrom_27 : decode cX5_takeFrom 27 = .ok (.invokestatic 372, 3) := by decide +kernel
theorem dX5_takeFrom_30 : decode cX5_takeFrom 30 = .ok (.aload_n 1, 1) := by decide +kernel
theorem dX5_takeFrom_31 : decode cX5_takeFrom 31 = .ok (.getfield 46, 3) := by decide +kernel
theorem dX5_takeFrom_34 : decode cX5_takeFrom 34 = .ok (.aload_n 0, 1) := by decide +kernel
theorem dX5_takeFrom_35 : decode cX5_takeFrom 35 = .ok (.getfield 46, 3) := by decide +kernel
theorem dX5_takeFrom_38 : decode cX5_takeFrom 38 = .ok (.invokestatic 372, 3) := by decide +kernel
theorem dX5_takeFrom_41 : decode cX5_takeFrom 41 = .ok (.aload_n 0, 1) := by decide +kernel
theorem dX5_takeFrom_42 : decode cX5_takeFrom 42 = .ok (.aload_n 1, 1) := by decide +kernel
theorem dX5_takeFrom_43 : decode cX5_takeFrom 43 = .ok (.getfield 151, 3) := by decide +kernel
theorem dX5_takeFrom_46 : decode cX5_takeFrom 46 = .ok (.putfield 151, 3) := by decide +kernel
theorem dX5_takeFrom_49 : decode cX5_takeFrom 49 = .ok (.iconst 0, 1) := by decide +kernel
theorem dX5_takeFrom_50 : decode cX5_takeFrom 50 = .ok (.istore_n 2, 1) := by decide +kernel
theorem dX5_takeFrom_51 : decode cX5_takeFrom 51 = .ok (.iload_n 2, 1) := by decide +kernel
theorem dX5_takeFrom_52 : decode cX5_takeFrom 52 = .ok (.iconst 4, 1) := by decide +kernel
theorem dX5_takeFrom_53 : decode cX5_takeFrom 53 = .ok (.if_icmp .ge 24, 3) := by decide +kernel
theorem dX5_takeFrom_56 : decode cX5_takeFrom 56 = .ok (.aload_n 1, 1) := by decide +kernel
theorem dX5_takeFrom_57 : decode cX5_takeFrom 57 = .ok (.getfield 51, 3) := by decide +kernel
theorem dX5_takeFrom_60 : decode cX5_takeFrom 60 = .ok (.iload_n 2, 1) := by decide +kernel
theorem dX5_takeFrom_61 : decode cX5_takeFrom 61 = .ok (.aaload, 1) := by decide +kernel
theorem dX5_takeFrom_62 : decode cX5_takeFrom 62 = .ok (.aload_n 0, 1) := by decide +kernel
theorem dX5_takeFrom_63 : decode cX5_takeFrom 63 = .ok (.getfield 51, 3) := by decide +kernel
theorem dX5_takeFrom_66 : decode cX5_takeFrom 66 = .ok (.iload_n 2, 1) := by decide +kernel
theorem dX5_takeFrom_67 : decode cX5_takeFrom 67 = .ok (.aaload, 1) := by decide +kernel
theorem dX5_takeFrom_68 : decode cX5_takeFrom 68 = .ok (.invokestatic 372, 3) := by decide +kernel
theorem dX5_takeFrom_71 : decode cX5_takeFrom 71 = .ok (.iinc 2 1, 3) := by decide +kernel
theorem dX5_takeFrom_74 : decode cX5_takeFrom 74 = .ok (.goto (-23), 3) := by decide +kernel
theorem dX5_takeFrom_77 : decode cX5_takeFrom 77 = .ok (.aload_n 0, 1) := by decide +kernel
theorem dX5_takeFrom_78 : decode cX5_takeFrom 78 = .ok (.aload_n 1, 1) := by decide +kernel
theorem dX5_takeFrom_79 : decode cX5_takeFrom 79 = .ok (.getfield 137, 3) := by decide +kernel
theorem dX5_takeFrom_82 : decode cX5_takeFrom 82 = .ok (.putfield 137, 3) := by decide +kernel
theorem dX5_takeFrom_85 : decode cX5_takeFrom 85 = .ok (.aload_n 1, 1) := by decide +kernel
theorem dX5_takeFrom_86 : decode cX5_takeFrom 86 = .ok (.getfield 54, 3) := by decide +kernel
theorem dX5_takeFrom_89 : decode cX5_takeFrom 89 = .ok (.aload_n 0, 1) := by decide +kernel
theorem dX5_takeFrom_90 : decode cX5_takeFrom 90 = .ok (.getfield 54, 3) := by decide +kernel
theorem dX5_takeFrom_93 : decode cX5_takeFrom 93 = .ok (.invokestatic 372, 3) := by decide +kernel
theorem dX5_takeFrom_96 : decode cX5_takeFrom 96 = .ok (.aload_n 0, 1) := by decide +kernel
theorem dX5_takeFrom_97 : decode cX5_takeFrom 97 = .ok (.aload_n 1, 1) := by decide +kernel
theorem dX5_takeFrom_98 : decode cX5_takeFrom 98 = .ok (.getfield 57, 3) := by decide +kernel
theorem dX5_takeFrom_101 : decode cX5_takeFrom 101 = .ok (.putfield 57, 3) := by decide +kernel
theorem dX5_takeFrom_104 : decode cX5_takeFrom 104 = .ok (.return_, 1) := by decide +kernel
theorem dX5_image_0 : decode cX5_image 0 = .ok (.aload_n 0, 1) := by decide +kernel
theorem dX5_image_1 : decode cX5_image 1 = .ok (.getfield 376, 3) := by decide +kernel
theorem dX5_image_4 : decode cX5_image 4 = .ok (.ifnonnull 14, 3) := by decide +kernel
theorem dX5_image_7 : decode cX5_image 7 = .ok (.aload_n 0, 1) := by decide +kernel
theorem dX5_image_8 : decode cX5_image 8 = .ok (.new 8, 3) := by decide +kernel
theorem dX5_image_11 : decode cX5_image 11 = .ok (.dup, 1) := by decide +kernel
theorem dX5_image_12 : decode cX5_image 12 = .ok (.invokespecial 371, 3) := by decide +kernel
theorem dX5_image_15 : decode cX5_image 15 = .ok (.putfield 376, 3) := by decide +kernel
theorem dX5_image_18 : decode cX5_image 18 = .ok (.aload_n 0, 1) := by decide +kernel
theorem dX5_image_19 : decode cX5_image 19 = .ok (.getfield 376, 3) := by decide +kernel
theorem dX5_image_22 : decode cX5_image 22 = .ok (.aload_n 0, 1) := by decide +kernel
theorem dX5_image_23 : decode cX5_image 23 = .ok (.invokevirtual 248, 3) := by decide +kernel
theorem dX5_image_26 : decode cX5_image 26 = .ok (.iconst 1, 1) := by decide +kernel
theorem dX5_image_27 : decode cX5_image 27 = .ok (.ireturn, 1) := by decide +kernel
theorem dX5_back_0 : decode cX5_back 0 = .ok (.aload_n 0, 1) := by decide +kernel
theorem dX5_back_1 : decode cX5_back 1 = .ok (.getfield 376, 3) := by decide +kernel
theorem dX5_back_4 : decode cX5_back 4 = .ok (.ifnonnull 10, 3) := by decide +kernel
theorem dX5_back_7 : decode cX5_back 7 = .ok (.aload_n 0, 1) := by decide +kernel
theorem dX5_back_8 : decode cX5_back 8 = .ok (.bipush (-5), 2) := by decide +kernel
theorem dX5_back_10 : decode cX5_back 10 = .ok (.invokevirtual 103, 3) := by decide +kernel
theorem dX5_back_13 : decode cX5_back 13 = .ok (.ireturn, 1) := by decide +kernel
theorem dX5_back_14 : decode cX5_back 14 = .ok (.aload_n 0, 1) := by decide +kernel
theorem dX5_back_15 : decode cX5_back 15 = .ok (.aload_n 0, 1) := by decide +kernel
theorem dX5_back_16 : decode cX5_back 16 = .ok (.getfield 376, 3) := by decide +kernel
theorem dX5_back_19 : decode cX5_back 19 = .ok (.invokevirtual 248, 3) := by decide +kernel
theorem dX5_back_22 : decode cX5_back 22 = .ok (.iconst 1, 1) := by decide +kernel
theorem dX5_back_23 : decode cX5_back 23 = .ok (.ireturn, 1) := by decide +kernel
theorem dX5_status_0 : decode cX5_status 0 = .ok (.iconst 0, 1) := by decide +kernel
theorem dX5_status_1 : decode cX5_status 1 = .ok (.istore_n 2, 1) := by decide +kernel
theorem dX5_status_2 : decode cX5_status 2 = .ok (.iload_n 1, 1) := by decide +kernel
theorem dX5_status_3 : decode cX5_status 3 = .ok (.tableswitch 153 0 10 #[57, 62, 67, 72, 77, 82, 92, 101, 106, 111, 144], 57) := by decide +kernel
theorem dX5_status_60 : decode cX5_status 60 = .ok (.aload_n 0, 1) := by decide +kernel
theorem dX5_status_61 : decode cX5_status 61 = .ok (.getfield 130, 3) := by decide +kernel
theorem dX5_status_64 : decode cX5_status 64 = .ok (.ireturn, 1) := by decide +kernel
theorem dX5_status_65 : decode cX5_status 65 = .ok (.aload_n 0, 1) := by decide +kernel
theorem dX5_status_66 : decode cX5_status 66 = .ok (.invokevirtual 140, 3) := by decide +kernel
theorem dX5_status_69 : decode cX5_status 69 = .ok (.ireturn, 1) := by decide +kernel
theorem dX5_status_70 : decode cX5_status 70 = .ok (.aload_n 0, 1) := by decide +kernel
theorem dX5_status_71 : decode cX5_status 71 = .ok (.getfield 137, 3) := by decide +kernel
theorem dX5_status_74 : decode cX5_status 74 = .ok (.ireturn, 1) := by decide +kernel
theorem dX5_status_75 : decode cX5_status 75 = .ok (.aload_n 0, 1) := by decide +kernel
theorem dX5_status_76 : decode cX5_status 76 = .ok (.getfield 151, 3) := by decide +kernel
theorem dX5_status_79 : decode cX5_status 79 = .ok (.ireturn, 1) := by decide +kernel
theorem dX5_status_80 : decode cX5_status 80 = .ok (.aload_n 0, 1) := by decide +kernel
theorem dX5_status_81 : decode cX5_status 81 = .ok (.invokevirtual 133, 3) := by decide +kernel
theorem dX5_status_84 : decode cX5_status 84 = .ok (.ireturn, 1) := by decide +kernel
theorem dX5_status_85 : decode cX5_status 85 = .ok (.aload_n 0, 1) := by decide +kernel
theorem dX5_status_86 : decode cX5_status 86 = .ok (.invokevirtual 140, 3) := by decide +kernel
theorem dX5_status_89 : decode cX5_status 89 = .ok (.aload_n 0, 1) := by decide +kernel
theorem dX5_status_90 : decode cX5_status 90 = .ok (.invokevirtual 133, 3) := by decide +kernel
theorem dX5_status_93 : decode cX5_status 93 = .ok (.isub, 1) := by decide +kernel
theorem dX5_status_94 : decode cX5_status 94 = .ok (.ireturn, 1) := by decide +kernel
theorem dX5_status_95 : decode cX5_status 95 = .ok (.aload_n 0, 1) := by decide +kernel
theorem dX5_status_96 : decode cX5_status 96 = .ok (.aload_n 0, 1) := by decide +kernel
theorem dX5_status_97 : decode cX5_status 97 = .ok (.getfield 137, 3) := by decide +kernel
theorem dX5_status_100 : decode cX5_status 100 = .ok (.invokevirtual 257, 3) := by decide +kernel
theorem dX5_status_103 : decode cX5_status 103 = .ok (.ireturn, 1) := by decide +kernel
theorem dX5_status_104 : decode cX5_status 104 = .ok (.aload_n 0, 1) := by decide +kernel
theorem dX5_status_105 : decode cX5_status 105 = .ok (.getfield 159, 3) := by decide +kernel
theorem dX5_status_108 : decode cX5_status 108 = .ok (.ireturn, 1) := by decide +kernel
theorem dX5_status_109 : decode cX5_status 109 = .ok (.aload_n 0, 1) := by decide +kernel
theorem dX5_status_110 : decode cX5_status 110 = .ok (.getfield 57, 3) := by decide +kernel
theorem dX5_status_113 : decode cX5_status 113 = .ok (.ireturn, 1) := by decide +kernel
theorem dX5_status_114 : decode cX5_status 114 = .ok (.iconst 0, 1) := by decide +kernel
theorem dX5_status_115 : decode cX5_status 115 = .ok (.istore_n 3, 1) := by decide +kernel
theorem dX5_status_116 : decode cX5_status 116 = .ok (.iload_n 3, 1) := by decide +kernel
theorem dX5_status_117 : decode cX5_status 117 = .ok (.bipush 8, 2) := by decide +kernel
theorem dX5_status_119 : decode cX5_status 119 = .ok (.if_icmp .ge 26, 3) := by decide +kernel
theorem dX5_status_122 : decode cX5_status 122 = .ok (.iload_n 2, 1) := by decide +kernel
theorem dX5_status_123 : decode cX5_status 123 = .ok (.aload_n 0, 1) := by decide +kernel
theorem dX5_status_124 : decode cX5_status 124 = .ok (.getfield 7, 3) := by decide +kernel
theorem dX5_status_127 : decode cX5_status 127 = .ok (.iload_n 3, 1) := by decide +kernel
theorem dX5_status_128 : decode cX5_status 128 = .ok (.iaload, 1) := by decide +kernel
theorem dX5_status_129 : decode cX5_status 129 = .ok (.ifCond .eq 7, 3) := by decide +kernel
theorem dX5_status_132 : decode cX5_status 132 = .ok (.iconst 1, 1) := by decide +kernel
theorem dX5_status_133 : decode cX5_status 133 = .ok (.goto 4, 3) := by decide +kernel
theorem dX5_status_136 : decode cX5_status 136 = .ok (.iconst 0, 1) := by decide +kernel
theorem dX5_status_137 : decode cX5_status 137 = .ok (.iadd, 1) := by decide +kernel
theorem dX5_status_138 : decode cX5_status 138 = .ok (.istore_n 2, 1) := by decide +kernel
theorem dX5_status_139 : decode cX5_status 139 = .ok (.iinc 3 1, 3) := by decide +kernel
theorem dX5_status_142 : decode cX5_status 142 = .ok (.goto (-26), 3) := by decide +kernel
theorem dX5_status_145 : decode cX5_status 145 = .ok (.iload_n 2, 1) := by decide +kernel
theorem dX5_status_146 : decode cX5_status 146 = .ok (.ireturn, 1) := by decide +kernel
theorem dX5_status_147 : decode cX5_status 147 = .ok (.aload_n 0, 1) := by decide +kernel
theorem dX5_status_148 : decode cX5_status 148 = .ok (.aload_n 0, 1) := by decide +kernel
theorem dX5_status_149 : decode cX5_status 149 = .ok (.getfield 137, 3) := by decide +kernel
theorem dX5_status_152 : decode cX5_status 152 = .ok (.invokevirtual 283, 3) := by decide +kernel
theorem dX5_status_155 : decode cX5_status 155 = .ok (.ireturn, 1) := by decide +kernel
theorem dX5_status_156 : decode cX5_status 156 = .ok (.iload_n 1, 1) := by decide +kernel
theorem dX5_status_157 : decode cX5_status 157 = .ok (.i2l, 1) := by decide +kernel
theorem dX5_status_158 : decode cX5_status 158 = .ok (.ldc2_w 379, 3) := by decide +kernel
theorem dX5_status_161 : decode cX5_status 161 = .ok (.ldc2_w 381, 3) := by decide +kernel
theorem dX5_status_164 : decode cX5_status 164 = .ok (.invokestatic 95, 3) := by decide +kernel
theorem dX5_status_167 : decode cX5_status 167 = .ok (.ifCond .eq 15, 3) := by decide +kernel
theorem dX5_status_170 : decode cX5_status 170 = .ok (.aload_n 0, 1) := by decide +kernel
theorem dX5_status_171 : decode cX5_status 171 = .ok (.getfield 37, 3) := by decide +kernel
theorem dX5_status_174 : decode cX5_status 174 = .ok (.iload_n 1, 1) := by decide +kernel
theorem dX5_status_175 : decode cX5_status 175 = .ok (.bipush 10, 2) := by decide +kernel
theorem dX5_status_177 : decode cX5_status 177 = .ok (.isub, 1) := by decide +kernel
theorem dX5_status_178 : decode cX5_status 178 = .ok (.iaload, 1) := by decide +kernel
theorem dX5_status_179 : decode cX5_status 179 = .ok (.goto 4, 3) := by decide +kernel
theorem dX5_status_182 : decode cX5_status 182 = .ok (.iconst (-1), 1) := by decide +kernel
theorem dX5_status_183 : decode cX5_status 183 = .ok (.ireturn, 1) := by decide +kernel
