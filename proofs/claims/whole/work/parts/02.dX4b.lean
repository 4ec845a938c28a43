theorem dX4_order_85 : decode cX4_order 85 = .ok (.lload 7, 2) := by decide +kernel
theorem dX4_order_87 : decode cX4_order 87 = .ok (.lstore 4, 2) := by decide +kernel
theorem dX4_order_89 : decode cX4_order 89 = .ok (.iinc 6 1, 3) := by decide +kernel
theorem dX4_order_92 : decode cX4_order 92 = .ok (.goto (-57), 3) := by decide +kernel
theorem dX4_order_95 : decode cX4_order 95 = .ok (.aload_n 0, 1) := by decide +kernel
theorem dX4_order_96 : decode cX4_order 96 = .ok (.iload_n 3, 1) := by decide +kernel
theorem dX4_order_97 : decode cX4_order 97 = .ok (.invokevirtual 276, 3) := by decide +kernel
theorem dX4_order_100 : decode cX4_order 100 = .ok (.aload_n 0, 1) := by decide +kernel
theorem dX4_order_101 : decode cX4_order 101 = .ok (.getfield 42, 3) := by decide +kernel
theorem dX4_order_104 : decode cX4_order 104 = .ok (.iload_n 2, 1) := by decide +kernel
theorem dX4_order_105 : decode cX4_order 105 = .ok (.iaload, 1) := by decide +kernel
theorem dX4_order_106 : decode cX4_order 106 = .ok (.ireturn, 1) := by decide +kernel
theorem dX4_lost_0 : decode cX4_lost 0 = .ok (.iload_n 1, 1) := by decide +kernel
theorem dX4_lost_1 : decode cX4_lost 1 = .ok (.bipush 20, 2) := by decide +kernel
theorem dX4_lost_3 : decode cX4_lost 3 = .ok (.invokestatic 54, 3) := by decide +kernel
theorem dX4_lost_6 : decode cX4_lost 6 = .ok (.ifCond .ne 10, 3) := by decide +kernel
theorem dX4_lost_9 : decode cX4_lost 9 = .ok (.aload_n 0, 1) := by decide +kernel
theorem dX4_lost_10 : decode cX4_lost 10 = .ok (.bipush (-2), 2) := by decide +kernel
theorem dX4_lost_12 : decode cX4_lost 12 = .ok (.invokevirtual 58, 3) := by decide +kernel
theorem dX4_lost_15 : decode cX4_lost 15 = .ok (.ireturn, 1) := by decide +kernel
theorem dX4_lost_16 : decode cX4_lost 16 = .ok (.iconst 2, 1) := by decide +kernel
theorem dX4_lost_17 : decode cX4_lost 17 = .ok (.aload_n 0, 1) := by decide +kernel
theorem dX4_lost_18 : decode cX4_lost 18 = .ok (.getfield 12, 3) := by decide +kernel
theorem dX4_lost_21 : decode cX4_lost 21 = .ok (.getfield 279, 3) := by decide +kernel
theorem dX4_lost_24 : decode cX4_lost 24 = .ok (.imul, 1) := by decide +kernel
theorem dX4_lost_25 : decode cX4_lost 25 = .ok (.aload_n 0, 1) := by decide +kernel
theorem dX4_lost_26 : decode cX4_lost 26 = .ok (.getfield 12, 3) := by decide +kernel
theorem dX4_lost_29 : decode cX4_lost 29 = .ok (.getfield 282, 3) := by decide +kernel
theorem dX4_lost_32 : decode cX4_lost 32 = .ok (.isub, 1) := by decide +kernel
theorem dX4_lost_33 : decode cX4_lost 33 = .ok (.invokestatic 285, 3) := by decide +kernel
theorem dX4_lost_36 : decode cX4_lost 36 = .ok (.istore_n 2, 1) := by decide +kernel
theorem dX4_lost_37 : decode cX4_lost 37 = .ok (.lconst 0, 1) := by decide +kernel
theorem dX4_lost_38 : decode cX4_lost 38 = .ok (.lstore_n 3, 1) := by decide +kernel
theorem dX4_lost_39 : decode cX4_lost 39 = .ok (.iconst 0, 1) := by decide +kernel
theorem dX4_lost_40 : decode cX4_lost 40 = .ok (.istore 5, 2) := by decide +kernel
theorem dX4_lost_42 : decode cX4_lost 42 = .ok (.iload 5, 2) := by decide +kernel
theorem dX4_lost_44 : decode cX4_lost 44 = .ok (.iload_n 1, 1) := by decide +kernel
theorem dX4_lost_45 : decode cX4_lost 45 = .ok (.if_icmp .gt 45, 3) := by decide +kernel
theorem dX4_lost_48 : decode cX4_lost 48 = .ok (.iload_n 2, 1) := by decide +kernel
theorem dX4_lost_49 : decode cX4_lost 49 = .ok (.iconst 2, 1) := by decide +kernel
theorem dX4_lost_50 : decode cX4_lost 50 = .ok (.iload 5, 2) := by decide +kernel
theorem dX4_lost_52 : decode cX4_lost 52 = .ok (.imul, 1) := by decide +kernel
theorem dX4_lost_53 : decode cX4_lost 53 = .ok (.iadd, 1) := by decide +kernel
theorem dX4_lost_54 : decode cX4_lost 54 = .ok (.iload_n 1, 1) := by decide +kernel
theorem dX4_lost_55 : decode cX4_lost 55 = .ok (.isub, 1) := by decide +kernel
theorem dX4_lost_56 : decode cX4_lost 56 = .ok (.istore 6, 2) := by decide +kernel
theorem dX4_lost_58 : decode cX4_lost 58 = .ok (.iload_n 2, 1) := by decide +kernel
theorem dX4_lost_59 : decode cX4_lost 59 = .ok (.ifCond .ne 11, 3) := by decide +kernel
theorem dX4_lost_62 : decode cX4_lost 62 = .ok (.iload 6, 2) := by decide +kernel
theorem dX4_lost_64 : decode cX4_lost 64 = .ok (.ifCond .le 20, 3) := by decide +kernel
theorem dX4_lost_67 : decode cX4_lost 67 = .ok (.goto 8, 3) := by decide +kernel
theorem dX4_lost_70 : decode cX4_lost 70 = .ok (.iload 6, 2) := by decide +kernel
theorem dX4_lost_72 : decode cX4_lost 72 = .ok (.ifCond .gt 12, 3) := by decide +kernel
theorem dX4_lost_75 : decode cX4_lost 75 = .ok (.lload_n 3, 1) := by decide +kernel
theorem dX4_lost_76 : decode cX4_lost 76 = .ok (.iload_n 1, 1) := by decide +kernel
theorem dX4_lost_77 : decode cX4_lost 77 = .ok (.iload 5, 2) := by decide +kernel
theorem dX4_lost_79 : decode cX4_lost 79 = .ok (.invokestatic 290, 3) := by decide +kernel
theorem dX4_lost_82 : decode cX4_lost 82 = .ok (.ladd, 1) := by decide +kernel
theorem dX4_lost_83 : decode cX4_lost 83 = .ok (.lstore_n 3, 1) := by decide +kernel
theorem dX4_lost_84 : decode cX4_lost 84 = .ok (.iinc 5 1, 3) := by decide +kernel
theorem dX4_lost_87 : decode cX4_lost 87 = .ok (.goto (-45), 3) := by decide +kernel
theorem dX4_lost_90 : decode cX4_lost 90 = .ok (.lload_n 3, 1) := by decide +kernel
theorem dX4_lost_91 : decode cX4_lost 91 = .ok (.l2i, 1) := by decide +kernel
theorem dX4_lost_92 : decode cX4_lost 92 = .ok (.ireturn, 1) := by decide +kernel
theorem dX4_books_0 : decode cX4_books 0 = .ok (.aload_n 0, 1) := by decide +kernel
theorem dX4_books_1 : decode cX4_books 1 = .ok (.iload_n 1, 1) := by decide +kernel
theorem dX4_books_2 : decode cX4_books 2 = .ok (.iload_n 2, 1) := by decide +kernel
theorem dX4_books_3 : decode cX4_books 3 = .ok (.invokevirtual 294, 3) := by decide +kernel
theorem dX4_books_6 : decode cX4_books 6 = .ok (.istore_n 3, 1) := by decide +kernel
theorem dX4_books_7 : decode cX4_books 7 = .ok (.iload_n 3, 1) := by decide +kernel
theorem dX4_books_8 : decode cX4_books 8 = .ok (.ifCond .eq 9, 3) := by decide +kernel
theorem dX4_books_11 : decode cX4_books 11 = .ok (.aload_n 0, 1) := by decide +kernel
theorem dX4_books_12 : decode cX4_books 12 = .ok (.iload_n 3, 1) := by decide +kernel
theorem dX4_books_13 : decode cX4_books 13 = .ok (.invokevirtual 58, 3) := by decide +kernel
theorem dX4_books_16 : decode cX4_books 16 = .ok (.ireturn, 1) := by decide +kernel
theorem dX4_books_17 : decode cX4_books 17 = .ok (.aload_n 0, 1) := by decide +kernel
theorem dX4_books_18 : decode cX4_books 18 = .ok (.getfield 38, 3) := by decide +kernel
theorem dX4_books_21 : decode cX4_books 21 = .ok (.iload_n 1, 1) := by decide +kernel
theorem dX4_books_22 : decode cX4_books 22 = .ok (.aaload, 1) := by decide +kernel
theorem dX4_books_23 : decode cX4_books 23 = .ok (.aload_n 0, 1) := by decide +kernel
theorem dX4_books_24 : decode cX4_books 24 = .ok (.getfield 38, 3) := by decide +kernel
theorem dX4_books_27 : decode cX4_books 27 = .ok (.iload_n 2, 1) := by decide +kernel
theorem dX4_books_28 : decode cX4_books 28 = .ok (.aaload, 1) := by decide +kernel
theorem dX4_books_29 : decode cX4_books 29 = .ok (.invokestatic 297, 3) := by decide +kernel
theorem dX4_books_32 : decode cX4_books 32 = .ok (.iconst (-1), 1) := by decide +kernel
theorem dX4_books_33 : decode cX4_books 33 = .ok (.if_icmp .ne 22, 3) := by decide +kernel
theorem dX4_books_36 : decode cX4_books 36 = .ok (.aload_n 0, 1) := by decide +kernel
theorem dX4_books_37 : decode cX4_books 37 = .ok (.aload_n 0, 1) := by decide +kernel
theorem dX4_books_38 : decode cX4_books 38 = .ok (.getfield 38, 3) := by decide +kernel
theorem dX4_books_41 : decode cX4_books 41 = .ok (.iload_n 1, 1) := by decide +kernel
theorem dX4_books_42 : decode cX4_books 42 = .ok (.aaload, 1) := by decide +kernel
theorem dX4_books_43 : decode cX4_books 43 = .ok (.aload_n 0, 1) := by decide +kernel
theorem dX4_books_44 : decode cX4_books 44 = .ok (.getfield 38, 3) := by decide +kernel
theorem dX4_books_47 : decode cX4_books 47 = .ok (.iload_n 2, 1) := by decide +kernel
theorem dX4_books_48 : decode cX4_books 48 = .ok (.aaload, 1) := by decide +kernel
theorem dX4_books_49 : decode cX4_books 49 = .ok (.invokevirtual 301, 3) := by decide +kernel
theorem dX4_books_52 : decode cX4_books 52 = .ok (.goto 4, 3) := by decide +kernel
theorem dX4_books_55 : decode cX4_books 55 = .ok (.iconst 0, 1) := by decide +kernel
theorem dX4_books_56 : decode cX4_books 56 = .ok (.ireturn, 1) := by decide +kernel
theorem dX4_unlike_0 : decode cX4_unlike 0 = .ok (.aload_n 0, 1) := by decide +kernel
theorem dX4_unlike_1 : decode cX4_unlike 1 = .ok (.iload_n 1, 1) := by decide +kernel
theorem dX4_unlike_2 : decode cX4_unlike 2 = .ok (.iload_n 2, 1) := by decide +kernel
theorem dX4_unlike_3 : decode cX4_unlike 3 = .ok (.invokevirtual 294, 3) := by decide +kernel
theorem dX4_unlike_6 : decode cX4_unlike 6 = .ok (.istore_n 3, 1) := by decide +kernel
theorem dX4_unlike_7 : decode cX4_unlike 7 = .ok (.iload_n 3, 1) := by decide +kernel
theorem dX4_unlike_8 : decode cX4_unlike 8 = .ok (.ifCond .eq 11, 3) := by decide +kernel
theorem dX4_unlike_11 : decode cX4_unlike 11 = .ok (.aload_n 0, 1) := by decide +kernel
theorem dX4_unlike_12 : decode cX4_unlike 12 = .ok (.iload_n 3, 1) := by decide +kernel
theorem dX4_unlike_13 : decode cX4_unlike 13 = .ok (.invokevirtual 58, 3) := by decide +kernel
theorem dX4_unlike_16 : decode cX4_unlike 16 = .ok (.goto 18, 3) := by decide +kernel
theorem dX4_unlike_19 : decode cX4_unlike 19 = .ok (.aload_n 0, 1) := by decide +kernel
theorem dX4_unlike_20 : decode cX4_unlike 20 = .ok (.getfield 38, 3) := by decide +kernel
theorem dX4_unlike_23 : decode cX4_unlike 23 = .ok (.iload_n 1, 1) := by decide +kernel
theorem dX4_unlike_24 : decode cX4_unlike 24 = .ok (.aaload, 1) := by decide +kernel
theorem dX4_unlike_25 : decode cX4_unlike 25 = .ok (.aload_n 0, 1) := by decide +kernel
theorem dX4_unlike_26 : decode cX4_unlike 26 = .ok (.getfield 38, 3) := by decide +kernel
theorem dX4_unlike_29 : decode cX4_unlike 29 = .ok (.iload_n 2, 1) := by decide +kernel
theorem dX4_unlike_30 : decode cX4_unlike 30 = .ok (.aaload, 1) := by decide +kernel
theorem dX4_unlike_31 : decode cX4_unlike 31 = .ok (.invokestatic 297, 3) := by decide +kernel
theorem dX4_unlike_34 : decode cX4_unlike 34 = .ok (.ireturn, 1) := by decide +kernel
theorem dX4_draw_0 : decode cX4_draw 0 = .ok (.aload_n 0, 1) := by decide +kernel
theorem dX4_draw_1 : decode cX4_draw 1 = .ok (.getfield 12, 3) := by decide +kernel
theorem dX4_draw_4 : decode cX4_draw 4 = .ok (.getfield 120, 3) := by decide +kernel
theorem dX4_draw_7 : decode cX4_draw 7 = .ok (.aload_n 0, 1) := by decide +kernel
theorem dX4_draw_8 : decode cX4_draw 8 = .ok (.getfield 12, 3) := by decide +kernel
theorem dX4_draw_11 : decode cX4_draw 11 = .ok (.getfield 282, 3) := by decide +kernel
theorem dX4_draw_14 : decode cX4_draw 14 = .ok (.if_icmp .lt 10, 3) := by decide +kernel
theorem dX4_draw_17 : decode cX4_draw 17 = .ok (.aload_n 0, 1) := by decide +kernel
theorem dX4_draw_18 : decode cX4_draw 18 = .ok (.bipush (-5), 2) := by decide +kernel
theorem dX4_draw_20 : decode cX4_draw 20 = .ok (.invokevirtual 58, 3) := by decide +kernel
theorem dX4_draw_23 : decode cX4_draw 23 = .ok (.ireturn, 1) := by decide +kernel
theorem dX4_draw_24 : decode cX4_draw 24 = .ok (.aload_n 0, 1) := by decide +kernel
theorem dX4_draw_25 : decode cX4_draw 25 = .ok (.getfield 12, 3) := by decide +kernel
theorem dX4_draw_28 : decode cX4_draw 28 = .ok (.invokevirtual 304, 3) := by decide +kernel
theorem dX4_draw_31 : decode cX4_draw 31 = .ok (.ireturn, 1) := by decide +kernel
theorem dX4_evening_0 : decode cX4_evening 0 = .ok (.aload_n 0, 1) := by decide +kernel
theorem dX4_evening_1 : decode cX4_evening 1 = .ok (.getfield 12, 3) := by decide +kernel
theorem dX4_evening_4 : decode cX4_evening 4 = .ok (.getfield 282, 3) := by decide +kernel
theorem dX4_evening_7 : decode cX4_evening 7 = .ok (.aload_n 0, 1) := by decide +kernel
theorem dX4_evening_8 : decode cX4_evening 8 = .ok (.getfield 12, 3) := by decide +kernel
theorem dX4_evening_11 : decode cX4_evening 11 = .ok (.getfield 120, 3) := by decide +kernel
theorem dX4_evening_14 : decode cX4_evening 14 = .ok (.isub, 1) := by decide +kernel
theorem dX4_evening_15 : decode cX4_evening 15 = .ok (.istore_n 1, 1) := by decide +kernel
theorem dX4_evening_16 : decode cX4_evening 16 = .ok (.iconst 0, 1) := by decide +kernel
theorem dX4_evening_17 : decode cX4_evening 17 = .ok (.istore_n 2, 1) := by decide +kernel
theorem dX4_evening_18 : decode cX4_evening 18 = .ok (.iload_n 2, 1) := by decide +kernel
theorem dX4_evening_19 : decode cX4_evening 19 = .ok (.iload_n 1, 1) := by decide +kernel
theorem dX4_evening_20 : decode cX4_evening 20 = .ok (.if_icmp .ge 17, 3) := by decide +kernel
theorem dX4_evening_23 : decode cX4_evening 23 = .ok (.aload_n 0, 1) := by decide +kernel
theorem dX4_evening_24 : decode cX4_evening 24 = .ok (.getfield 12, 3) := by decide +kernel
theorem dX4_evening_27 : decode cX4_evening 27 = .ok (.invokevirtual 304, 3) := by decide +kernel
theorem dX4_evening_30 : decode cX4_evening 30 = .ok (.pop, 1) := by decide +kernel
theorem dX4_evening_31 : decode cX4_evening 31 = .ok (.iinc 2 1, 3) := by decide +kernel
theorem dX4_evening_34 : decode cX4_evening 34 = .ok (.goto (-16), 3) := by decide +kernel
theorem dX4_evening_37 : decode cX4_evening 37 = .ok (.aload_n 0, 1) := by decide +kernel
theorem dX4_evening_38 : decode cX4_evening 38 = .ok (.getfield 12, 3) := by decide +kernel
theorem dX4_evening_41 : decode cX4_evening 41 = .ok (.invokevirtual 307, 3) := by decide +kernel
theorem dX4_evening_44 : decode cX4_evening 44 = .ok (.ireturn, 1) := by decide +kernel
theorem dX4_seed_0 : decode cX4_seed 0 = .ok (.aload_n 0, 1) := by decide +kernel
theorem dX4_seed_1 : decode cX4_seed 1 = .ok (.getfield 12, 3) := by decide +kernel
theorem dX4_seed_4 : decode cX4_seed 4 = .ok (.getfield 310, 3) := by decide +kernel
theorem dX4_seed_7 : decode cX4_seed 7 = .ok (.istore_n 2, 1) := by decide +kernel
theorem dX4_seed_8 : decode cX4_seed 8 = .ok (.aload_n 0, 1) := by decide +kernel
theorem dX4_seed_9 : decode cX4_seed 9 = .ok (.getfield 12, 3) := by decide +kernel
theorem dX4_seed_12 : decode cX4_seed 12 = .ok (.iload_n 1, 1) := by decide +kernel
theorem dX4_seed_13 : decode cX4_seed 13 = .ok (.putfield 310, 3) := by decide +kernel
theorem dX4_seed_16 : decode cX4_seed 16 = .ok (.iload_n 2, 1) := by decide +kernel
theorem dX4_seed_17 : decode cX4_seed 17 = .ok (.ireturn, 1) := by decide +kernel
theorem dX4_image_0 : decode cX4_image 0 = .ok (.aload_n 0, 1) := by decide +kernel
theorem dX4_image_1 : decode cX4_image 1 = .ok (.getfield 16, 3) := by decide +kernel
theorem dX4_image_4 : decode cX4_image 4 = .ok (.aload_n 0, 1) := by decide +kernel
theorem dX4_image_5 : decode cX4_image 5 = .ok (.getfield 12, 3) := by decide +kernel
theorem dX4_image_8 : decode cX4_image 8 = .ok (.invokevirtual 151, 3) := by decide +kernel
theorem dX4_image_11 : decode cX4_image 11 = .ok (.aload_n 0, 1) := by decide +kernel
theorem dX4_image_12 : decode cX4_image 12 = .ok (.iconst 1, 1) := by decide +kernel
theorem dX4_image_13 : decode cX4_image 13 = .ok (.putfield 313, 3) := by decide +kernel
theorem dX4_image_16 : decode cX4_image 16 = .ok (.iconst 1, 1) := by decide +kernel
theorem dX4_image_17 : decode cX4_image 17 = .ok (.ireturn, 1) := by decide +kernel
theorem dX4_back_0 : decode cX4_back 0 = .ok (.aload_n 0, 1) := by decide +kernel
theorem dX4_back_1 : decode cX4_back 1 = .ok (.getfield 313, 3) := by decide +kernel
theorem dX4_back_4 : decode cX4_back 4 = .ok (.ifCond .ne 10, 3) := by decide +kernel
theorem dX4_back_7 : decode cX4_back 7 = .ok (.aload_n 0, 1) := by decide +kernel
theorem dX4_back_8 : decode cX4_back 8 = .ok (.bipush (-5), 2) := by decide +kernel
theorem dX4_back_10 : decode cX4_back 10 = .ok (.invokevirtual 58, 3) := by decide +kernel
theorem dX4_back_13 : decode cX4_back 13 = .ok (.ireturn, 1) := by decide +kernel
theorem dX4_back_14 : decode cX4_back 14 = .ok (.aload_n 0, 1) := by decide +kernel
theorem dX4_back_15 : decode cX4_back 15 = .ok (.getfield 12, 3) := by decide +kernel
theorem dX4_back_18 : decode cX4_back 18 = .ok (.aload_n 0, 1) := by decide +kernel
theorem dX4_back_19 : decode cX4_back 19 = .ok (.getfield 16, 3) := by decide +kernel
theorem dX4_back_22 : decode cX4_back 22 = .ok (.invokevirtual 151, 3) := by decide +kernel
theorem dX4_back_25 : decode cX4_back 25 = .ok (.iconst 1, 1) := by decide +kernel
theorem dX4_back_26 : decode cX4_back 26 = .ok (.ireturn, 1) := by decide +kernel
theorem dX4_status_0 : decode cX4_status 0 = .ok (.iload_n 1, 1) := by decide +kernel
theorem dX4_status_1 : decode cX4_status 1 = .ok (.tableswitch 152 0 10 #[59, 67, 75, 83, 91, 99, 115, 123, 131, 139, 144], 59) := by decide +kernel
theorem dX4_status_60 : decode cX4_status 60 = .ok (.aload_n 0, 1) := by decide +kernel
theorem dX4_status_61 : decode cX4_status 61 = .ok (.getfield 12, 3) := by decide +kernel
theorem dX4_status_64 : decode cX4_status 64 = .ok (.getfield 123, 3) := by decide +kernel
theorem dX4_status_67 : decode cX4_status 67 = .ok (.ireturn, 1) := by decide +kernel
theorem dX4_status_68 : decode cX4_status 68 = .ok (.aload_n 0, 1) := by decide +kernel
theorem dX4_status_69 : decode cX4_status 69 = .ok (.getfield 12, 3) := by decide +kernel
theorem dX4_status_72 : decode cX4_status 72 = .ok (.getfield 282, 3) := by decide +kernel
theorem dX4_status_75 : decode cX4_status 75 = .ok (.ireturn, 1) := by decide +kernel
theorem dX4_status_76 : decode cX4_status 76 = .ok (.aload_n 0, 1) := by decide +kernel
theorem dX4_status_77 : decode cX4_status 77 = .ok (.getfield 12, 3) := by decide +kernel
theorem dX4_status_80 : decode cX4_status 80 = .ok (.getfield 120, 3) := by decide +kernel
theorem dX4_status_83 : decode cX4_status 83 = .ok (.ireturn, 1) := by decide +kernel
theorem dX4_status_84 : decode cX4_status 84 = .ok (.aload_n 0, 1) := by decide +kernel
theorem dX4_status_85 : decode cX4_status 85 = .ok (.getfield 12, 3) := by decide +kernel
theorem dX4_status_88 : decode cX4_status 88 = .ok (.getfield 132, 3) := by decide +kernel
theorem dX4_status_91 : decode cX4_status 91 = .ok (.ireturn, 1) := by decide +kernel
theorem dX4_status_92 : decode cX4_status 92 = .ok (.aload_n 0, 1) := by decide +kernel
theorem dX4_status_93 : decode cX4_status 93 = .ok (.getfield 12, 3) := by decide +kernel
theorem dX4_status_96 : decode cX4_status 96 = .ok (.getfield 279, 3) := by decide +kernel
theorem dX4_status_99 : decode cX4_status 99 = .ok (.ireturn, 1) := by decide +kernel
theorem dX4_status_100 : decode cX4_status 100 = .ok (.aload_n 0, 1) := by decide +kernel
theorem dX4_status_101 : decode cX4_status 101 = .ok (.getfield 12, 3) := by decide +kernel
theorem dX4_status_104 : decode cX4_status 104 = .ok (.getfield 282, 3) := by decide +kernel
theorem dX4_status_107 : decode cX4_status 107 = .ok (.aload_n 0, 1) := by decide +kernel
theorem dX4_status_108 : decode cX4_status 108 = .ok (.getfield 12, 3) := by decide +kernel
theorem dX4_status_111 : decode cX4_status 111 = .ok (.getfield 279, 3) := by decide +kernel
theorem dX4_status_114 : decode cX4_status 114 = .ok (.isub, 1) := by decide +kernel
theorem dX4_status_115 : decode cX4_status 115 = .ok (.ireturn, 1) := by decide +kernel
theorem dX4_status_116 : decode cX4_status 116 = .ok (.aload_n 0, 1) := by decide +kernel
theorem dX4_status_117 : decode cX4_status 117 = .ok (.getfield 12, 3) := by decide +kernel
theorem dX4_status_120 : decode cX4_status 120 = .ok (.getfield 190, 3) := by decide +kernel
theorem dX4_status_123 : decode cX4_status 123 = .ok (.ireturn, 1) := by decide +kernel
theorem dX4_status_124 : decode cX4_status 124 = .ok (.aload_n 0, 1) := by decide +kernel
theorem dX4_status_125 : decode cX4_status 125 = .ok (.getfield 32, 3) := by decide +kernel
theorem dX4_status_128 : decode cX4_status 128 = .ok (.getfield 145, 3) := by decide +kernel
theorem dX4_status_131 : decode cX4_status 131 = .ok (.ireturn, 1) := by decide +kernel
theorem dX4_status_132 : decode cX4_status 132 = .ok (.aload_n 0, 1) := by decide +kernel
theorem dX4_status_133 : decode cX4_status 133 = .ok (.getfield 12, 3) := by decide +kernel
theorem dX4_status_136 : decode cX4_status 136 = .ok (.getfield 310, 3) := by decide +kernel
theorem dX4_status_139 : decode cX4_status 139 = .ok (.ireturn, 1) := by decide +kernel
theorem dX4_status_140 : decode cX4_status 140 = .ok (.aload_n 0, 1) := by decide +kernel
theorem dX4_status_141 : decode cX4_status 141 = .ok (.invokevirtual 317, 3) := by decide +kernel
theorem dX4_status_144 : decode cX4_status 144 = .ok (.ireturn, 1) := by decide +kernel
theorem dX4_status_145 : decode cX4_status 145 = .ok (.aload_n 0, 1) := by decide +kernel
theorem dX4_status_146 : decode cX4_status 146 = .ok (.getfield 12, 3) := by decide +kernel
theorem dX4_status_149 : decode cX4_status 149 = .ok (.invokevirtual 320, 3) := by decide +kernel
theorem dX4_status_152 : decode cX4_status 152 = .ok (.ireturn, 1) := by decide +kernel
theorem dX4_status_153 : decode cX4_status 153 = .ok (.iload_n 1, 1) := by decide +kernel
theorem dX4_status_154 : decode cX4_status 154 = .ok (.bipush 12, 2) := by decide +kernel
theorem dX4_status_156 : decode cX4_status 156 = .ok (.if_icmp .lt 27, 3) := by decide +kernel
theorem dX4_status_159 : decode cX4_status 159 = .ok (.iload_n 1, 1) := by decide +kernel
theorem dX4_status_160 : decode cX4_status 160 = .ok (.bipush 12, 2) := by decide +kernel
theorem dX4_status_162 : decode cX4_status 162 = .ok (.isub, 1) := by decide +kernel
theorem dX4_status_163 : decode cX4_status 163 = .ok (.aload_n 0, 1) := by decide +kernel
theorem dX4_status_164 : decode cX4_status 164 = .ok (.getfield 46, 3) := by decide +kernel
theorem dX4_status_167 : decode cX4_status 167 = .ok (.arraylength, 1) := by decide +kernel
theorem dX4_status_168 : decode cX4_status 168 = .ok (.if_icmp .ge 15, 3) := by decide +kernel
theorem dX4_status_171 : decode cX4_status 171 = .ok (.aload_n 0, 1) := by decide +kernel
theorem dX4_status_172 : decode cX4_status 172 = .ok (.getfield 46, 3) := by decide +kernel
theorem dX4_status_175 : decode cX4_status 175 = .ok (.iload_n 1, 1) := by decide +kernel
theorem dX4_status_176 : decode cX4_status 176 = .ok (.bipush 12, 2) := by decide +kernel
theorem dX4_status_178 : decode cX4_status 178 = .ok (.isub, 1) := by decide +kernel
theorem dX4_status_179 : decode cX4_status 179 = .ok (.iaload, 1) := by decide +kernel
theorem dX4_status_180 : decode cX4_status 180 = .ok (.goto 4, 3) := by decide +kernel
theorem dX4_status_183 : decode cX4_status 183 = .ok (.iconst (-1), 1) := by decide +kernel
theorem dX4_status_184 : decode cX4_status 184 = .ok (.ireturn, 1) := by decide +kernel
theorem dX4_isWithin_0 : decode cX4_isWithin 0 = .ok (.iload_n 0, 1) := by decide +kernel
theorem dX4_isWithin_1 : decode cX4_isWithin 1 = .ok (.ifCond .lt 12, 3) := by decide +kernel
theorem dX4_isWithin_4 : decode cX4_isWithin 4 = .ok (.iload_n 0, 1) := by decide +kernel
theorem dX4_isWithin_5 : decode cX4_isWithin 5 = .ok (.iload_n 1, 1) := by decide +kernel
theorem dX4_isWithin_6 : decode cX4_isWithin 6 = .ok (.if_icmp .gt 7, 3) := by decide +kernel
theorem dX4_isWithin_9 : decode cX4_isWithin 9 = .ok (.iconst 1, 1) := by decide +kernel
theorem dX4_isWithin_10 : decode cX4_isWithin 10 = .ok (.goto 4, 3) := by decide +kernel
theorem dX4_isWithin_13 : decode cX4_isWithin 13 = .ok (.iconst 0, 1) := by decide +kernel
theorem dX4_isWithin_14 : decode cX4_isWithin 14 = .ok (.ireturn, 1) := by decide +kernel
theorem dX4_isShelf_0 : decode cX4_isShelf 0 = .ok (.iload_n 0, 1) := by decide +kernel
theorem dX4_isShelf_1 : decode cX4_isShelf 1 = .ok (.bipush 7, 2) := by decide +kernel
theorem dX4_isShelf_3 : decode cX4_isShelf 3 = .ok (.invokestatic 54, 3) := by decide +kernel
theorem dX4_isShelf_6 : decode cX4_isShelf 6 = .ok (.ireturn, 1) := by decide +kernel
theorem dX4_refuse_0 : decode cX4_refuse 0 = .ok (.bipush (-2), 2) := by decide +kernel
theorem dX4_refuse_2 : decode cX4_refuse 2 = .ok (.iload_n 1, 1) := by decide +kernel
theorem dX4_refuse_3 : decode cX4_refuse 3 = .ok (.isub, 1) := by decide +kernel
theorem dX4_refuse_4 : decode cX4_refuse 4 = .ok (.istore_n 2, 1) := by decide +kernel
theorem dX4_refuse_5 : decode cX4_refuse 5 = .ok (.iload_n 2, 1) := by decide +kernel
theorem dX4_refuse_6 : decode cX4_refuse 6 = .ok (.aload_n 0, 1) := by decide +kernel
theorem dX4_refuse_7 : decode cX4_refuse 7 = .ok (.getfield 46, 3) := by decide +kernel
theorem dX4_refuse_10 : decode cX4_refuse 10 = .ok (.arraylength, 1) := by decide +kernel
theorem dX4_refuse_11 : decode cX4_refuse 11 = .ok (.iconst 1, 1) := by decide +kernel
theorem dX4_refuse_12 : decode cX4_refuse 12 = .ok (.isub, 1) := by decide +kernel
theorem dX4_refuse_13 : decode cX4_refuse 13 = .ok (.invokestatic 54, 3) := by decide +kernel
theorem dX4_refuse_16 : decode cX4_refuse 16 = .ok (.ifCond .eq 13, 3) := by decide +kernel
theorem dX4_refuse_19 : decode cX4_refuse 19 = .ok (.aload_n 0, 1) := by decide +kernel
theorem dX4_refuse_20 : decode cX4_refuse 20 = .ok (.getfield 46, 3) := by decide +kernel
theorem dX4_refuse_23 : decode cX4_refuse 23 = .ok (.iload_n 2, 1) := by decide +kernel
theorem dX4_refuse_24 : decode cX4_refuse 24 = .ok (.dup2, 1) := by decide +kernel
theorem dX4_refuse_25 : decode cX4_refuse 25 = .ok (.iaload, 1) := by decide +kernel
theorem dX4_refuse_26 : decode cX4_refuse 26 = .ok (.iconst 1, 1) := by decide +kernel
theorem dX4_refuse_27 : decode cX4_refuse 27 = .ok (.iadd, 1) := by decide +kernel
theorem dX4_refuse_28 : decode cX4_refuse 28 = .ok (.iastore, 1) := by decide +kernel
theorem dX4_refuse_29 : decode cX4_refuse 29 = .ok (.iload_n 1, 1) := by decide +kernel
theorem dX4_refuse_30 : decode cX4_refuse 30 = .ok (.ireturn, 1) := by decide +kernel
theorem dX4_shelvesInUse_0 : decode cX4_shelvesInUse 0 = .ok (.iconst 0, 1) := by decide +kernel
theorem dX4_shelvesInUse_1 : decode cX4_shelvesInUse 1 = .ok (.istore_n 1, 1) := by decide +kernel
theorem dX4_shelvesInUse_2 : decode cX4_shelvesInUse 2 = .ok (.iconst 0, 1) := by decide +kernel
theorem dX4_shelvesInUse_3 : decode cX4_shelvesInUse 3 = .ok (.istore_n 2, 1) := by decide +kernel
theorem dX4_shelvesInUse_4 : decode cX4_shelvesInUse 4 = .ok (.iload_n 2, 1) := by decide +kernel
theorem dX4_shelvesInUse_5 : decode cX4_shelvesInUse 5 = .ok (.bipush 8, 2) := by decide +kernel
theorem dX4_shelvesInUse_7 : decode cX4_shelvesInUse 7 = .ok (.if_icmp .ge 29, 3) := by decide +kernel
theorem dX4_shelvesInUse_10 : decode cX4_shelvesInUse 10 = .ok (.iload_n 1, 1) := by decide +kernel
theorem dX4_shelvesInUse_11 : decode cX4_shelvesInUse 11 = .ok (.aload_n 0, 1) := by decide +kernel
theorem dX4_shelvesInUse_12 : decode cX4_shelvesInUse 12 = .ok (.getfield 38, 3) := by decide +kernel
theorem dX4_shelvesInUse_15 : decode cX4_shelvesInUse 15 = .ok (.iload_n 2, 1) := by decide +kernel
theorem dX4_shelvesInUse_16 : decode cX4_shelvesInUse 16 = .ok (.aaload, 1) := by decide +kernel
theorem dX4_shelvesInUse_17 : decode cX4_shelvesInUse 17 = .ok (.invokevirtual 101, 3) := by decide +kernel
theorem dX4_shelvesInUse_20 : decode cX4_shelvesInUse 20 = .ok (.ifCond .eq 7, 3) := by decide +kernel
theorem dX4_shelvesInUse_23 : decode cX4_shelvesInUse 23 = .ok (.iconst 0, 1) := by decide +kernel
theorem dX4_shelvesInUse_24 : decode cX4_shelvesInUse 24 = .ok (.goto 4, 3) := by decide +kernel
theorem dX4_shelvesInUse_27 : decode cX4_shelvesInUse 27 = .ok (.iconst 1, 1) := by decide +kernel
theorem dX4_shelvesInUse_28 : decode cX4_shelvesInUse 28 = .ok (.iadd, 1) := by decide +kernel
theorem dX4_shelvesInUse_29 : decode cX4_shelvesInUse 29 = .ok (.istore_n 1, 1) := by decide +kernel
theorem dX4_shelvesInUse_30 : decode cX4_shelvesInUse 30 = .ok (.iinc 2 1, 3) := by decide +kernel
theorem dX4_shelvesInUse_33 : decode cX4_shelvesInUse 33 = .ok (.goto (-29), 3) := by decide +kernel
theorem dX4_shelvesInUse_36 : decode cX4_shelvesInUse 36 = .ok (.iload_n 1, 1) := by decide +kernel
theorem dX4_shelvesInUse_37 : decode cX4_shelvesInUse 37 = .ok (.ireturn, 1) := by decide +kernel
theorem dX4_againstRows_0 : decode cX4_againstRows 0 = .ok (.iload_n 1, 1) := by decide +kernel
theorem dX4_againstRows_1 : decode cX4_againstRows 1 = .ok (.invokestatic 50, 3) := by decide +kernel
theorem dX4_againstRows_4 : decode cX4_againstRows 4 = .ok (.ifCond .eq 10, 3) := by decide +kernel
theorem dX4_againstRows_7 : decode cX4_againstRows 7 = .ok (.iload_n 2, 1) := by decide +kernel
theorem dX4_againstRows_8 : decode cX4_againstRows 8 = .ok (.invokestatic 50, 3) := by decide +kernel
theorem dX4_againstRows_11 : decode cX4_againstRows 11 = .ok (.ifCond .ne 6, 3) := by decide +kernel
theorem dX4_againstRows_14 : decode cX4_againstRows 14 = .ok (.bipush (-2), 2) := by decide +kernel
theorem dX4_againstRows_16 : decode cX4_againstRows 16 = .ok (.ireturn, 1) := by decide +kernel
theorem dX4_againstRows_17 : decode cX4_againstRows 17 = .ok (.aload_n 0, 1) := by decide +kernel
theorem dX4_againstRows_18 : decode cX4_againstRows 18 = .ok (.getfield 38, 3) := by decide +kernel
theorem dX4_againstRows_21 : decode cX4_againstRows 21 = .ok (.iload_n 1, 1) := by decide +kernel
theorem dX4_againstRows_22 : decode cX4_againstRows 22 = .ok (.aaload, 1) := by decide +kernel
theorem dX4_againstRows_23 : decode cX4_againstRows 23 = .ok (.invokevirtual 104, 3) := by decide +kernel
theorem dX4_againstRows_26 : decode cX4_againstRows 26 = .ok (.ifCond .ne 15, 3) := by decide +kernel
theorem dX4_againstRows_29 : decode cX4_againstRows 29 = .ok (.aload_n 0, 1) := by decide +kernel
theorem dX4_againstRows_30 : decode cX4_againstRows 30 = .ok (.getfield 38, 3) := by decide +kernel
theorem dX4_againstRows_33 : decode cX4_againstRows 33 = .ok (.iload_n 2, 1) := by decide +kernel
theorem dX4_againstRows_34 : decode cX4_againstRows 34 = .ok (.aaload, 1) := by decide +kernel
theorem dX4_againstRows_35 : decode cX4_againstRows 35 = .ok (.invokevirtual 104, 3) := by decide +kernel
theorem dX4_againstRows_38 : decode cX4_againstRows 38 = .ok (.ifCond .eq 6, 3) := by decide +kernel
theorem dX4_againstRows_41 : decode cX4_againstRows 41 = .ok (.bipush (-3), 2) := by decide +kernel
theorem dX4_againstRows_43 : decode cX4_againstRows 43 = .ok (.ireturn, 1) := by decide +kernel
theorem dX4_againstRows_44 : decode cX4_againstRows 44 = .ok (.aload_n 0, 1) := by decide +kernel
theorem dX4_againstRows_45 : decode cX4_againstRows 45 = .ok (.getfield 38, 3) := by decide +kernel
theorem dX4_againstRows_48 : decode cX4_againstRows 48 = .ok (.iload_n 1, 1) := by decide +kernel
theorem dX4_againstRows_49 : decode cX4_againstRows 49 = .ok (.aaload, 1) := by decide +kernel
theorem dX4_againstRows_50 : decode cX4_againstRows 50 = .ok (.invokevirtual 101, 3) := by decide +kernel
theorem dX4_againstRows_53 : decode cX4_againstRows 53 = .ok (.ifCond .ne 15, 3) := by decide +kernel
theorem dX4_againstRows_56 : decode cX4_againstRows 56 = .ok (.aload_n 0, 1) := by decide +kernel
theorem dX4_againstRows_57 : decode cX4_againstRows 57 = .ok (.getfield 38, 3) := by decide +kernel
theorem dX4_againstRows_60 : decode cX4_againstRows 60 = .ok (.iload_n 2, 1) := by decide +kernel
theorem dX4_againstRows_61 : decode cX4_againstRows 61 = .ok (.aaload, 1) := by decide +kernel
theorem dX4_againstRows_62 : decode cX4_againstRows 62 = .ok (.invokevirtual 101, 3) := by decide +kernel
theorem dX4_againstRows_65 : decode cX4_againstRows 65 = .ok (.ifCond .eq 8, 3) := by decide +kernel
theorem dX4_againstRows_68 : decode cX4_againstRows 68 = .ok (.bipush (-4), 2) := by decide +kernel
theorem dX4_againstRows_70 : decode cX4_againstRows 70 = .ok (.goto 4, 3) := by decide +kernel
theorem dX4_againstRows_73 : decode cX4_againstRows 73 = .ok (.iconst 0, 1) := by decide +kernel
theorem dX4_againstRows_74 : decode cX4_againstRows 74 = .ok (.ireturn, 1) := by decide +kernel
theorem dX4_againstTold_0 : decode cX4_againstTold 0 = .ok (.aload_n 0, 1) := by decide +kernel
theorem dX4_againstTold_1 : decode cX4_againstTold 1 = .ok (.iload_n 1, 1) := by decide +kernel
theorem dX4_againstTold_2 : decode cX4_againstTold 2 = .ok (.iload_n 1, 1) := by decide +kernel
theorem dX4_againstTold_3 : decode cX4_againstTold 3 = .ok (.invokevirtual 66, 3) := by decide +kernel
theorem dX4_againstTold_6 : decode cX4_againstTold 6 = .ok (.istore_n 2, 1) := by decide +kernel
theorem dX4_againstTold_7 : decode cX4_againstTold 7 = .ok (.iload_n 2, 1) := by decide +kernel
theorem dX4_againstTold_8 : decode cX4_againstTold 8 = .ok (.ifCond .eq 5, 3) := by decide +kernel
theorem dX4_againstTold_11 : decode cX4_againstTold 11 = .ok (.iload_n 2, 1) := by decide +kernel
theorem dX4_againstTold_12 : decode cX4_againstTold 12 = .ok (.ireturn, 1) := by decide +kernel
theorem dX4_againstTold_13 : decode cX4_againstTold 13 = .ok (.aload_n 0, 1) := by decide +kernel
theorem dX4_againstTold_14 : decode cX4_againstTold 14 = .ok (.getfield 25, 3) := by decide +kernel
theorem dX4_againstTold_17 : decode cX4_againstTold 17 = .ok (.aload_n 0, 1) := by decide +kernel
theorem dX4_againstTold_18 : decode cX4_againstTold 18 = .ok (.getfield 12, 3) := by decide +kernel
theorem dX4_againstTold_21 : decode cX4_againstTold 21 = .ok (.invokevirtual 209, 3) := by decide +kernel
theorem dX4_againstTold_24 : decode cX4_againstTold 24 = .ok (.aload_n 0, 1) := by decide +kernel
theorem dX4_againstTold_25 : decode cX4_againstTold 25 = .ok (.getfield 38, 3) := by decide +kernel
theorem dX4_againstTold_28 : decode cX4_againstTold 28 = .ok (.iload_n 1, 1) := by decide +kernel
theorem dX4_againstTold_29 : decode cX4_againstTold 29 = .ok (.aaload, 1) := by decide +kernel
theorem dX4_againstTold_30 : decode cX4_againstTold 30 = .ok (.getfield 323, 3) := by decide +kernel
theorem dX4_againstTold_33 : decode cX4_againstTold 33 = .ok (.aload_n 0, 1) := by decide +kernel
theorem dX4_againstTold_34 : decode cX4_againstTold 34 = .ok (.getfield 12, 3) := by decide +kernel
theorem dX4_againstTold_37 : decode cX4_againstTold 37 = .ok (.getfield 282, 3) := by decide +kernel
theorem dX4_againstTold_40 : decode cX4_againstTold 40 = .ok (.if_icmp .ne 17, 3) := by decide +kernel
theorem dX4_againstTold_43 : decode cX4_againstTold 43 = .ok (.aload_n 0, 1) := by decide +kernel
theorem dX4_againstTold_44 : decode cX4_againstTold 44 = .ok (.aload_n 0, 1) := by decide +kernel
theorem dX4_againstTold_45 : decode cX4_againstTold 45 = .ok (.getfield 38, 3) := by decide +kernel
theorem dX4_againstTold_48 : decode cX4_againstTold 48 = .ok (.iload_n 1, 1) := by decide +kernel
theorem dX4_againstTold_49 : decode cX4_againstTold 49 = .ok (.aaload, 1) := by decide +kernel
theorem dX4_againstTold_50 : decode cX4_againstTold 50 = .ok (.invokevirtual 255, 3) := by decide +kernel
theorem dX4_againstTold_53 : decode cX4_againstTold 53 = .ok (.iconst (-1), 1) := by decide +kernel
theorem dX4_againstTold_54 : decode cX4_againstTold 54 = .ok (.if_icmp .eq 8, 3) := by decide +kernel
theorem dX4_againstTold_57 : decode cX4_againstTold 57 = .ok (.bipush (-5), 2) := by decide +kernel
theorem dX4_againstTold_59 : decode cX4_againstTold 59 = .ok (.goto 4, 3) := by decide +kernel
theorem dX4_againstTold_62 : decode cX4_againstTold 62 = .ok (.iconst 0, 1) := by decide +kernel
theorem dX4_againstTold_63 : decode cX4_againstTold 63 = .ok (.ireturn, 1) := by decide +kernel
theorem dX4_againstBooks_0 : decode cX4_againstBooks 0 = .ok (.aload_n 0, 1) := by decide +kernel
theorem dX4_againstBooks_1 : decode cX4_againstBooks 1 = .ok (.iload_n 1, 1) := by decide +kernel
theorem dX4_againstBooks_2 : decode cX4_againstBooks 2 = .ok (.iload_n 2, 1) := by decide +kernel
theorem dX4_againstBooks_3 : decode cX4_againstBooks 3 = .ok (.invokevirtual 66, 3) := by decide +kernel
theorem dX4_againstBooks_6 : decode cX4_againstBooks 6 = .ok (.istore_n 3, 1) := by decide +kernel
theorem dX4_againstBooks_7 : decode cX4_againstBooks 7 = .ok (.iload_n 3, 1) := by decide +kernel
theorem dX4_againstBooks_8 : decode cX4_againstBooks 8 = .ok (.ifCond .ne 44, 3) := by decide +kernel
theorem dX4_againstBooks_11 : decode cX4_againstBooks 11 = .ok (.aload_n 0, 1) := by decide +kernel
theorem dX4_againstBooks_12 : decode cX4_againstBooks 12 = .ok (.getfield 38, 3) := by decide +kernel
theorem dX4_againstBooks_15 : decode cX4_againstBooks 15 = .ok (.iload_n 1, 1) := by decide +kernel
theorem dX4_againstBooks_16 : decode cX4_againstBooks 16 = .ok (.aaload, 1) := by decide +kernel
theorem dX4_againstBooks_17 : decode cX4_againstBooks 17 = .ok (.getfield 323, 3) := by decide +kernel
theorem dX4_againstBooks_20 : decode cX4_againstBooks 20 = .ok (.aload_n 0, 1) := by decide +kernel
theorem dX4_againstBooks_21 : decode cX4_againstBooks 21 = .ok (.getfield 12, 3) := by decide +kernel
theorem dX4_againstBooks_24 : decode cX4_againstBooks 24 = .ok (.getfield 282, 3) := by decide +kernel
theorem dX4_againstBooks_27 : decode cX4_againstBooks 27 = .ok (.if_icmp .ne 22, 3) := by decide +kernel
theorem dX4_againstBooks_30 : decode cX4_againstBooks 30 = .ok (.aload_n 0, 1) := by decide +kernel
theorem dX4_againstBooks_31 : decode cX4_againstBooks 31 = .ok (.getfield 38, 3) := by decide +kernel
theorem dX4_againstBooks_34 : decode cX4_againstBooks 34 = .ok (.iload_n 2, 1) := by decide +kernel
theorem dX4_againstBooks_35 : decode cX4_againstBooks 35 = .ok (.aaload, 1) := by decide +kernel
theorem dX4_againstBooks_36 : decode cX4_againstBooks 36 = .ok (.getfield 323, 3) := by decide +kernel
theorem dX4_againstBooks_39 : decode cX4_againstBooks 39 = .ok (.aload_n 0, 1) := by decide +kernel
theorem dX4_againstBooks_40 : decode cX4_againstBooks 40 = .ok (.getfield 12, 3) := by decide +kernel
theorem dX4_againstBooks_43 : decode cX4_againstBooks 43 = .ok (.getfield 282, 3) := by decide +kernel
theorem dX4_againstBooks_46 : decode cX4_againstBooks 46 = .ok (.if_icmp .eq 6, 3) := by decide +kernel
theorem dX4_againstBooks_49 : decode cX4_againstBooks 49 = .ok (.bipush (-2), 2) := by decide +kernel
theorem dX4_againstBooks_51 : decode cX4_againstBooks 51 = .ok (.ireturn, 1) := by decide +kernel
theorem dX4_againstBooks_52 : decode cX4_againstBooks 52 = .ok (.iload_n 3, 1) := by decide +kernel
theorem dX4_againstBooks_53 : decode cX4_againstBooks 53 = .ok (.ireturn, 1) := by decide +kernel
theorem dX4_isUnder_0 : decode cX4_isUnder 0 = .ok (.iload_n 0, 1) := by decide +kernel
theorem dX4_isUnder_1 : decode cX4_isUnder 1 = .ok (.istore_n 2, 1) := by decide +kernel
theorem dX4_isUnder_2 : decode cX4_isUnder 2 = .ok (.iconst 0, 1) := by decide +kernel
theorem dX4_isUnder_3 : decode cX4_isUnder 3 = .ok (.istore_n 3, 1) := by decide +kernel
theorem dX4_isUnder_4 : decode cX4_isUnder 4 = .ok (.iload_n 3, 1) := by decide +kernel
theorem dX4_isUnder_5 : decode cX4_isUnder 5 = .ok (.getstatic 324, 3) := by decide +kernel
theorem dX4_isUnder_8 : decode cX4_isUnder 8 = .ok (.arraylength, 1) := by decide +kernel
theorem dX4_isUnder_9 : decode cX4_isUnder 9 = .ok (.if_icmp .ge 37, 3) := by decide +kernel
theorem dX4_isUnder_12 : decode cX4_isUnder 12 = .ok (.iload_n 2, 1) := by decide +kernel
theorem dX4_isUnder_13 : decode cX4_isUnder 13 = .ok (.iload_n 1, 1) := by decide +kernel
theorem dX4_isUnder_14 : decode cX4_isUnder 14 = .ok (.if_icmp .eq 32, 3) := by decide +kernel
theorem dX4_isUnder_17 : decode cX4_isUnder 17 = .ok (.iload_n 2, 1) := by decide +kernel
theorem dX4_isUnder_18 : decode cX4_isUnder 18 = .ok (.getstatic 324, 3) := by decide +kernel
theorem dX4_isUnder_21 : decode cX4_isUnder 21 = .ok (.arraylength, 1) := by decide +kernel
theorem dX4_isUnder_22 : decode cX4_isUnder 22 = .ok (.iconst 1, 1) := by decide +kernel
theorem dX4_isUnder_23 : decode cX4_isUnder 23 = .ok (.isub, 1) := by decide +kernel
theorem dX4_isUnder_24 : decode cX4_isUnder 24 = .ok (.invokestatic 54, 3) := by decide +kernel
theorem dX4_isUnder_27 : decode cX4_isUnder 27 = .ok (.ifCond .eq 11, 3) := by decide +kernel
theorem dX4_isUnder_30 : decode cX4_isUnder 30 = .ok (.getstatic 324, 3) := by decide +kernel
theorem dX4_isUnder_33 : decode cX4_isUnder 33 = .ok (.iload_n 2, 1) := by decide +kernel
theorem dX4_isUnder_34 : decode cX4_isUnder 34 = .ok (.iaload, 1) := by decide +kernel
theorem dX4_isUnder_35 : decode cX4_isUnder 35 = .ok (.goto 4, 3) := by decide +kernel
theorem dX4_isUnder_38 : decode cX4_isUnder 38 = .ok (.iconst (-1), 1) := by decide +kernel
theorem dX4_isUnder_39 : decode cX4_isUnder 39 = .ok (.istore_n 2, 1) := by decide +kernel
theorem dX4_isUnder_40 : decode cX4_isUnder 40 = .ok (.iinc 3 1, 3) := by decide +kernel
theorem dX4_isUnder_43 : decode cX4_isUnder 43 = .ok (.goto (-39), 3) := by decide +kernel
theorem dX4_isUnder_46 : decode cX4_isUnder 46 = .ok (.iload_n 2, 1) := by decide +kernel
theorem dX4_isUnder_47 : decode cX4_isUnder 47 = .ok (.iload_n 1, 1) := by decide +kernel
theorem dX4_isUnder_48 : decode cX4_isUnder 48 = .ok (.if_icmp .ne 7, 3) := by decide +kernel
theorem dX4_isUnder_51 : decode cX4_isUnder 51 = .ok (.iconst 1, 1) := by decide +kernel
theorem dX4_isUnder_52 : decode cX4_isUnder 52 = .ok (.goto 4, 3) := by decide +kernel
theorem dX4_isUnder_55 : decode cX4_isUnder 55 = .ok (.iconst 0, 1) := by decide +kernel
theorem dX4_isUnder_56 : decode cX4_isUnder 56 = .ok (.ireturn, 1) := by decide +kernel
theorem dX4_saying_0 : decode cX4_saying 0 = .ok (.iload_n 1, 1) := by decide +kernel
theorem dX4_saying_1 : decode cX4_saying 1 = .ok (.iconst 1, 1) := by decide +kernel
theorem dX4_saying_2 : decode cX4_saying 2 = .ok (.if_icmp .eq 9, 3) := by decide +kernel
theorem dX4_saying_5 : decode cX4_saying 5 = .ok (.iload_n 1, 1) := by decide +kernel
theorem dX4_saying_6 : decode cX4_saying 6 = .ok (.bipush 6, 2) := by decide +kernel
theorem dX4_saying_8 : decode cX4_saying 8 = .ok (.if_icmp .ne 17, 3) := by decide +kernel
theorem dX4_saying_11 : decode cX4_saying 11 = .ok (.aload_n 0, 1) := by decide +kernel
theorem dX4_saying_12 : decode cX4_saying 12 = .ok (.getfield 25, 3) := by decide +kernel
theorem dX4_saying_15 : decode cX4_saying 15 = .ok (.aload_n 0, 1) := by decide +kernel
theorem dX4_saying_16 : decode cX4_saying 16 = .ok (.getfield 12, 3) := by decide +kernel
theorem dX4_saying_19 : decode cX4_saying 19 = .ok (.invokevirtual 327, 3) := by decide +kernel
theorem dX4_saying_22 : decode cX4_saying 22 = .ok (.goto 21, 3) := by decide +kernel
theorem dX4_saying_25 : decode cX4_saying 25 = .ok (.aload_n 0, 1) := by decide +kernel
theorem dX4_saying_26 : decode cX4_saying 26 = .ok (.getfield 25, 3) := by decide +kernel
theorem dX4_saying_29 : decode cX4_saying 29 = .ok (.aload_n 0, 1) := by decide +kernel
theorem dX4_saying_30 : decode cX4_saying 30 = .ok (.getfield 12, 3) := by decide +kernel
theorem dX4_saying_33 : decode cX4_saying 33 = .ok (.aload_n 0, 1) := by decide +kernel
theorem dX4_saying_34 : decode cX4_saying 34 = .ok (.getfield 12, 3) := by decide +kernel
theorem dX4_saying_37 : decode cX4_saying 37 = .ok (.getfield 193, 3) := by decide +kernel
theorem dX4_saying_40 : decode cX4_saying 40 = .ok (.invokevirtual 196, 3) := by decide +kernel
theorem dX4_saying_43 : decode cX4_saying 43 = .ok (.iload_n 1, 1) := by decide +kernel
theorem dX4_saying_44 : decode cX4_saying 44 = .ok (.tableswitch 71 3 6 #[32, 43, 54, 65], 32) := by decide +kernel
theorem dX4_saying_76 : decode cX4_saying 76 = .ok (.aload_n 0, 1) := by decide +kernel
theorem dX4_saying_77 : decode cX4_saying 77 = .ok (.getfield 25, 3) := by decide +kernel
theorem dX4_saying_80 : decode cX4_saying 80 = .ok (.iload_n 2, 1) := by decide +kernel
theorem dX4_saying_81 : decode cX4_saying 81 = .ok (.invokevirtual 330, 3) := by decide +kernel
theorem dX4_saying_84 : decode cX4_saying 84 = .ok (.goto 47, 3) := by decide +kernel
theorem dX4_saying_87 : decode cX4_saying 87 = .ok (.aload_n 0, 1) := by decide +kernel
theorem dX4_saying_88 : decode cX4_saying 88 = .ok (.getfield 25, 3) := by decide +kernel
theorem dX4_saying_91 : decode cX4_saying 91 = .ok (.iload_n 2, 1) := by decide +kernel
theorem dX4_saying_92 : decode cX4_saying 92 = .ok (.invokevirtual 333, 3) := by decide +kernel
theorem dX4_saying_95 : decode cX4_saying 95 = .ok (.goto 36, 3) := by decide +kernel
theorem dX4_saying_98 : decode cX4_saying 98 = .ok (.aload_n 0, 1) := by decide +kernel
theorem dX4_saying_99 : decode cX4_saying 99 = .ok (.getfield 25, 3) := by decide +kernel
theorem dX4_saying_102 : decode cX4_saying 102 = .ok (.iload_n 2, 1) := by decide +kernel
theorem dX4_saying_103 : decode cX4_saying 103 = .ok (.invokevirtual 336, 3) := by decide +kernel
theorem dX4_saying_106 : decode cX4_saying 106 = .ok (.goto 25, 3) := by decide +kernel
theorem dX4_saying_109 : decode cX4_saying 109 = .ok (.aload_n 0, 1) := by decide +kernel
theorem dX4_saying_110 : decode cX4_saying 110 = .ok (.iload_n 2, 1) := by decide +kernel
theorem dX4_saying_111 : decode cX4_saying 111 = .ok (.invokevirtual 339, 3) := by decide +kernel
theorem dX4_saying_114 : decode cX4_saying 114 = .ok (.ireturn, 1) := by decide +kernel
theorem dX4_saying_115 : decode cX4_saying 115 = .ok (.aload_n 0, 1) := by decide +kernel
theorem dX4_saying_116 : decode cX4_saying 116 = .ok (.getfield 25, 3) := by decide +kernel
theorem dX4_saying_119 : decode cX4_saying 119 = .ok (.iload_n 2, 1) := by decide +kernel
theorem dX4_saying_120 : decode cX4_saying 120 = .ok (.iconst 1, 1) := by decide +kernel
theorem dX4_saying_121 : decode cX4_saying 121 = .ok (.aload_n 0, 1) := by decide +kernel
theorem dX4_saying_122 : decode cX4_saying 122 = .ok (.getfield 25, 3) := by decide +kernel
theorem dX4_saying_125 : decode cX4_saying 125 = .ok (.getfield 215, 3) := by decide +kernel
theorem dX4_saying_128 : decode cX4_saying 128 = .ok (.invokevirtual 342, 3) := by decide +kernel
theorem dX4_saying_131 : decode cX4_saying 131 = .ok (.aload_n 0, 1) := by decide +kernel
theorem dX4_saying_132 : decode cX4_saying 132 = .ok (.getfield 25, 3) := by decide +kernel
theorem dX4_saying_135 : decode cX4_saying 135 = .ok (.invokevirtual 206, 3) := by decide +kernel
theorem dX4_saying_138 : decode cX4_saying 138 = .ok (.ireturn, 1) := by decide +kernel
theorem dX4_sayingOnce_0 : decode cX4_sayingOnce 0 = .ok (.aload_n 0, 1) := by decide +kernel
theorem dX4_sayingOnce_1 : decode cX4_sayingOnce 1 = .ok (.getfield 25, 3) := by decide +kernel
theorem dX4_sayingOnce_4 : decode cX4_sayingOnce 4 = .ok (.invokevirtual 206, 3) := by decide +kernel
theorem dX4_sayingOnce_7 : decode cX4_sayingOnce 7 = .ok (.istore_n 2, 1) := by decide +kernel
theorem dX4_sayingOnce_8 : decode cX4_sayingOnce 8 = .ok (.aload_n 0, 1) := by decide +kernel
theorem dX4_sayingOnce_9 : decode cX4_sayingOnce 9 = .ok (.getfield 25, 3) := by decide +kernel
theorem dX4_sayingOnce_12 : decode cX4_sayingOnce 12 = .ok (.iload_n 1, 1) := by decide +kernel
theorem dX4_sayingOnce_13 : decode cX4_sayingOnce 13 = .ok (.invokevirtual 346, 3) := by decide +kernel
theorem dX4_sayingOnce_16 : decode cX4_sayingOnce 16 = .ok (.iload_n 2, 1) := by decide +kernel
theorem dX4_sayingOnce_17 : decode cX4_sayingOnce 17 = .ok (.aload_n 0, 1) := by decide +kernel
theorem dX4_sayingOnce_18 : decode cX4_sayingOnce 18 = .ok (.getfield 25, 3) := by decide +kernel
theorem dX4_sayingOnce_21 : decode cX4_sayingOnce 21 = .ok (.invokevirtual 206, 3) := by decide +kernel
theorem dX4_sayingOnce_24 : decode cX4_sayingOnce 24 = .ok (.isub, 1) := by decide +kernel
theorem dX4_sayingOnce_25 : decode cX4_sayingOnce 25 = .ok (.ireturn, 1) := by decide +kernel
theorem dX4_fittingAhead_0 : decode cX4_fittingAhead 0 = .ok (.aload_n 0, 1) := by decide +kernel
theorem dX4_fittingAhead_1 : decode cX4_fittingAhead 1 = .ok (.getfield 25, 3) := by decide +kernel
theorem dX4_fittingAhead_4 : decode cX4_fittingAhead 4 = .ok (.aload_n 0, 1) := by decide +kernel
theorem dX4_fittingAhead_5 : decode cX4_fittingAhead 5 = .ok (.getfield 12, 3) := by decide +kernel
theorem dX4_fittingAhead_8 : decode cX4_fittingAhead 8 = .ok (.invokevirtual 209, 3) := by decide +kernel
theorem dX4_fittingAhead_11 : decode cX4_fittingAhead 11 = .ok (.aload_n 0, 1) := by decide +kernel
theorem dX4_fittingAhead_12 : decode cX4_fittingAhead 12 = .ok (.getfield 25, 3) := by decide +kernel
theorem dX4_fittingAhead_15 : decode cX4_fittingAhead 15 = .ok (.iload_n 1, 1) := by decide +kernel
theorem dX4_fittingAhead_16 : decode cX4_fittingAhead 16 = .ok (.iconst 1, 1) := by decide +kernel
theorem dX4_fittingAhead_17 : decode cX4_fittingAhead 17 = .ok (.aload_n 0, 1) := by decide +kernel
theorem dX4_fittingAhead_18 : decode cX4_fittingAhead 18 = .ok (.getfield 25, 3) := by decide +kernel
theorem dX4_fittingAhead_21 : decode cX4_fittingAhead 21 = .ok (.getfield 215, 3) := by decide +kernel
theorem dX4_fittingAhead_24 : decode cX4_fittingAhead 24 = .ok (.invokevirtual 342, 3) := by decide +kernel
theorem dX4_fittingAhead_27 : decode cX4_fittingAhead 27 = .ok (.aload_n 0, 1) := by decide +kernel
theorem dX4_fittingAhead_28 : decode cX4_fittingAhead 28 = .ok (.getfield 25, 3) := by decide +kernel
theorem dX4_fittingAhead_31 : decode cX4_fittingAhead 31 = .ok (.invokevirtual 206, 3) := by decide +kernel
theorem dX4_fittingAhead_34 : decode cX4_fittingAhead 34 = .ok (.ireturn, 1) := by decide +kernel
theorem dX4_fittingNotAbove_0 : decode cX4_fittingNotAbove 0 = .ok (.aload_n 0, 1) := by decide +kernel
theorem dX4_fittingNotAbove_1 : decode cX4_fittingNotAbove 1 = .ok (.getfield 25, 3) := by decide +kernel
theorem dX4_fittingNotAbove_4 : decode cX4_fittingNotAbove 4 = .ok (.aload_n 0, 1) := by decide +kernel
theorem dX4_fittingNotAbove_5 : decode cX4_fittingNotAbove 5 = .ok (.getfield 12, 3) := by decide +kernel
theorem dX4_fittingNotAbove_8 : decode cX4_fittingNotAbove 8 = .ok (.invokevirtual 209, 3) := by decide +kernel
theorem dX4_fittingNotAbove_11 : decode cX4_fittingNotAbove 11 = .ok (.aload_n 0, 1) := by decide +kernel
theorem dX4_fittingNotAbove_12 : decode cX4_fittingNotAbove 12 = .ok (.getfield 25, 3) := by decide +kernel
theorem dX4_fittingNotAbove_15 : decode cX4_fittingNotAbove 15 = .ok (.iload_n 1, 1) := by decide +kernel
theorem dX4_fittingNotAbove_16 : decode cX4_fittingNotAbove 16 = .ok (.invokevirtual 349, 3) := by decide +kernel
theorem dX4_fittingNotAbove_19 : decode cX4_fittingNotAbove 19 = .ok (.aload_n 0, 1) := by decide +kernel
theorem dX4_fittingNotAbove_20 : decode cX4_fittingNotAbove 20 = .ok (.getfield 25, 3) := by decide +kernel
theorem dX4_fittingNotAbove_23 : decode cX4_fittingNotAbove 23 = .ok (.invokevirtual 206, 3) := by decide +kernel
theorem dX4_fittingNotAbove_26 : decode cX4_fittingNotAbove 26 = .ok (.ireturn, 1) := by decide +kernel
theorem dX4_tallyLevel_0 : decode cX4_tallyLevel 0 = .ok (.aload_n 0, 1) := by decide +kernel
theorem dX4_tallyLevel_1 : decode cX4_tallyLevel 1 = .ok (.getfield 25, 3) := by decide +kernel
theorem dX4_tallyLevel_4 : decode cX4_tallyLevel 4 = .ok (.aload_n 0, 1) := by decide +kernel
theorem dX4_tallyLevel_5 : decode cX4_tallyLevel 5 = .ok (.getfield 12, 3) := by decide +kernel
theorem dX4_tallyLevel_8 : decode cX4_tallyLevel 8 = .ok (.invokevirtual 209, 3) := by decide +kernel
theorem dX4_tallyLevel_11 : decode cX4_tallyLevel 11 = .ok (.aload_n 0, 1) := by decide +kernel
theorem dX4_tallyLevel_12 : decode cX4_tallyLevel 12 = .ok (.getfield 25, 3) := by decide +kernel
theorem dX4_tallyLevel_15 : decode cX4_tallyLevel 15 = .ok (.invokevirtual 352, 3) := by decide +kernel
theorem dX4_tallyLevel_18 : decode cX4_tallyLevel 18 = .ok (.aload_n 0, 1) := by decide +kernel
theorem dX4_tallyLevel_19 : decode cX4_tallyLevel 19 = .ok (.getfield 25, 3) := by decide +kernel
theorem dX4_tallyLevel_22 : decode cX4_tallyLevel 22 = .ok (.invokevirtual 266, 3) := by decide +kernel
theorem dX4_tallyLevel_25 : decode cX4_tallyLevel 25 = .ok (.return_, 1) := by decide +kernel
theorem dX4_tallySure_0 : decode cX4_tallySure 0 = .ok (.aload_n 0, 1) := by decide +kernel
theorem dX4_tallySure_1 : decode cX4_tallySure 1 = .ok (.getfield 25, 3) := by decide +kernel
theorem dX4_tallySure_4 : decode cX4_tallySure 4 = .ok (.aload_n 0, 1) := by decide +kernel
theorem dX4_tallySure_5 : decode cX4_tallySure 5 = .ok (.getfield 12, 3) := by decide +kernel
theorem dX4_tallySure_8 : decode cX4_tallySure 8 = .ok (.invokevirtual 209, 3) := by decide +kernel
theorem dX4_tallySure_11 : decode cX4_tallySure 11 = .ok (.aload_n 0, 1) := by decide +kernel
theorem dX4_tallySure_12 : decode cX4_tallySure 12 = .ok (.getfield 25, 3) := by decide +kernel
theorem dX4_tallySure_15 : decode cX4_tallySure 15 = .ok (.invokevirtual 200, 3) := by decide +kernel
theorem dX4_tallySure_18 : decode cX4_tallySure 18 = .ok (.aload_n 0, 1) := by decide +kernel
theorem dX4_tallySure_19 : decode cX4_tallySure 19 = .ok (.getfield 25, 3) := by decide +kernel
theorem dX4_tallySure_22 : decode cX4_tallySure 22 = .ok (.invokevirtual 266, 3) := by decide +kernel
theorem dX4_tallySure_25 : decode cX4_tallySure 25 = .ok (.return_, 1) := by decide +kernel
theorem dX4_firstWrong_0 : decode cX4_firstWrong 0 = .ok (.iconst 0, 1) := by decide +kernel
theorem dX4_firstWrong_1 : decode cX4_firstWrong 1 = .ok (.istore_n 2, 1) := by decide +kernel
theorem dX4_firstWrong_2 : decode cX4_firstWrong 2 = .ok (.iconst 0, 1) := by decide +kernel
theorem dX4_firstWrong_3 : decode cX4_firstWrong 3 = .ok (.istore_n 3, 1) := by decide +kernel
theorem dX4_firstWrong_4 : decode cX4_firstWrong 4 = .ok (.iload_n 3, 1) := by decide +kernel
theorem dX4_firstWrong_5 : decode cX4_firstWrong 5 = .ok (.aload_n 1, 1) := by decide +kernel
theorem dX4_firstWrong_6 : decode cX4_firstWrong 6 = .ok (.getfield 323, 3) := by decide +kernel
theorem dX4_firstWrong_9 : decode cX4_firstWrong 9 = .ok (.if_icmp .ge 68, 3) := by decide +kernel
theorem dX4_firstWrong_12 : decode cX4_firstWrong 12 = .ok (.aload_n 1, 1) := by decide +kernel
theorem dX4_firstWrong_13 : decode cX4_firstWrong 13 = .ok (.iload_n 3, 1) := by decide +kernel
theorem dX4_firstWrong_14 : decode cX4_firstWrong 14 = .ok (.invokevirtual 355, 3) := by decide +kernel
theorem dX4_firstWrong_17 : decode cX4_firstWrong 17 = .ok (.istore 4, 2) := by decide +kernel
theorem dX4_firstWrong_19 : decode cX4_firstWrong 19 = .ok (.iload 4, 2) := by decide +kernel
theorem dX4_firstWrong_21 : decode cX4_firstWrong 21 = .ok (.iconst (-1), 1) := by decide +kernel
theorem dX4_firstWrong_22 : decode cX4_firstWrong 22 = .ok (.if_icmp .eq 14, 3) := by decide +kernel
theorem dX4_firstWrong_25 : decode cX4_firstWrong 25 = .ok (.iload_n 3, 1) := by decide +kernel
theorem dX4_firstWrong_26 : decode cX4_firstWrong 26 = .ok (.aload_n 0, 1) := by decide +kernel
theorem dX4_firstWrong_27 : decode cX4_firstWrong 27 = .ok (.getfield 25, 3) := by decide +kernel
theorem dX4_firstWrong_30 : decode cX4_firstWrong 30 = .ok (.getfield 215, 3) := by decide +kernel
theorem dX4_firstWrong_33 : decode cX4_firstWrong 33 = .ok (.if_icmp .lt 5, 3) := by decide +kernel
theorem dX4_firstWrong_36 : decode cX4_firstWrong 36 = .ok (.iload_n 3, 1) := by decide +kernel
theorem dX4_firstWrong_37 : decode cX4_firstWrong 37 = .ok (.ireturn, 1) := by decide +kernel
theorem dX4_firstWrong_38 : decode cX4_firstWrong 38 = .ok (.iload_n 2, 1) := by decide +kernel
theorem dX4_firstWrong_39 : decode cX4_firstWrong 39 = .ok (.iload 4, 2) := by decide +kernel
theorem dX4_firstWrong_41 : decode cX4_firstWrong 41 = .ok (.iadd, 1) := by decide +kernel
theorem dX4_firstWrong_42 : decode cX4_firstWrong 42 = .ok (.istore_n 2, 1) := by decide +kernel
theorem dX4_firstWrong_43 : decode cX4_firstWrong 43 = .ok (.aload_n 0, 1) := by decide +kernel
theorem dX4_firstWrong_44 : decode cX4_firstWrong 44 = .ok (.getfield 25, 3) := by decide +kernel
theorem dX4_firstWrong_47 : decode cX4_firstWrong 47 = .ok (.iconst 0, 1) := by decide +kernel
theorem dX4_firstWrong_48 : decode cX4_firstWrong 48 = .ok (.iconst 0, 1) := by decide +kernel
theorem dX4_firstWrong_49 : decode cX4_firstWrong 49 = .ok (.invokevirtual 358, 3) := by decide +kernel
theorem dX4_firstWrong_52 : decode cX4_firstWrong 52 = .ok (.ifCond .eq 17, 3) := by decide +kernel
theorem dX4_firstWrong_55 : decode cX4_firstWrong 55 = .ok (.aload_n 0, 1) := by decide +kernel
theorem dX4_firstWrong_56 : decode cX4_firstWrong 56 = .ok (.getfield 25, 3) := by decide +kernel
theorem dX4_firstWrong_59 : decode cX4_firstWrong 59 = .ok (.iload_n 3, 1) := by decide +kernel
theorem dX4_firstWrong_60 : decode cX4_firstWrong 60 = .ok (.iconst 1, 1) := by decide +kernel
theorem dX4_firstWrong_61 : decode cX4_firstWrong 61 = .ok (.iadd, 1) := by decide +kernel
theorem dX4_firstWrong_62 : decode cX4_firstWrong 62 = .ok (.iload_n 2, 1) := by decide +kernel
theorem dX4_firstWrong_63 : decode cX4_firstWrong 63 = .ok (.invokevirtual 358, 3) := by decide +kernel
theorem dX4_firstWrong_66 : decode cX4_firstWrong 66 = .ok (.ifCond .ne 5, 3) := by decide +kernel
theorem dX4_firstWrong_69 : decode cX4_firstWrong 69 = .ok (.iload_n 3, 1) := by decide +kernel
theorem dX4_firstWrong_70 : decode cX4_firstWrong 70 = .ok (.ireturn, 1) := by decide +kernel
theorem dX4_firstWrong_71 : decode cX4_firstWrong 71 = .ok (.iinc 3 1, 3) := by decide +kernel
theorem dX4_firstWrong_74 : decode cX4_firstWrong 74 = .ok (.goto (-70), 3) := by decide +kernel
theorem dX4_firstWrong_77 : decode cX4_firstWrong 77 = .ok (.iconst (-1), 1) := by decide +kernel
theorem dX4_firstWrong_78 : decode cX4_firstWrong 78 = .ok (.ireturn, 1) := by decide +kernel
theorem dX4_toldOf_0 : decode cX4_toldOf 0 = .ok (.iconst 0, 1) := by decide +kernel
theorem dX4_toldOf_1 : decode cX4_toldOf 1 = .ok (.istore_n 2, 1) := by decide +kernel
theorem dX4_toldOf_2 : decode cX4_toldOf 2 = .ok (.iconst 0, 1) := by decide +kernel
theorem dX4_toldOf_3 : decode cX4_toldOf 3 = .ok (.istore_n 3, 1) := by decide +kernel
theorem dX4_toldOf_4 : decode cX4_toldOf 4 = .ok (.iconst 0, 1) := by decide +kernel
theorem dX4_toldOf_5 : decode cX4_toldOf 5 = .ok (.istore 4, 2) := by decide +kernel
theorem dX4_toldOf_7 : decode cX4_toldOf 7 = .ok (.iconst 0, 1) := by decide +kernel
theorem dX4_toldOf_8 : decode cX4_toldOf 8 = .ok (.istore 5, 2) := by decide +kernel
theorem dX4_toldOf_10 : decode cX4_toldOf 10 = .ok (.iconst 0, 1) := by decide +kernel
theorem dX4_toldOf_11 : decode cX4_toldOf 11 = .ok (.istore 6, 2) := by decide +kernel
theorem dX4_toldOf_13 : decode cX4_toldOf 13 = .ok (.iload 6, 2) := by decide +kernel
theorem dX4_toldOf_15 : decode cX4_toldOf 15 = .ok (.aload_n 0, 1) := by decide +kernel
theorem dX4_toldOf_16 : decode cX4_toldOf 16 = .ok (.getfield 323, 3) := by decide +kernel
theorem dX4_toldOf_19 : decode cX4_toldOf 19 = .ok (.if_icmp .ge 64, 3) := by decide +kernel
theorem dX4_toldOf_22 : decode cX4_toldOf 22 = .ok (.iload 5, 2) := by decide +kernel
theorem dX4_toldOf_24 : decode cX4_toldOf 24 = .ok (.aload_n 0, 1) := by decide +kernel
theorem dX4_toldOf_25 : decode cX4_toldOf 25 = .ok (.iload 6, 2) := by decide +kernel
theorem dX4_toldOf_27 : decode cX4_toldOf 27 = .ok (.invokevirtual 355, 3) := by decide +kernel
theorem dX4_toldOf_30 : decode cX4_toldOf 30 = .ok (.iconst 1, 1) := by decide +kernel
theorem dX4_toldOf_31 : decode cX4_toldOf 31 = .ok (.if_icmp .ne 7, 3) := by decide +kernel
theorem dX4_toldOf_34 : decode cX4_toldOf 34 = .ok (.iconst 1, 1) := by decide +kernel
theorem dX4_toldOf_35 : decode cX4_toldOf 35 = .ok (.goto 4, 3) := by decide +kernel
theorem dX4_toldOf_38 : decode cX4_toldOf 38 = .ok (.iconst (-1), 1) := by decide +kernel
theorem dX4_toldOf_39 : decode cX4_toldOf 39 = .ok (.iadd, 1) := by decide +kernel
theorem dX4_toldOf_40 : decode cX4_toldOf 40 = .ok (.istore 5, 2) := by decide +kernel
theorem dX4_toldOf_42 : decode cX4_toldOf 42 = .ok (.iload_n 2, 1) := by decide +kernel
theorem dX4_toldOf_43 : decode cX4_toldOf 43 = .ok (.iload 5, 2) := by decide +kernel
theorem dX4_toldOf_45 : decode cX4_toldOf 45 = .ok (.ifCond .le 7, 3) := by decide +kernel
theorem dX4_toldOf_48 : decode cX4_toldOf 48 = .ok (.iconst 1, 1) := by decide +kernel
theorem dX4_toldOf_49 : decode cX4_toldOf 49 = .ok (.goto 4, 3) := by decide +kernel
theorem dX4_toldOf_52 : decode cX4_toldOf 52 = .ok (.iconst 0, 1) := by decide +kernel
theorem dX4_toldOf_53 : decode cX4_toldOf 53 = .ok (.iadd, 1) := by decide +kernel
theorem dX4_toldOf_54 : decode cX4_toldOf 54 = .ok (.istore_n 2, 1) := by decide +kernel
theorem dX4_toldOf_55 : decode cX4_toldOf 55 = .ok (.iload_n 3, 1) := by decide +kernel
theorem dX4_toldOf_56 : decode cX4_toldOf 56 = .ok (.iload 5, 2) := by decide +kernel
theorem dX4_toldOf_58 : decode cX4_toldOf 58 = .ok (.ifCond .ne 7, 3) := by decide +kernel
theorem dX4_toldOf_61 : decode cX4_toldOf 61 = .ok (.iconst 1, 1) := by decide +kernel
theorem dX4_toldOf_62 : decode cX4_toldOf 62 = .ok (.goto 4, 3) := by decide +kernel
theorem dX4_toldOf_65 : decode cX4_toldOf 65 = .ok (.iconst 0, 1) := by decide +kernel
theorem dX4_toldOf_66 : decode cX4_toldOf 66 = .ok (.iadd, 1) := by decide +kernel
theorem dX4_toldOf_67 : decode cX4_toldOf 67 = .ok (.istore_n 3, 1) := by decide +kernel
theorem dX4_toldOf_68 : decode cX4_toldOf 68 = .ok (.iload 4, 2) := by decide +kernel
theorem dX4_toldOf_70 : decode cX4_toldOf 70 = .ok (.iload 5, 2) := by decide +kernel
theorem dX4_toldOf_72 : decode cX4_toldOf 72 = .ok (.invokestatic 361, 3) := by decide +kernel
theorem dX4_toldOf_75 : decode cX4_toldOf 75 = .ok (.istore 4, 2) := by decide +kernel
theorem dX4_toldOf_77 : decode cX4_toldOf 77 = .ok (.iinc 6 1, 3) := by decide +kernel
theorem dX4_toldOf_80 : decode cX4_toldOf 80 = .ok (.goto (-67), 3) := by decide +kernel
theorem dX4_toldOf_83 : decode cX4_toldOf 83 = .ok (.iload_n 1, 1) := by decide +kernel
theorem dX4_toldOf_84 : decode cX4_toldOf 84 = .ok (.iconst 2, 1) := by decide +kernel
theorem dX4_toldOf_85 : decode cX4_toldOf 85 = .ok (.if_icmp .ne 6, 3) := by decide +kernel
theorem dX4_toldOf_88 : decode cX4_toldOf 88 = .ok (.iload 4, 2) := by decide +kernel
theorem dX4_toldOf_90 : decode cX4_toldOf 90 = .ok (.ireturn, 1) := by decide +kernel
theorem dX4_toldOf_91 : decode cX4_toldOf 91 = .ok (.iload_n 1, 1) := by decide +kernel
theorem dX4_toldOf_92 : decode cX4_toldOf 92 = .ok (.ifCond .ne 7, 3) := by decide +kernel
theorem dX4_toldOf_95 : decode cX4_toldOf 95 = .ok (.iload_n 2, 1) := by decide +kernel
theorem dX4_toldOf_96 : decode cX4_toldOf 96 = .ok (.goto 4, 3) := by decide +kernel
theorem dX4_toldOf_99 : decode cX4_toldOf 99 = .ok (.iload_n 3, 1) := by decide +kernel
theorem dX4_toldOf_100 : decode cX4_toldOf 100 = .ok (.ireturn, 1) := by decide +kernel
theorem dX4_spentBy_0 : decode cX4_spentBy 0 = .ok (.aload_n 0, 1) := by decide +kernel
theorem dX4_spentBy_1 : decode cX4_spentBy 1 = .ok (.iload_n 1, 1) := by decide +kernel
theorem dX4_spentBy_2 : decode cX4_spentBy 2 = .ok (.invokevirtual 276, 3) := by decide +kernel
theorem dX4_spentBy_5 : decode cX4_spentBy 5 = .ok (.aload_n 0, 1) := by decide +kernel
theorem dX4_spentBy_6 : decode cX4_spentBy 6 = .ok (.getfield 25, 3) := by decide +kernel
theorem dX4_spentBy_9 : decode cX4_spentBy 9 = .ok (.aload_n 0, 1) := by decide +kernel
theorem dX4_spentBy_10 : decode cX4_spentBy 10 = .ok (.getfield 12, 3) := by decide +kernel
theorem dX4_spentBy_13 : decode cX4_spentBy 13 = .ok (.aload_n 0, 1) := by decide +kernel
theorem dX4_spentBy_14 : decode cX4_spentBy 14 = .ok (.getfield 42, 3) := by decide +kernel
theorem dX4_spentBy_17 : decode cX4_spentBy 17 = .ok (.invokevirtual 196, 3) := by decide +kernel
theorem dX4_spentBy_20 : decode cX4_spentBy 20 = .ok (.aload_n 0, 1) := by decide +kernel
theorem dX4_spentBy_21 : decode cX4_spentBy 21 = .ok (.getfield 25, 3) := by decide +kernel
theorem dX4_spentBy_24 : decode cX4_spentBy 24 = .ok (.invokevirtual 243, 3) := by decide +kernel
theorem dX4_spentBy_27 : decode cX4_spentBy 27 = .ok (.aload_n 0, 1) := by decide +kernel
theorem dX4_spentBy_28 : decode cX4_spentBy 28 = .ok (.getfield 25, 3) := by decide +kernel
theorem dX4_spentBy_31 : decode cX4_spentBy 31 = .ok (.invokevirtual 246, 3) := by decide +kernel
theorem dX4_spentBy_34 : decode cX4_spentBy 34 = .ok (.lreturn, 1) := by decide +kernel
theorem dX4_tryOrder_0 : decode cX4_tryOrder 0 = .ok (.iconst 0, 1) := by decide +kernel
theorem dX4_tryOrder_1 : decode cX4_tryOrder 1 = .ok (.istore_n 2, 1) := by decide +kernel
theorem dX4_tryOrder_2 : decode cX4_tryOrder 2 = .ok (.iload_n 1, 1) := by decide +kernel
theorem dX4_tryOrder_3 : decode cX4_tryOrder 3 = .ok (.istore_n 3, 1) := by decide +kernel
theorem dX4_tryOrder_4 : decode cX4_tryOrder 4 = .ok (.iconst 0, 1) := by decide +kernel
theorem dX4_tryOrder_5 : decode cX4_tryOrder 5 = .ok (.istore 4, 2) := by decide +kernel
theorem dX4_tryOrder_7 : decode cX4_tryOrder 7 = .ok (.iload 4, 2) := by decide +kernel
theorem dX4_tryOrder_9 : decode cX4_tryOrder 9 = .ok (.aload_n 0, 1) := by decide +kernel
theorem dX4_tryOrder_10 : decode cX4_tryOrder 10 = .ok (.getfield 12, 3) := by decide +kernel
theorem dX4_tryOrder_13 : decode cX4_tryOrder 13 = .ok (.getfield 123, 3) := by decide +kernel
theorem dX4_tryOrder_16 : decode cX4_tryOrder 16 = .ok (.if_icmp .ge 62, 3) := by decide +kernel
theorem dX4_tryOrder_19 : decode cX4_tryOrder 19 = .ok (.iconst 1, 1) := by decide +kernel
theorem dX4_tryOrder_20 : decode cX4_tryOrder 20 = .ok (.getstatic 273, 3) := by decide +kernel
theorem dX4_tryOrder_23 : decode cX4_tryOrder 23 = .ok (.aload_n 0, 1) := by decide +kernel
theorem dX4_tryOrder_24 : decode cX4_tryOrder 24 = .ok (.getfield 12, 3) := by decide +kernel
theorem dX4_tryOrder_27 : decode cX4_tryOrder 27 = .ok (.getfield 123, 3) := by decide +kernel
theorem dX4_tryOrder_30 : decode cX4_tryOrder 30 = .ok (.iconst 1, 1) := by decide +kernel
theorem dX4_tryOrder_31 : decode cX4_tryOrder 31 = .ok (.isub, 1) := by decide +kernel
theorem dX4_tryOrder_32 : decode cX4_tryOrder 32 = .ok (.iload 4, 2) := by decide +kernel
theorem dX4_tryOrder_34 : decode cX4_tryOrder 34 = .ok (.isub, 1) := by decide +kernel
theorem dX4_tryOrder_35 : decode cX4_tryOrder 35 = .ok (.iaload, 1) := by decide +kernel
theorem dX4_tryOrder_36 : decode cX4_tryOrder 36 = .ok (.invokestatic 361, 3) := by decide +kernel
theorem dX4_tryOrder_39 : decode cX4_tryOrder 39 = .ok (.istore 5, 2) := by decide +kernel
theorem dX4_tryOrder_41 : decode cX4_tryOrder 41 = .ok (.iload_n 2, 1) := by decide +kernel
theorem dX4_tryOrder_42 : decode cX4_tryOrder 42 = .ok (.iload_n 3, 1) := by decide +kernel
theorem dX4_tryOrder_43 : decode cX4_tryOrder 43 = .ok (.iload 5, 2) := by decide +kernel
theorem dX4_tryOrder_45 : decode cX4_tryOrder 45 = .ok (.idiv, 1) := by decide +kernel
theorem dX4_tryOrder_46 : decode cX4_tryOrder 46 = .ok (.invokestatic 364, 3) := by decide +kernel
theorem dX4_tryOrder_49 : decode cX4_tryOrder 49 = .ok (.istore 6, 2) := by decide +kernel
theorem dX4_tryOrder_51 : decode cX4_tryOrder 51 = .ok (.iload_n 3, 1) := by decide +kernel
theorem dX4_tryOrder_52 : decode cX4_tryOrder 52 = .ok (.iload 5, 2) := by decide +kernel
theorem dX4_tryOrder_54 : decode cX4_tryOrder 54 = .ok (.irem, 1) := by decide +kernel
theorem dX4_tryOrder_55 : decode cX4_tryOrder 55 = .ok (.istore_n 3, 1) := by decide +kernel
theorem dX4_tryOrder_56 : decode cX4_tryOrder 56 = .ok (.iload_n 2, 1) := by decide +kernel
theorem dX4_tryOrder_57 : decode cX4_tryOrder 57 = .ok (.iconst 1, 1) := by decide +kernel
theorem dX4_tryOrder_58 : decode cX4_tryOrder 58 = .ok (.iload 6, 2) := by decide +kernel
theorem dX4_tryOrder_60 : decode cX4_tryOrder 60 = .ok (.ishl, 1) := by decide +kernel
theorem dX4_tryOrder_61 : decode cX4_tryOrder 61 = .ok (.ior, 1) := by decide +kernel
theorem dX4_tryOrder_62 : decode cX4_tryOrder 62 = .ok (.istore_n 2, 1) := by decide +kernel
theorem dX4_tryOrder_63 : decode cX4_tryOrder 63 = .ok (.aload_n 0, 1) := by decide +kernel
theorem dX4_tryOrder_64 : decode cX4_tryOrder 64 = .ok (.getfield 42, 3) := by decide +kernel
theorem dX4_tryOrder_67 : decode cX4_tryOrder 67 = .ok (.iload 4, 2) := by decide +kernel
theorem dX4_tryOrder_69 : decode cX4_tryOrder 69 = .ok (.iload 6, 2) := by decide +kernel
theorem dX4_tryOrder_71 : decode cX4_tryOrder 71 = .ok (.iastore, 1) := by decide +kernel
theorem dX4_tryOrder_72 : decode cX4_tryOrder 72 = .ok (.iinc 4 1, 3) := by decide +kernel
theorem dX4_tryOrder_75 : decode cX4_tryOrder 75 = .ok (.goto (-68), 3) := by decide +kernel
theorem dX4_tryOrder_78 : decode cX4_tryOrder 78 = .ok (.return_, 1) := by decide +kernel
theorem dX4_freeHeap_0 : decode cX4_freeHeap 0 = .ok (.iload_n 1, 1) := by decide +kernel
theorem dX4_freeHeap_1 : decode cX4_freeHeap 1 = .ok (.istore_n 2, 1) := by decide +kernel
theorem dX4_freeHeap_2 : decode cX4_freeHeap 2 = .ok (.iconst 0, 1) := by decide +kernel
theorem dX4_freeHeap_3 : decode cX4_freeHeap 3 = .ok (.istore_n 3, 1) := by decide +kernel
theorem dX4_freeHeap_4 : decode cX4_freeHeap 4 = .ok (.iload_n 3, 1) := by decide +kernel
theorem dX4_freeHeap_5 : decode cX4_freeHeap 5 = .ok (.iconst 4, 1) := by decide +kernel
theorem dX4_freeHeap_6 : decode cX4_freeHeap 6 = .ok (.if_icmp .ge 26, 3) := by decide +kernel
theorem dX4_freeHeap_9 : decode cX4_freeHeap 9 = .ok (.iload_n 0, 1) := by decide +kernel
theorem dX4_freeHeap_10 : decode cX4_freeHeap 10 = .ok (.iload_n 3, 1) := by decide +kernel
theorem dX4_freeHeap_11 : decode cX4_freeHeap 11 = .ok (.ishr, 1) := by decide +kernel
theorem dX4_freeHeap_12 : decode cX4_freeHeap 12 = .ok (.iconst 1, 1) := by decide +kernel
theorem dX4_freeHeap_13 : decode cX4_freeHeap 13 = .ok (.iand, 1) := by decide +kernel
theorem dX4_freeHeap_14 : decode cX4_freeHeap 14 = .ok (.ifCond .ne 12, 3) := by decide +kernel
theorem dX4_freeHeap_17 : decode cX4_freeHeap 17 = .ok (.iload_n 2, 1) := by decide +kernel
theorem dX4_freeHeap_18 : decode cX4_freeHeap 18 = .ok (.ifCond .ne 5, 3) := by decide +kernel
theorem dX4_freeHeap_21 : decode cX4_freeHeap 21 = .ok (.iload_n 3, 1) := by decide +kernel
theorem dX4_freeHeap_22 : decode cX4_freeHeap 22 = .ok (.ireturn, 1) := by decide +kernel
theorem dX4_freeHeap_23 : decode cX4_freeHeap 23 = .ok (.iinc 2 (-1), 3) := by decide +kernel
theorem dX4_freeHeap_26 : decode cX4_freeHeap 26 = .ok (.iinc 3 1, 3) := by decide +kernel
theorem dX4_freeHeap_29 : decode cX4_freeHeap 29 = .ok (.goto (-25), 3) := by decide +kernel
theorem dX4_freeHeap_32 : decode cX4_freeHeap 32 = .ok (.iconst 0, 1) := by decide +kernel
theorem dX4_freeHeap_33 : decode cX4_freeHeap 33 = .ok (.ireturn, 1) := by decide +kernel
theorem dX4_choose_0 : decode cX4_choose 0 = .ok (.iload_n 1, 1) := by decide +kernel
theorem dX4_choose_1 : decode cX4_choose 1 = .ok (.ifCond .lt 8, 3) := by decide +kernel
theorem dX4_choose_4 : decode cX4_choose 4 = .ok (.iload_n 1, 1) := by decide +kernel
theorem dX4_choose_5 : decode cX4_choose 5 = .ok (.iload_n 0, 1) := by decide +kernel
theorem dX4_choose_6 : decode cX4_choose 6 = .ok (.if_icmp .le 5, 3) := by decide +kernel
theorem dX4_choose_9 : decode cX4_choose 9 = .ok (.lconst 0, 1) := by decide +kernel
theorem dX4_choose_10 : decode cX4_choose 10 = .ok (.lreturn, 1) := by decide +kernel
theorem dX4_choose_11 : decode cX4_choose 11 = .ok (.lconst 1, 1) := by decide +kernel
theorem dX4_choose_12 : decode cX4_choose 12 = .ok (.lstore_n 2, 1) := by decide +kernel
theorem dX4_choose_13 : decode cX4_choose 13 = .ok (.iconst 1, 1) := by decide +kernel
theorem dX4_choose_14 : decode cX4_choose 14 = .ok (.istore 4, 2) := by decide +kernel
theorem dX4_choose_16 : decode cX4_choose 16 = .ok (.iload 4, 2) := by decide +kernel
theorem dX4_choose_18 : decode cX4_choose 18 = .ok (.iload_n 1, 1) := by decide +kernel
theorem dX4_choose_19 : decode cX4_choose 19 = .ok (.if_icmp .gt 23, 3) := by decide +kernel
theorem dX4_choose_22 : decode cX4_choose 22 = .ok (.lload_n 2, 1) := by decide +kernel
theorem dX4_choose_23 : decode cX4_choose 23 = .ok (.iload_n 0, 1) := by decide +kernel
theorem dX4_choose_24 : decode cX4_choose 24 = .ok (.iload_n 1, 1) := by decide +kernel
theorem dX4_choose_25 : decode cX4_choose 25 = .ok (.isub, 1) := by decide +kernel
theorem dX4_choose_26 : decode cX4_choose 26 = .ok (.iload 4, 2) := by decide +kernel
theorem dX4_choose_28 : decode cX4_choose 28 = .ok (.iadd, 1) := by decide +kernel
theorem dX4_choose_29 : decode cX4_choose 29 = .ok (.i2l, 1) := by decide +kernel
theorem dX4_choose_30 : decode cX4_choose 30 = .ok (.lmul, 1) := by decide +kernel
theorem dX4_choose_31 : decode cX4_choose 31 = .ok (.iload 4, 2) := by decide +kernel
theorem dX4_choose_33 : decode cX4_choose 33 = .ok (.i2l, 1) := by decide +kernel
theorem dX4_choose_34 : decode cX4_choose 34 = .ok (.ldiv, 1) := by decide +kernel
theorem dX4_choose_35 : decode cX4_choose 35 = .ok (.lstore_n 2, 1) := by decide +kernel
theorem dX4_choose_36 : decode cX4_choose 36 = .ok (.iinc 4 1, 3) := by decide +kernel
theorem dX4_choose_39 : decode cX4_choose 39 = .ok (.goto (-23), 3) := by decide +kernel
theorem dX4_choose_42 : decode cX4_choose 42 = .ok (.lload_n 2, 1) := by decide +kernel
theorem dX4_choose_43 : decode cX4_choose 43 = .ok (.lreturn, 1) := by decide +kernel
theorem dX4_firstUnlike_0 : decode cX4_firstUnlike 0 = .ok (.iconst 0, 1) := by decide +kernel
theorem dX4_firstUnlike_1 : decode cX4_firstUnlike 1 = .ok (.istore_n 2, 1) := by decide +kernel
theorem dX4_firstUnlike_2 : decode cX4_firstUnlike 2 = .ok (.iload_n 2, 1) := by decide +kernel
theorem dX4_firstUnlike_3 : decode cX4_firstUnlike 3 = .ok (.aload_n 0, 1) := by decide +kernel
theorem dX4_firstUnlike_4 : decode cX4_firstUnlike 4 = .ok (.getfield 323, 3) := by decide +kernel
theorem dX4_firstUnlike_7 : decode cX4_firstUnlike 7 = .ok (.if_icmp .ge 50, 3) := by decide +kernel
theorem dX4_firstUnlike_10 : decode cX4_firstUnlike 10 = .ok (.iload_n 2, 1) := by decide +kernel
theorem dX4_firstUnlike_11 : decode cX4_firstUnlike 11 = .ok (.aload_n 1, 1) := by decide +kernel
theorem dX4_firstUnlike_12 : decode cX4_firstUnlike 12 = .ok (.getfield 323, 3) := by decide +kernel
theorem dX4_firstUnlike_15 : decode cX4_firstUnlike 15 = .ok (.if_icmp .ge 42, 3) := by decide +kernel
theorem dX4_firstUnlike_18 : decode cX4_firstUnlike 18 = .ok (.aload_n 0, 1) := by decide +kernel
theorem dX4_firstUnlike_19 : decode cX4_firstUnlike 19 = .ok (.iload_n 2, 1) := by decide +kernel
theorem dX4_firstUnlike_20 : decode cX4_firstUnlike 20 = .ok (.invokevirtual 355, 3) := by decide +kernel
theorem dX4_firstUnlike_23 : decode cX4_firstUnlike 23 = .ok (.iconst (-1), 1) := by decide +kernel
theorem dX4_firstUnlike_24 : decode cX4_firstUnlike 24 = .ok (.if_icmp .eq 27, 3) := by decide +kernel
theorem dX4_firstUnlike_27 : decode cX4_firstUnlike 27 = .ok (.aload_n 1, 1) := by decide +kernel
theorem dX4_firstUnlike_28 : decode cX4_firstUnlike 28 = .ok (.iload_n 2, 1) := by decide +kernel
theorem dX4_firstUnlike_29 : decode cX4_firstUnlike 29 = .ok (.invokevirtual 355, 3) := by decide +kernel
theorem dX4_firstUnlike_32 : decode cX4_firstUnlike 32 = .ok (.iconst (-1), 1) := by decide +kernel
theorem dX4_firstUnlike_33 : decode cX4_firstUnlike 33 = .ok (.if_icmp .eq 18, 3) := by decide +kernel
theorem dX4_firstUnlike_36 : decode cX4_firstUnlike 36 = .ok (.aload_n 0, 1) := by decide +kernel
theorem dX4_firstUnlike_37 : decode cX4_firstUnlike 37 = .ok (.iload_n 2, 1) := by decide +kernel
theorem dX4_firstUnlike_38 : decode cX4_firstUnlike 38 = .ok (.invokevirtual 355, 3) := by decide +kernel
theorem dX4_firstUnlike_41 : decode cX4_firstUnlike 41 = .ok (.aload_n 1, 1) := by decide +kernel
theorem dX4_firstUnlike_42 : decode cX4_firstUnlike 42 = .ok (.iload_n 2, 1) := by decide +kernel
theorem dX4_firstUnlike_43 : decode cX4_firstUnlike 43 = .ok (.invokevirtual 355, 3) := by decide +kernel
theorem dX4_firstUnlike_46 : decode cX4_firstUnlike 46 = .ok (.if_icmp .eq 5, 3) := by decide +kernel
theorem dX4_firstUnlike_49 : decode cX4_firstUnlike 49 = .ok (.iload_n 2, 1) := by decide +kernel
theorem dX4_firstUnlike_50 : decode cX4_firstUnlike 50 = .ok (.ireturn, 1) := by decide +kernel
theorem dX4_firstUnlike_51 : decode cX4_firstUnlike 51 = .ok (.iinc 2 1, 3) := by decide +kernel
theorem dX4_firstUnlike_54 : decode cX4_firstUnlike 54 = .ok (.goto (-52), 3) := by decide +kernel
theorem dX4_firstUnlike_57 : decode cX4_firstUnlike 57 = .ok (.iconst (-1), 1) := by decide +kernel
theorem dX4_firstUnlike_58 : decode cX4_firstUnlike 58 = .ok (.ireturn, 1) := by decide +kernel
theorem dX4_agreeing_0 : decode cX4_agreeing 0 = .ok (.lconst 1, 1) := by decide +kernel
theorem dX4_agreeing_1 : decode cX4_agreeing 1 = .ok (.lstore_n 3, 1) := by decide +kernel
theorem dX4_agreeing_2 : decode cX4_agreeing 2 = .ok (.iconst 0, 1) := by decide +kernel
theorem dX4_agreeing_3 : decode cX4_agreeing 3 = .ok (.istore 5, 2) := by decide +kernel
theorem dX4_agreeing_5 : decode cX4_agreeing 5 = .ok (.iconst 0, 1) := by decide +kernel
theorem dX4_agreeing_6 : decode cX4_agreeing 6 = .ok (.istore 6, 2) := by decide +kernel
theorem dX4_agreeing_8 : decode cX4_agreeing 8 = .ok (.iload 6, 2) := by decide +kernel
theorem dX4_agreeing_10 : decode cX4_agreeing 10 = .ok (.aload_n 0, 1) := by decide +kernel
theorem dX4_agreeing_11 : decode cX4_agreeing 11 = .ok (.getfield 12, 3) := by decide +kernel
theorem dX4_agreeing_14 : decode cX4_agreeing 14 = .ok (.getfield 123, 3) := by decide +kernel
theorem dX4_agreeing_17 : decode cX4_agreeing 17 = .ok (.if_icmp .ge 144, 3) := by decide +kernel
theorem dX4_agreeing_20 : decode cX4_agreeing 20 = .ok (.aload_n 0, 1) := by decide +kernel
theorem dX4_agreeing_21 : decode cX4_agreeing 21 = .ok (.getfield 12, 3) := by decide +kernel
theorem dX4_agreeing_24 : decode cX4_agreeing 24 = .ok (.getfield 193, 3) := by decide +kernel
theorem dX4_agreeing_27 : decode cX4_agreeing 27 = .ok (.iload 6, 2) := by decide +kernel
theorem dX4_agreeing_29 : decode cX4_agreeing 29 = .ok (.iaload, 1) := by decide +kernel
theorem dX4_agreeing_30 : decode cX4_agreeing 30 = .ok (.istore 7, 2) := by decide +kernel
theorem dX4_agreeing_32 : decode cX4_agreeing 32 = .ok (.iload 5, 2) := by decide +kernel
theorem dX4_agreeing_34 : decode cX4_agreeing 34 = .ok (.aload_n 0, 1) := by decide +kernel
theorem dX4_agreeing_35 : decode cX4_agreeing 35 = .ok (.getfield 12, 3) := by decide +kernel
theorem dX4_agreeing_38 : decode cX4_agreeing 38 = .ok (.getfield 165, 3) := by decide +kernel
theorem dX4_agreeing_41 : decode cX4_agreeing 41 = .ok (.iload 7, 2) := by decide +kernel
theorem dX4_agreeing_43 : decode cX4_agreeing 43 = .ok (.iaload, 1) := by decide +kernel
theorem dX4_agreeing_44 : decode cX4_agreeing 44 = .ok (.iadd, 1) := by decide +kernel
theorem dX4_agreeing_45 : decode cX4_agreeing 45 = .ok (.aload_n 0, 1) := by decide +kernel
theorem dX4_agreeing_46 : decode cX4_agreeing 46 = .ok (.getfield 12, 3) := by decide +kernel
theorem dX4_agreeing_49 : decode cX4_agreeing 49 = .ok (.getfield 168, 3) := by decide +kernel
theorem dX4_agreeing_52 : decode cX4_agreeing 52 = .ok (.iload 7, 2) := by decide +kernel
theorem dX4_agreeing_54 : decode cX4_agreeing 54 = .ok (.iaload, 1) := by decide +kernel
theorem dX4_agreeing_55 : decode cX4_agreeing 55 = .ok (.iadd, 1) := by decide +kernel
theorem dX4_agreeing_56 : decode cX4_agreeing 56 = .ok (.istore 8, 2) := by decide +kernel
theorem dX4_agreeing_58 : decode cX4_agreeing 58 = .ok (.iconst 0, 1) := by decide +kernel
theorem dX4_agreeing_59 : decode cX4_agreeing 59 = .ok (.istore 9, 2) := by decide +kernel
theorem dX4_agreeing_61 : decode cX4_agreeing 61 = .ok (.aload_n 0, 1) := by decide +kernel
theorem dX4_agreeing_62 : decode cX4_agreeing 62 = .ok (.getfield 12, 3) := by decide +kernel
theorem dX4_agreeing_65 : decode cX4_agreeing 65 = .ok (.getfield 165, 3) := by decide +kernel
theorem dX4_agreeing_68 : decode cX4_agreeing 68 = .ok (.iload 7, 2) := by decide +kernel
theorem dX4_agreeing_70 : decode cX4_agreeing 70 = .ok (.iaload, 1) := by decide +kernel
theorem dX4_agreeing_71 : decode cX4_agreeing 71 = .ok (.istore 10, 2) := by decide +kernel
theorem dX4_agreeing_73 : decode cX4_agreeing 73 = .ok (.iload 5, 2) := by decide +kernel
theorem dX4_agreeing_75 : decode cX4_agreeing 75 = .ok (.iload 8, 2) := by decide +kernel
theorem dX4_agreeing_77 : decode cX4_agreeing 77 = .ok (.if_icmp .ge 68, 3) := by decide +kernel
theorem dX4_agreeing_80 : decode cX4_agreeing 80 = .ok (.aload_n 1, 1) := by decide +kernel
theorem dX4_agreeing_81 : decode cX4_agreeing 81 = .ok (.iload 5, 2) := by decide +kernel
theorem dX4_agreeing_83 : decode cX4_agreeing 83 = .ok (.invokevirtual 355, 3) := by decide +kernel
theorem dX4_agreeing_86 : decode cX4_agreeing 86 = .ok (.iconst (-1), 1) := by decide +kernel
theorem dX4_agreeing_87 : decode cX4_agreeing 87 = .ok (.if_icmp .ne 12, 3) := by decide +kernel
theorem dX4_agreeing_90 : decode cX4_agreeing 90 = .ok (.aload_n 2, 1) := by decide +kernel
theorem dX4_agreeing_91 : decode cX4_agreeing 91 = .ok (.iload 5, 2) := by decide +kernel
theorem dX4_agreeing_93 : decode cX4_agreeing 93 = .ok (.invokevirtual 355, 3) := by decide +kernel
theorem dX4_agreeing_96 : decode cX4_agreeing 96 = .ok (.goto 9, 3) := by decide +kernel
theorem dX4_agreeing_99 : decode cX4_agreeing 99 = .ok (.aload_n 1, 1) := by decide +kernel
theorem dX4_agreeing_100 : decode cX4_agreeing 100 = .ok (.iload 5, 2) := by decide +kernel
theorem dX4_agreeing_102 : decode cX4_agreeing 102 = .ok (.invokevirtual 355, 3) := by decide +kernel
theorem dX4_agreeing_105 : decode cX4_agreeing 105 = .ok (.istore 11, 2) := by decide +kernel
theorem dX4_agreeing_107 : decode cX4_agreeing 107 = .ok (.iload 9, 2) := by decide +kernel
theorem dX4_agreeing_109 : decode cX4_agreeing 109 = .ok (.iload 11, 2) := by decide +kernel
theorem dX4_agreeing_111 : decode cX4_agreeing 111 = .ok (.iconst (-1), 1) := by decide +kernel
theorem dX4_agreeing_112 : decode cX4_agreeing 112 = .ok (.if_icmp .ne 7, 3) := by decide +kernel
theorem dX4_agreeing_115 : decode cX4_agreeing 115 = .ok (.iconst 1, 1) := by decide +kernel
theorem dX4_agreeing_116 : decode cX4_agreeing 116 = .ok (.goto 4, 3) := by decide +kernel
theorem dX4_agreeing_119 : decode cX4_agreeing 119 = .ok (.iconst 0, 1) := by decide +kernel
theorem dX4_agreeing_120 : decode cX4_agreeing 120 = .ok (.iadd, 1) := by decide +kernel
theorem dX4_agreeing_121 : decode cX4_agreeing 121 = .ok (.istore 9, 2) := by decide +kernel
theorem dX4_agreeing_123 : decode cX4_agreeing 123 = .ok (.iload 10, 2) := by decide +kernel
theorem dX4_agreeing_125 : decode cX4_agreeing 125 = .ok (.iload 11, 2) := by decide +kernel
theorem dX4_agreeing_127 : decode cX4_agreeing 127 = .ok (.iconst 1, 1) := by decide +kernel
theorem dX4_agreeing_128 : decode cX4_agreeing 128 = .ok (.if_icmp .ne 7, 3) := by decide +kernel
theorem dX4_agreeing_131 : decode cX4_agreeing 131 = .ok (.iconst 1, 1) := by decide +kernel
theorem dX4_agreeing_132 : decode cX4_agreeing 132 = .ok (.goto 4, 3) := by decide +kernel
theorem dX4_agreeing_135 : decode cX4_agreeing 135 = .ok (.iconst 0, 1) := by decide +kernel
theorem dX4_agreeing_136 : decode cX4_agreeing 136 = .ok (.isub, 1) := by decide +kernel
theorem dX4_agreeing_137 : decode cX4_agreeing 137 = .ok (.istore 10, 2) := by decide +kernel
theorem dX4_agreeing_139 : decode cX4_agreeing 139 = .ok (.iinc 5 1, 3) := by decide +kernel
theorem dX4_agreeing_142 : decode cX4_agreeing 142 = .ok (.goto (-69), 3) := by decide +kernel
theorem dX4_agreeing_145 : decode cX4_agreeing 145 = .ok (.lload_n 3, 1) := by decide +kernel
theorem dX4_agreeing_146 : decode cX4_agreeing 146 = .ok (.iload 9, 2) := by decide +kernel
theorem dX4_agreeing_148 : decode cX4_agreeing 148 = .ok (.iload 10, 2) := by decide +kernel
theorem dX4_agreeing_150 : decode cX4_agreeing 150 = .ok (.invokestatic 290, 3) := by decide +kernel
theorem dX4_agreeing_153 : decode cX4_agreeing 153 = .ok (.lmul, 1) := by decide +kernel
theorem dX4_agreeing_154 : decode cX4_agreeing 154 = .ok (.lstore_n 3, 1) := by decide +kernel
theorem dX4_agreeing_155 : decode cX4_agreeing 155 = .ok (.iinc 6 1, 3) := by decide +kernel
theorem dX4_agreeing_158 : decode cX4_agreeing 158 = .ok (.goto (-150), 3) := by decide +kernel
theorem dX4_agreeing_161 : decode cX4_agreeing 161 = .ok (.lload_n 3, 1) := by decide +kernel
theorem dX4_agreeing_162 : decode cX4_agreeing 162 = .ok (.l2i, 1) := by decide +kernel
theorem dX4_agreeing_163 : decode cX4_agreeing 163 = .ok (.ireturn, 1) := by decide +kernel
