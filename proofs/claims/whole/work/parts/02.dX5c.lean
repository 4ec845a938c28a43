theorem dX5_leftNow_0 : decode cX5_leftNow 0 = .ok (.aload_n 0, 1) := by decide +kernel
theorem dX5_leftNow_1 : decode cX5_leftNow 1 = .ok (.aload_n 0, 1) := by decide +kernel
theorem dX5_leftNow_2 : decode cX5_leftNow 2 = .ok (.getfield 137, 3) := by decide +kernel
theorem dX5_leftNow_5 : decode cX5_leftNow 5 = .ok (.invokevirtual 283, 3) := by decide +kernel
theorem dX5_leftNow_8 : decode cX5_leftNow 8 = .ok (.istore_n 2, 1) := by decide +kernel
theorem dX5_leftNow_9 : decode cX5_leftNow 9 = .ok (.iconst 0, 1) := by decide +kernel
theorem dX5_leftNow_10 : decode cX5_leftNow 10 = .ok (.istore_n 3, 1) := by decide +kernel
theorem dX5_leftNow_11 : decode cX5_leftNow 11 = .ok (.aload_n 0, 1) := by decide +kernel
theorem dX5_leftNow_12 : decode cX5_leftNow 12 = .ok (.iload_n 2, 1) := by decide +kernel
theorem dX5_leftNow_13 : decode cX5_leftNow 13 = .ok (.invokevirtual 286, 3) := by decide +kernel
theorem dX5_leftNow_16 : decode cX5_leftNow 16 = .ok (.istore 4, 2) := by decide +kernel
theorem dX5_leftNow_18 : decode cX5_leftNow 18 = .ok (.iload 4, 2) := by decide +kernel
theorem dX5_leftNow_20 : decode cX5_leftNow 20 = .ok (.aload_n 0, 1) := by decide +kernel
theorem dX5_leftNow_21 : decode cX5_leftNow 21 = .ok (.getfield 137, 3) := by decide +kernel
theorem dX5_leftNow_24 : decode cX5_leftNow 24 = .ok (.if_icmp .ge 37, 3) := by decide +kernel
theorem dX5_leftNow_27 : decode cX5_leftNow 27 = .ok (.iload_n 3, 1) := by decide +kernel
theorem dX5_leftNow_28 : decode cX5_leftNow 28 = .ok (.aload_n 0, 1) := by decide +kernel
theorem dX5_leftNow_29 : decode cX5_leftNow 29 = .ok (.getfield 54, 3) := by decide +kernel
theorem dX5_leftNow_32 : decode cX5_leftNow 32 = .ok (.iload 4, 2) := by decide +kernel
theorem dX5_leftNow_34 : decode cX5_leftNow 34 = .ok (.iaload, 1) := by decide +kernel
theorem dX5_leftNow_35 : decode cX5_leftNow 35 = .ok (.iconst 1, 1) := by decide +kernel
theorem dX5_leftNow_36 : decode cX5_leftNow 36 = .ok (.if_icmp .ne 7, 3) := by decide +kernel
theorem dX5_leftNow_39 : decode cX5_leftNow 39 = .ok (.iconst 1, 1) := by decide +kernel
theorem dX5_leftNow_40 : decode cX5_leftNow 40 = .ok (.goto 4, 3) := by decide +kernel
theorem dX5_leftNow_43 : decode cX5_leftNow 43 = .ok (.iconst 0, 1) := by decide +kernel
theorem dX5_leftNow_44 : decode cX5_leftNow 44 = .ok (.iload_n 1, 1) := by decide +kernel
theorem dX5_leftNow_45 : decode cX5_leftNow 45 = .ok (.if_icmp .ne 7, 3) := by decide +kernel
theorem dX5_leftNow_48 : decode cX5_leftNow 48 = .ok (.iconst 1, 1) := by decide +kernel
theorem dX5_leftNow_49 : decode cX5_leftNow 49 = .ok (.goto 4, 3) := by decide +kernel
theorem dX5_leftNow_52 : decode cX5_leftNow 52 = .ok (.iconst 0, 1) := by decide +kernel
theorem dX5_leftNow_53 : decode cX5_leftNow 53 = .ok (.iadd, 1) := by decide +kernel
theorem dX5_leftNow_54 : decode cX5_leftNow 54 = .ok (.istore_n 3, 1) := by decide +kernel
theorem dX5_leftNow_55 : decode cX5_leftNow 55 = .ok (.iinc 4 1, 3) := by decide +kernel
theorem dX5_leftNow_58 : decode cX5_leftNow 58 = .ok (.goto (-40), 3) := by decide +kernel
theorem dX5_leftNow_61 : decode cX5_leftNow 61 = .ok (.iload_n 1, 1) := by decide +kernel
theorem dX5_leftNow_62 : decode cX5_leftNow 62 = .ok (.ifCond .eq 12, 3) := by decide +kernel
theorem dX5_leftNow_65 : decode cX5_leftNow 65 = .ok (.aload_n 0, 1) := by decide +kernel
theorem dX5_leftNow_66 : decode cX5_leftNow 66 = .ok (.getfield 40, 3) := by decide +kernel
theorem dX5_leftNow_69 : decode cX5_leftNow 69 = .ok (.iload_n 2, 1) := by decide +kernel
theorem dX5_leftNow_70 : decode cX5_leftNow 70 = .ok (.iaload, 1) := by decide +kernel
theorem dX5_leftNow_71 : decode cX5_leftNow 71 = .ok (.goto 9, 3) := by decide +kernel
theorem dX5_leftNow_74 : decode cX5_leftNow 74 = .ok (.aload_n 0, 1) := by decide +kernel
theorem dX5_leftNow_75 : decode cX5_leftNow 75 = .ok (.getfield 43, 3) := by decide +kernel
theorem dX5_leftNow_78 : decode cX5_leftNow 78 = .ok (.iload_n 2, 1) := by decide +kernel
theorem dX5_leftNow_79 : decode cX5_leftNow 79 = .ok (.iaload, 1) := by decide +kernel
theorem dX5_leftNow_80 : decode cX5_leftNow 80 = .ok (.iload_n 3, 1) := by decide +kernel
theorem dX5_leftNow_81 : decode cX5_leftNow 81 = .ok (.isub, 1) := by decide +kernel
theorem dX5_leftNow_82 : decode cX5_leftNow 82 = .ok (.ireturn, 1) := by decide +kernel
theorem dX5_isThere_0 : decode cX5_isThere 0 = .ok (.aload_n 0, 1) := by decide +kernel
theorem dX5_isThere_1 : decode cX5_isThere 1 = .ok (.getfield 137, 3) := by decide +kernel
theorem dX5_isThere_4 : decode cX5_isThere 4 = .ok (.aload_n 0, 1) := by decide +kernel
theorem dX5_isThere_5 : decode cX5_isThere 5 = .ok (.invokevirtual 140, 3) := by decide +kernel
theorem dX5_isThere_8 : decode cX5_isThere 8 = .ok (.if_icmp .ge 15, 3) := by decide +kernel
theorem dX5_isThere_11 : decode cX5_isThere 11 = .ok (.aload_n 0, 1) := by decide +kernel
theorem dX5_isThere_12 : decode cX5_isThere 12 = .ok (.iload_n 1, 1) := by decide +kernel
theorem dX5_isThere_13 : decode cX5_isThere 13 = .ok (.invokevirtual 289, 3) := by decide +kernel
theorem dX5_isThere_16 : decode cX5_isThere 16 = .ok (.ifCond .le 7, 3) := by decide +kernel
theorem dX5_isThere_19 : decode cX5_isThere 19 = .ok (.iconst 1, 1) := by decide +kernel
theorem dX5_isThere_20 : decode cX5_isThere 20 = .ok (.goto 4, 3) := by decide +kernel
theorem dX5_isThere_23 : decode cX5_isThere 23 = .ok (.iconst 0, 1) := by decide +kernel
theorem dX5_isThere_24 : decode cX5_isThere 24 = .ok (.ireturn, 1) := by decide +kernel
theorem dX5_read_0 : decode cX5_read 0 = .ok (.aload_n 0, 1) := by decide +kernel
theorem dX5_read_1 : decode cX5_read 1 = .ok (.iload_n 1, 1) := by decide +kernel
theorem dX5_read_2 : decode cX5_read 2 = .ok (.invokevirtual 208, 3) := by decide +kernel
theorem dX5_read_5 : decode cX5_read 5 = .ok (.ifCond .ne 10, 3) := by decide +kernel
theorem dX5_read_8 : decode cX5_read 8 = .ok (.aload_n 0, 1) := by decide +kernel
theorem dX5_read_9 : decode cX5_read 9 = .ok (.bipush (-5), 2) := by decide +kernel
theorem dX5_read_11 : decode cX5_read 11 = .ok (.invokevirtual 103, 3) := by decide +kernel
theorem dX5_read_14 : decode cX5_read 14 = .ok (.ireturn, 1) := by decide +kernel
theorem dX5_read_15 : decode cX5_read 15 = .ok (.aload_n 0, 1) := by decide +kernel
theorem dX5_read_16 : decode cX5_read 16 = .ok (.getfield 54, 3) := by decide +kernel
theorem dX5_read_19 : decode cX5_read 19 = .ok (.aload_n 0, 1) := by decide +kernel
theorem dX5_read_20 : decode cX5_read 20 = .ok (.dup, 1) := by decide +kernel
theorem dX5_read_21 : decode cX5_read 21 = .ok (.getfield 137, 3) := by decide +kernel
theorem dX5_read_24 : decode cX5_read 24 = .ok (.dup_x1, 1) := by decide +kernel
theorem dX5_read_25 : decode cX5_read 25 = .ok (.iconst 1, 1) := by decide +kernel
theorem dX5_read_26 : decode cX5_read 26 = .ok (.iadd, 1) := by decide +kernel
theorem dX5_read_27 : decode cX5_read 27 = .ok (.putfield 137, 3) := by decide +kernel
theorem dX5_read_30 : decode cX5_read 30 = .ok (.iload_n 1, 1) := by decide +kernel
theorem dX5_read_31 : decode cX5_read 31 = .ok (.ifCond .eq 7, 3) := by decide +kernel
theorem dX5_read_34 : decode cX5_read 34 = .ok (.iconst 1, 1) := by decide +kernel
theorem dX5_read_35 : decode cX5_read 35 = .ok (.goto 4, 3) := by decide +kernel
theorem dX5_read_38 : decode cX5_read 38 = .ok (.iconst 0, 1) := by decide +kernel
theorem dX5_read_39 : decode cX5_read 39 = .ok (.iastore, 1) := by decide +kernel
theorem dX5_read_40 : decode cX5_read 40 = .ok (.aload_n 0, 1) := by decide +kernel
theorem dX5_read_41 : decode cX5_read 41 = .ok (.getfield 137, 3) := by decide +kernel
theorem dX5_read_44 : decode cX5_read 44 = .ok (.ireturn, 1) := by decide +kernel
theorem dX5_slip_0 : decode cX5_slip 0 = .ok (.iload_n 1, 1) := by decide +kernel
theorem dX5_slip_1 : decode cX5_slip 1 = .ok (.i2l, 1) := by decide +kernel
theorem dX5_slip_2 : decode cX5_slip 2 = .ok (.lconst 0, 1) := by decide +kernel
theorem dX5_slip_3 : decode cX5_slip 3 = .ok (.aload_n 0, 1) := by decide +kernel
theorem dX5_slip_4 : decode cX5_slip 4 = .ok (.getfield 137, 3) := by decide +kernel
theorem dX5_slip_7 : decode cX5_slip 7 = .ok (.iconst 1, 1) := by decide +kernel
theorem dX5_slip_8 : decode cX5_slip 8 = .ok (.isub, 1) := by decide +kernel
theorem dX5_slip_9 : decode cX5_slip 9 = .ok (.i2l, 1) := by decide +kernel
theorem dX5_slip_10 : decode cX5_slip 10 = .ok (.invokestatic 95, 3) := by decide +kernel
theorem dX5_slip_13 : decode cX5_slip 13 = .ok (.ifCond .eq 12, 3) := by decide +kernel
theorem dX5_slip_16 : decode cX5_slip 16 = .ok (.aload_n 0, 1) := by decide +kernel
theorem dX5_slip_17 : decode cX5_slip 17 = .ok (.getfield 54, 3) := by decide +kernel
theorem dX5_slip_20 : decode cX5_slip 20 = .ok (.iload_n 1, 1) := by decide +kernel
theorem dX5_slip_21 : decode cX5_slip 21 = .ok (.iaload, 1) := by decide +kernel
theorem dX5_slip_22 : decode cX5_slip 22 = .ok (.goto 9, 3) := by decide +kernel
theorem dX5_slip_25 : decode cX5_slip 25 = .ok (.aload_n 0, 1) := by decide +kernel
theorem dX5_slip_26 : decode cX5_slip 26 = .ok (.bipush (-2), 2) := by decide +kernel
theorem dX5_slip_28 : decode cX5_slip 28 = .ok (.invokevirtual 103, 3) := by decide +kernel
theorem dX5_slip_31 : decode cX5_slip 31 = .ok (.ireturn, 1) := by decide +kernel
theorem dX5_again_0 : decode cX5_again 0 = .ok (.aload_n 0, 1) := by decide +kernel
theorem dX5_again_1 : decode cX5_again 1 = .ok (.getfield 137, 3) := by decide +kernel
theorem dX5_again_4 : decode cX5_again 4 = .ok (.istore_n 1, 1) := by decide +kernel
theorem dX5_again_5 : decode cX5_again 5 = .ok (.aload_n 0, 1) := by decide +kernel
theorem dX5_again_6 : decode cX5_again 6 = .ok (.iconst 0, 1) := by decide +kernel
theorem dX5_again_7 : decode cX5_again 7 = .ok (.putfield 137, 3) := by decide +kernel
theorem dX5_again_10 : decode cX5_again 10 = .ok (.iload_n 1, 1) := by decide +kernel
theorem dX5_again_11 : decode cX5_again 11 = .ok (.ireturn, 1) := by decide +kernel
theorem dX5_lead_0 : decode cX5_lead 0 = .ok (.iconst 2, 1) := by decide +kernel
theorem dX5_lead_1 : decode cX5_lead 1 = .ok (.aload_n 0, 1) := by decide +kernel
theorem dX5_lead_2 : decode cX5_lead 2 = .ok (.aload_n 0, 1) := by decide +kernel
theorem dX5_lead_3 : decode cX5_lead 3 = .ok (.getfield 137, 3) := by decide +kernel
theorem dX5_lead_6 : decode cX5_lead 6 = .ok (.invokevirtual 257, 3) := by decide +kernel
theorem dX5_lead_9 : decode cX5_lead 9 = .ok (.imul, 1) := by decide +kernel
theorem dX5_lead_10 : decode cX5_lead 10 = .ok (.aload_n 0, 1) := by decide +kernel
theorem dX5_lead_11 : decode cX5_lead 11 = .ok (.getfield 137, 3) := by decide +kernel
theorem dX5_lead_14 : decode cX5_lead 14 = .ok (.isub, 1) := by decide +kernel
theorem dX5_lead_15 : decode cX5_lead 15 = .ok (.ireturn, 1) := by decide +kernel
theorem dX5_countFits_0 : decode cX5_countFits 0 = .ok (.aload_n 0, 1) := by decide +kernel
theorem dX5_countFits_1 : decode cX5_countFits 1 = .ok (.invokevirtual 276, 3) := by decide +kernel
theorem dX5_countFits_4 : decode cX5_countFits 4 = .ok (.aload_n 0, 1) := by decide +kernel
theorem dX5_countFits_5 : decode cX5_countFits 5 = .ok (.iload_n 1, 1) := by decide +kernel
theorem dX5_countFits_6 : decode cX5_countFits 6 = .ok (.iload_n 2, 1) := by decide +kernel
theorem dX5_countFits_7 : decode cX5_countFits 7 = .ok (.invokevirtual 273, 3) := by decide +kernel
theorem dX5_countFits_10 : decode cX5_countFits 10 = .ok (.lreturn, 1) := by decide +kernel
theorem dX5_ahead_0 : decode cX5_ahead 0 = .ok (.iload_n 1, 1) := by decide +kernel
theorem dX5_ahead_1 : decode cX5_ahead 1 = .ok (.i2l, 1) := by decide +kernel
theorem dX5_ahead_2 : decode cX5_ahead 2 = .ok (.lconst 0, 1) := by decide +kernel
theorem dX5_ahead_3 : decode cX5_ahead 3 = .ok (.ldc2_w 120, 3) := by decide +kernel
theorem dX5_ahead_6 : decode cX5_ahead 6 = .ok (.invokestatic 95, 3) := by decide +kernel
theorem dX5_ahead_9 : decode cX5_ahead 9 = .ok (.ifCond .eq 13, 3) := by decide +kernel
theorem dX5_ahead_12 : decode cX5_ahead 12 = .ok (.aload_n 0, 1) := by decide +kernel
theorem dX5_ahead_13 : decode cX5_ahead 13 = .ok (.iconst 1, 1) := by decide +kernel
theorem dX5_ahead_14 : decode cX5_ahead 14 = .ok (.iload_n 1, 1) := by decide +kernel
theorem dX5_ahead_15 : decode cX5_ahead 15 = .ok (.invokevirtual 293, 3) := by decide +kernel
theorem dX5_ahead_18 : decode cX5_ahead 18 = .ok (.l2i, 1) := by decide +kernel
theorem dX5_ahead_19 : decode cX5_ahead 19 = .ok (.goto 9, 3) := by decide +kernel
theorem dX5_ahead_22 : decode cX5_ahead 22 = .ok (.aload_n 0, 1) := by decide +kernel
theorem dX5_ahead_23 : decode cX5_ahead 23 = .ok (.bipush (-2), 2) := by decide +kernel
theorem dX5_ahead_25 : decode cX5_ahead 25 = .ok (.invokevirtual 103, 3) := by decide +kernel
theorem dX5_ahead_28 : decode cX5_ahead 28 = .ok (.ireturn, 1) := by decide +kernel
theorem dX5_never_0 : decode cX5_never 0 = .ok (.aload_n 0, 1) := by decide +kernel
theorem dX5_never_1 : decode cX5_never 1 = .ok (.iconst 2, 1) := by decide +kernel
theorem dX5_never_2 : decode cX5_never 2 = .ok (.iconst 0, 1) := by decide +kernel
theorem dX5_never_3 : decode cX5_never 3 = .ok (.invokevirtual 293, 3) := by decide +kernel
theorem dX5_never_6 : decode cX5_never 6 = .ok (.l2i, 1) := by decide +kernel
theorem dX5_never_7 : decode cX5_never 7 = .ok (.ireturn, 1) := by decide +kernel
theorem dX5_countMoments_0 : decode cX5_countMoments 0 = .ok (.iconst 0, 1) := by decide +kernel
theorem dX5_countMoments_1 : decode cX5_countMoments 1 = .ok (.istore_n 2, 1) := by decide +kernel
theorem dX5_countMoments_2 : decode cX5_countMoments 2 = .ok (.iload_n 2, 1) := by decide +kernel
theorem dX5_countMoments_3 : decode cX5_countMoments 3 = .ok (.bipush 24, 2) := by decide +kernel
theorem dX5_countMoments_5 : decode cX5_countMoments 5 = .ok (.if_icmp .gt 32, 3) := by decide +kernel
theorem dX5_countMoments_8 : decode cX5_countMoments 8 = .ok (.iconst 0, 1) := by decide +kernel
theorem dX5_countMoments_9 : decode cX5_countMoments 9 = .ok (.istore_n 3, 1) := by decide +kernel
theorem dX5_countMoments_10 : decode cX5_countMoments 10 = .ok (.iload_n 3, 1) := by decide +kernel
theorem dX5_countMoments_11 : decode cX5_countMoments 11 = .ok (.bipush 24, 2) := by decide +kernel
theorem dX5_countMoments_13 : decode cX5_countMoments 13 = .ok (.if_icmp .gt 18, 3) := by decide +kernel
theorem dX5_countMoments_16 : decode cX5_countMoments 16 = .ok (.aload_n 0, 1) := by decide +kernel
theorem dX5_countMoments_17 : decode cX5_countMoments 17 = .ok (.getfield 75, 3) := by decide +kernel
theorem dX5_countMoments_20 : decode cX5_countMoments 20 = .ok (.iload_n 2, 1) := by decide +kernel
theorem dX5_countMoments_21 : decode cX5_countMoments 21 = .ok (.aaload, 1) := by decide +kernel
theorem dX5_countMoments_22 : decode cX5_countMoments 22 = .ok (.iload_n 3, 1) := by decide +kernel
theorem dX5_countMoments_23 : decode cX5_countMoments 23 = .ok (.lconst 0, 1) := by decide +kernel
theorem dX5_countMoments_24 : decode cX5_countMoments 24 = .ok (.lastore, 1) := by decide +kernel
theorem dX5_countMoments_25 : decode cX5_countMoments 25 = .ok (.iinc 3 1, 3) := by decide +kernel
theorem dX5_countMoments_28 : decode cX5_countMoments 28 = .ok (.goto (-18), 3) := by decide +kernel
theorem dX5_countMoments_31 : decode cX5_countMoments 31 = .ok (.iinc 2 1, 3) := by decide +kernel
theorem dX5_countMoments_34 : decode cX5_countMoments 34 = .ok (.goto (-32), 3) := by decide +kernel
theorem dX5_countMoments_37 : decode cX5_countMoments 37 = .ok (.aload_n 0, 1) := by decide +kernel
theorem dX5_countMoments_38 : decode cX5_countMoments 38 = .ok (.getfield 75, 3) := by decide +kernel
theorem dX5_countMoments_41 : decode cX5_countMoments 41 = .ok (.iconst 0, 1) := by decide +kernel
theorem dX5_countMoments_42 : decode cX5_countMoments 42 = .ok (.aaload, 1) := by decide +kernel
theorem dX5_countMoments_43 : decode cX5_countMoments 43 = .ok (.iconst 0, 1) := by decide +kernel
theorem dX5_countMoments_44 : decode cX5_countMoments 44 = .ok (.aload_n 0, 1) := by decide +kernel
theorem dX5_countMoments_45 : decode cX5_countMoments 45 = .ok (.getfield 66, 3) := by decide +kernel
theorem dX5_countMoments_48 : decode cX5_countMoments 48 = .ok (.iconst 0, 1) := by decide +kernel
theorem dX5_countMoments_49 : decode cX5_countMoments 49 = .ok (.aaload, 1) := by decide +kernel
theorem dX5_countMoments_50 : decode cX5_countMoments 50 = .ok (.iconst 0, 1) := by decide +kernel
theorem dX5_countMoments_51 : decode cX5_countMoments 51 = .ok (.baload, 1) := by decide +kernel
theorem dX5_countMoments_52 : decode cX5_countMoments 52 = .ok (.ifCond .eq 7, 3) := by decide +kernel
theorem dX5_countMoments_55 : decode cX5_countMoments 55 = .ok (.lconst 1, 1) := by decide +kernel
theorem dX5_countMoments_56 : decode cX5_countMoments 56 = .ok (.goto 4, 3) := by decide +kernel
theorem dX5_countMoments_59 : decode cX5_countMoments 59 = .ok (.lconst 0, 1) := by decide +kernel
theorem dX5_countMoments_60 : decode cX5_countMoments 60 = .ok (.lastore, 1) := by decide +kernel
theorem dX5_countMoments_61 : decode cX5_countMoments 61 = .ok (.iconst 1, 1) := by decide +kernel
theorem dX5_countMoments_62 : decode cX5_countMoments 62 = .ok (.istore_n 2, 1) := by decide +kernel
theorem dX5_countMoments_63 : decode cX5_countMoments 63 = .ok (.iload_n 2, 1) := by decide +kernel
theorem dX5_countMoments_64 : decode cX5_countMoments 64 = .ok (.aload_n 0, 1) := by decide +kernel
theorem dX5_countMoments_65 : decode cX5_countMoments 65 = .ok (.getfield 254, 3) := by decide +kernel
theorem dX5_countMoments_68 : decode cX5_countMoments 68 = .ok (.if_icmp .gt 197, 3) := by decide +kernel
theorem dX5_countMoments_71 : decode cX5_countMoments 71 = .ok (.iconst 0, 1) := by decide +kernel
theorem dX5_countMoments_72 : decode cX5_countMoments 72 = .ok (.istore_n 3, 1) := by decide +kernel
theorem dX5_countMoments_73 : decode cX5_countMoments 73 = .ok (.iload_n 3, 1) := by decide +kernel
theorem dX5_countMoments_74 : decode cX5_countMoments 74 = .ok (.iload_n 2, 1) := by decide +kernel
theorem dX5_countMoments_75 : decode cX5_countMoments 75 = .ok (.if_icmp .gt 138, 3) := by decide +kernel
theorem dX5_countMoments_78 : decode cX5_countMoments 78 = .ok (.iconst 2, 1) := by decide +kernel
theorem dX5_countMoments_79 : decode cX5_countMoments 79 = .ok (.iload_n 3, 1) := by decide +kernel
theorem dX5_countMoments_80 : decode cX5_countMoments 80 = .ok (.imul, 1) := by decide +kernel
theorem dX5_countMoments_81 : decode cX5_countMoments 81 = .ok (.iload_n 2, 1) := by decide +kernel
theorem dX5_countMoments_82 : decode cX5_countMoments 82 = .ok (.isub, 1) := by decide +kernel
theorem dX5_countMoments_83 : decode cX5_countMoments 83 = .ok (.istore 4, 2) := by decide +kernel
theorem dX5_countMoments_85 : decode cX5_countMoments 85 = .ok (.iload_n 1, 1) := by decide +kernel
theorem dX5_countMoments_86 : decode cX5_countMoments 86 = .ok (.ifCond .eq 11, 3) := by decide +kernel
theorem dX5_countMoments_89 : decode cX5_countMoments 89 = .ok (.iload 4, 2) := by decide +kernel
theorem dX5_countMoments_91 : decode cX5_countMoments 91 = .ok (.ifCond .ne 15, 3) := by decide +kernel
theorem dX5_countMoments_94 : decode cX5_countMoments 94 = .ok (.goto 8, 3) := by decide +kernel
theorem dX5_countMoments_97 : decode cX5_countMoments 97 = .ok (.iload 4, 2) := by decide +kernel
theorem dX5_countMoments_99 : decode cX5_countMoments 99 = .ok (.ifCond .le 7, 3) := by decide +kernel
theorem dX5_countMoments_102 : decode cX5_countMoments 102 = .ok (.iconst 1, 1) := by decide +kernel
theorem dX5_countMoments_103 : decode cX5_countMoments 103 = .ok (.goto 4, 3) := by decide +kernel
theorem dX5_countMoments_106 : decode cX5_countMoments 106 = .ok (.iconst 0, 1) := by decide +kernel
theorem dX5_countMoments_107 : decode cX5_countMoments 107 = .ok (.istore 5, 2) := by decide +kernel
theorem dX5_countMoments_109 : decode cX5_countMoments 109 = .ok (.iconst 0, 1) := by decide +kernel
theorem dX5_countMoments_110 : decode cX5_countMoments 110 = .ok (.istore 6, 2) := by decide +kernel
theorem dX5_countMoments_112 : decode cX5_countMoments 112 = .ok (.iload 6, 2) := by decide +kernel
theorem dX5_countMoments_114 : decode cX5_countMoments 114 = .ok (.iload_n 2, 1) := by decide +kernel
theorem dX5_countMoments_115 : decode cX5_countMoments 115 = .ok (.if_icmp .gt 92, 3) := by decide +kernel
theorem dX5_countMoments_118 : decode cX5_countMoments 118 = .ok (.iload 6, 2) := by decide +kernel
theorem dX5_countMoments_120 : decode cX5_countMoments 120 = .ok (.iload 5, 2) := by decide +kernel
theorem dX5_countMoments_122 : decode cX5_countMoments 122 = .ok (.if_icmp .ge 7, 3) := by decide +kernel
theorem dX5_countMoments_125 : decode cX5_countMoments 125 = .ok (.lconst 0, 1) := by decide +kernel
theorem dX5_countMoments_126 : decode cX5_countMoments 126 = .ok (.goto 47, 3) := by decide +kernel
theorem dX5_countMoments_129 : decode cX5_countMoments 129 = .ok (.iload_n 3, 1) := by decide +kernel
theorem dX5_countMoments_130 : decode cX5_countMoments 130 = .ok (.iload_n 2, 1) := by decide +kernel
theorem dX5_countMoments_131 : decode cX5_countMoments 131 = .ok (.if_icmp .ge 18, 3) := by decide +kernel
theorem dX5_countMoments_134 : decode cX5_countMoments 134 = .ok (.aload_n 0, 1) := by decide +kernel
theorem dX5_countMoments_135 : decode cX5_countMoments 135 = .ok (.getfield 75, 3) := by decide +kernel
theorem dX5_countMoments_138 : decode cX5_countMoments 138 = .ok (.iload_n 3, 1) := by decide +kernel
theorem dX5_countMoments_139 : decode cX5_countMoments 139 = .ok (.aaload, 1) := by decide +kernel
theorem dX5_countMoments_140 : decode cX5_countMoments 140 = .ok (.iload 6, 2) := by decide +kernel
theorem dX5_countMoments_142 : decode cX5_countMoments 142 = .ok (.iload 5, 2) := by decide +kernel
theorem dX5_countMoments_144 : decode cX5_countMoments 144 = .ok (.isub, 1) := by decide +kernel
theorem dX5_countMoments_145 : decode cX5_countMoments 145 = .ok (.laload, 1) := by decide +kernel
theorem dX5_countMoments_146 : decode cX5_countMoments 146 = .ok (.goto 4, 3) := by decide +kernel
theorem dX5_countMoments_149 : decode cX5_countMoments 149 = .ok (.lconst 0, 1) := by decide +kernel
theorem dX5_countMoments_150 : decode cX5_countMoments 150 = .ok (.iload_n 3, 1) := by decide +kernel
theorem dX5_countMoments_151 : decode cX5_countMoments 151 = .ok (.ifCond .le 20, 3) := by decide +kernel
theorem dX5_countMoments_154 : decode cX5_countMoments 154 = .ok (.aload_n 0, 1) := by decide +kernel
theorem dX5_countMoments_155 : decode cX5_countMoments 155 = .ok (.getfield 75, 3) := by decide +kernel
theorem dX5_countMoments_158 : decode cX5_countMoments 158 = .ok (.iload_n 3, 1) := by decide +kernel
theorem dX5_countMoments_159 : decode cX5_countMoments 159 = .ok (.iconst 1, 1) := by decide +kernel
theorem dX5_countMoments_160 : decode cX5_countMoments 160 = .ok (.isub, 1) := by decide +kernel
theorem dX5_countMoments_161 : decode cX5_countMoments 161 = .ok (.aaload, 1) := by decide +kernel
theorem dX5_countMoments_162 : decode cX5_countMoments 162 = .ok (.iload 6, 2) := by decide +kernel
theorem dX5_countMoments_164 : decode cX5_countMoments 164 = .ok (.iload 5, 2) := by decide +kernel
theorem dX5_countMoments_166 : decode cX5_countMoments 166 = .ok (.isub, 1) := by decide +kernel
theorem dX5_countMoments_167 : decode cX5_countMoments 167 = .ok (.laload, 1) := by decide +kernel
theorem dX5_countMoments_168 : decode cX5_countMoments 168 = .ok (.goto 4, 3) := by decide +kernel
theorem dX5_countMoments_171 : decode cX5_countMoments 171 = .ok (.lconst 0, 1) := by decide +kernel
theorem dX5_countMoments_172 : decode cX5_countMoments 172 = .ok (.ladd, 1) := by decide +kernel
theorem dX5_countMoments_173 : decode cX5_countMoments 173 = .ok (.lstore 7, 2) := by decide +kernel
theorem dX5_countMoments_175 : decode cX5_countMoments 175 = .ok (.aload_n 0, 1) := by decide +kernel
theorem dX5_countMoments_176 : decode cX5_countMoments 176 = .ok (.getfield 78, 3) := by decide +kernel
theorem dX5_countMoments_179 : decode cX5_countMoments 179 = .ok (.iload_n 3, 1) := by decide +kernel
theorem dX5_countMoments_180 : decode cX5_countMoments 180 = .ok (.aaload, 1) := by decide +kernel
theorem dX5_countMoments_181 : decode cX5_countMoments 181 = .ok (.iload 6, 2) := by decide +kernel
theorem dX5_countMoments_183 : decode cX5_countMoments 183 = .ok (.aload_n 0, 1) := by decide +kernel
theorem dX5_countMoments_184 : decode cX5_countMoments 184 = .ok (.getfield 66, 3) := by decide +kernel
theorem dX5_countMoments_187 : decode cX5_countMoments 187 = .ok (.iload_n 2, 1) := by decide +kernel
theorem dX5_countMoments_188 : decode cX5_countMoments 188 = .ok (.aaload, 1) := by decide +kernel
theorem dX5_countMoments_189 : decode cX5_countMoments 189 = .ok (.iload_n 3, 1) := by decide +kernel
theorem dX5_countMoments_190 : decode cX5_countMoments 190 = .ok (.baload, 1) := by decide +kernel
theorem dX5_countMoments_191 : decode cX5_countMoments 191 = .ok (.ifCond .eq 8, 3) := by decide +kernel
theorem dX5_countMoments_194 : decode cX5_countMoments 194 = .ok (.lload 7, 2) := by decide +kernel
theorem dX5_countMoments_196 : decode cX5_countMoments 196 = .ok (.goto 4, 3) := by decide +kernel
theorem dX5_countMoments_199 : decode cX5_countMoments 199 = .ok (.lconst 0, 1) := by decide +kernel
theorem dX5_countMoments_200 : decode cX5_countMoments 200 = .ok (.lastore, 1) := by decide +kernel
theorem dX5_countMoments_201 : decode cX5_countMoments 201 = .ok (.iinc 6 1, 3) := by decide +kernel
theorem dX5_countMoments_204 : decode cX5_countMoments 204 = .ok (.goto (-92), 3) := by decide +kernel
theorem dX5_countMoments_207 : decode cX5_countMoments 207 = .ok (.iinc 3 1, 3) := by decide +kernel
theorem dX5_countMoments_210 : decode cX5_countMoments 210 = .ok (.goto (-137), 3) := by decide +kernel
theorem dX5_countMoments_213 : decode cX5_countMoments 213 = .ok (.iconst 0, 1) := by decide +kernel
theorem dX5_countMoments_214 : decode cX5_countMoments 214 = .ok (.istore_n 3, 1) := by decide +kernel
theorem dX5_countMoments_215 : decode cX5_countMoments 215 = .ok (.iload_n 3, 1) := by decide +kernel
theorem dX5_countMoments_216 : decode cX5_countMoments 216 = .ok (.iload_n 2, 1) := by decide +kernel
theorem dX5_countMoments_217 : decode cX5_countMoments 217 = .ok (.if_icmp .gt 42, 3) := by decide +kernel
theorem dX5_countMoments_220 : decode cX5_countMoments 220 = .ok (.iconst 0, 1) := by decide +kernel
theorem dX5_countMoments_221 : decode cX5_countMoments 221 = .ok (.istore 4, 2) := by decide +kernel
theorem dX5_countMoments_223 : decode cX5_countMoments 223 = .ok (.iload 4, 2) := by decide +kernel
theorem dX5_countMoments_225 : decode cX5_countMoments 225 = .ok (.iload_n 2, 1) := by decide +kernel
theorem dX5_countMoments_226 : decode cX5_countMoments 226 = .ok (.if_icmp .gt 27, 3) := by decide +kernel
theorem dX5_countMoments_229 : decode cX5_countMoments 229 = .ok (.aload_n 0, 1) := by decide +kernel
theorem dX5_countMoments_230 : decode cX5_countMoments 230 = .ok (.getfield 75, 3) := by decide +kernel
theorem dX5_countMoments_233 : decode cX5_countMoments 233 = .ok (.iload_n 3, 1) := by decide +kernel
theorem dX5_countMoments_234 : decode cX5_countMoments 234 = .ok (.aaload, 1) := by decide +kernel
theorem dX5_countMoments_235 : decode cX5_countMoments 235 = .ok (.iload 4, 2) := by decide +kernel
theorem dX5_countMoments_237 : decode cX5_countMoments 237 = .ok (.aload_n 0, 1) := by decide +kernel
theorem dX5_countMoments_238 : decode cX5_countMoments 238 = .ok (.getfield 78, 3) := by decide +kernel
theorem dX5_countMoments_241 : decode cX5_countMoments 241 = .ok (.iload_n 3, 1) := by decide +kernel
theorem dX5_countMoments_242 : decode cX5_countMoments 242 = .ok (.aaload, 1) := by decide +kernel
theorem dX5_countMoments_243 : decode cX5_countMoments 243 = .ok (.iload 4, 2) := by decide +kernel
theorem dX5_countMoments_245 : decode cX5_countMoments 245 = .ok (.laload, 1) := by decide +kernel
theorem dX5_countMoments_246 : decode cX5_countMoments 246 = .ok (.lastore, 1) := by decide +kernel
theorem dX5_countMoments_247 : decode cX5_countMoments 247 = .ok (.iinc 4 1, 3) := by decide +kernel
theorem dX5_countMoments_250 : decode cX5_countMoments 250 = .ok (.goto (-27), 3) := by decide +kernel
theorem dX5_countMoments_253 : decode cX5_countMoments 253 = .ok (.iinc 3 1, 3) := by decide +kernel
theorem dX5_countMoments_256 : decode cX5_countMoments 256 = .ok (.goto (-41), 3) := by decide +kernel
theorem dX5_countMoments_259 : decode cX5_countMoments 259 = .ok (.iinc 2 1, 3) := by decide +kernel
theorem dX5_countMoments_262 : decode cX5_countMoments 262 = .ok (.goto (-199), 3) := by decide +kernel
theorem dX5_countMoments_265 : decode cX5_countMoments 265 = .ok (.return_, 1) := by decide +kernel
theorem dX5_levels_0 : decode cX5_levels 0 = .ok (.lconst 0, 1) := by decide +kernel
theorem dX5_levels_1 : decode cX5_levels 1 = .ok (.lstore_n 2, 1) := by decide +kernel
theorem dX5_levels_2 : decode cX5_levels 2 = .ok (.iconst 0, 1) := by decide +kernel
theorem dX5_levels_3 : decode cX5_levels 3 = .ok (.istore 4, 2) := by decide +kernel
theorem dX5_levels_5 : decode cX5_levels 5 = .ok (.iload 4, 2) := by decide +kernel
theorem dX5_levels_7 : decode cX5_levels 7 = .ok (.aload_n 0, 1) := by decide +kernel
theorem dX5_levels_8 : decode cX5_levels 8 = .ok (.getfield 254, 3) := by decide +kernel
theorem dX5_levels_11 : decode cX5_levels 11 = .ok (.if_icmp .gt 21, 3) := by decide +kernel
theorem dX5_levels_14 : decode cX5_levels 14 = .ok (.lload_n 2, 1) := by decide +kernel
theorem dX5_levels_15 : decode cX5_levels 15 = .ok (.aload_n 0, 1) := by decide +kernel
theorem dX5_levels_16 : decode cX5_levels 16 = .ok (.getfield 75, 3) := by decide +kernel
theorem dX5_levels_19 : decode cX5_levels 19 = .ok (.iload 4, 2) := by decide +kernel
theorem dX5_levels_21 : decode cX5_levels 21 = .ok (.aaload, 1) := by decide +kernel
theorem dX5_levels_22 : decode cX5_levels 22 = .ok (.iload_n 1, 1) := by decide +kernel
theorem dX5_levels_23 : decode cX5_levels 23 = .ok (.laload, 1) := by decide +kernel
theorem dX5_levels_24 : decode cX5_levels 24 = .ok (.ladd, 1) := by decide +kernel
theorem dX5_levels_25 : decode cX5_levels 25 = .ok (.lstore_n 2, 1) := by decide +kernel
theorem dX5_levels_26 : decode cX5_levels 26 = .ok (.iinc 4 1, 3) := by decide +kernel
theorem dX5_levels_29 : decode cX5_levels 29 = .ok (.goto (-24), 3) := by decide +kernel
theorem dX5_levels_32 : decode cX5_levels 32 = .ok (.lload_n 2, 1) := by decide +kernel
theorem dX5_levels_33 : decode cX5_levels 33 = .ok (.lreturn, 1) := by decide +kernel
theorem dX5_level_0 : decode cX5_level 0 = .ok (.iload_n 1, 1) := by decide +kernel
theorem dX5_level_1 : decode cX5_level 1 = .ok (.i2l, 1) := by decide +kernel
theorem dX5_level_2 : decode cX5_level 2 = .ok (.lconst 0, 1) := by decide +kernel
theorem dX5_level_3 : decode cX5_level 3 = .ok (.ldc2_w 149, 3) := by decide +kernel
theorem dX5_level_6 : decode cX5_level 6 = .ok (.invokestatic 95, 3) := by decide +kernel
theorem dX5_level_9 : decode cX5_level 9 = .ok (.ifCond .ne 10, 3) := by decide +kernel
theorem dX5_level_12 : decode cX5_level 12 = .ok (.aload_n 0, 1) := by decide +kernel
theorem dX5_level_13 : decode cX5_level 13 = .ok (.bipush (-2), 2) := by decide +kernel
theorem dX5_level_15 : decode cX5_level 15 = .ok (.invokevirtual 103, 3) := by decide +kernel
theorem dX5_level_18 : decode cX5_level 18 = .ok (.ireturn, 1) := by decide +kernel
theorem dX5_level_19 : decode cX5_level 19 = .ok (.aload_n 0, 1) := by decide +kernel
theorem dX5_level_20 : decode cX5_level 20 = .ok (.invokevirtual 276, 3) := by decide +kernel
theorem dX5_level_23 : decode cX5_level 23 = .ok (.aload_n 0, 1) := by decide +kernel
theorem dX5_level_24 : decode cX5_level 24 = .ok (.iconst 1, 1) := by decide +kernel
theorem dX5_level_25 : decode cX5_level 25 = .ok (.invokevirtual 296, 3) := by decide +kernel
theorem dX5_level_28 : decode cX5_level 28 = .ok (.aload_n 0, 1) := by decide +kernel
theorem dX5_level_29 : decode cX5_level 29 = .ok (.iload_n 1, 1) := by decide +kernel
theorem dX5_level_30 : decode cX5_level 30 = .ok (.invokevirtual 300, 3) := by decide +kernel
theorem dX5_level_33 : decode cX5_level 33 = .ok (.l2i, 1) := by decide +kernel
theorem dX5_level_34 : decode cX5_level 34 = .ok (.ireturn, 1) := by decide +kernel
theorem dX5_last_0 : decode cX5_last 0 = .ok (.iload_n 1, 1) := by decide +kernel
theorem dX5_last_1 : decode cX5_last 1 = .ok (.i2l, 1) := by decide +kernel
theorem dX5_last_2 : decode cX5_last 2 = .ok (.lconst 0, 1) := by decide +kernel
theorem dX5_last_3 : decode cX5_last 3 = .ok (.ldc2_w 149, 3) := by decide +kernel
theorem dX5_last_6 : decode cX5_last 6 = .ok (.invokestatic 95, 3) := by decide +kernel
theorem dX5_last_9 : decode cX5_last 9 = .ok (.ifCond .ne 10, 3) := by decide +kernel
theorem dX5_last_12 : decode cX5_last 12 = .ok (.aload_n 0, 1) := by decide +kernel
theorem dX5_last_13 : decode cX5_last 13 = .ok (.bipush (-2), 2) := by decide +kernel
theorem dX5_last_15 : decode cX5_last 15 = .ok (.invokevirtual 103, 3) := by decide +kernel
theorem dX5_last_18 : decode cX5_last 18 = .ok (.ireturn, 1) := by decide +kernel
theorem dX5_last_19 : decode cX5_last 19 = .ok (.aload_n 0, 1) := by decide +kernel
theorem dX5_last_20 : decode cX5_last 20 = .ok (.invokevirtual 276, 3) := by decide +kernel
theorem dX5_last_23 : decode cX5_last 23 = .ok (.aload_n 0, 1) := by decide +kernel
theorem dX5_last_24 : decode cX5_last 24 = .ok (.iconst 4, 1) := by decide +kernel
theorem dX5_last_25 : decode cX5_last 25 = .ok (.iload_n 1, 1) := by decide +kernel
theorem dX5_last_26 : decode cX5_last 26 = .ok (.invokevirtual 273, 3) := by decide +kernel
theorem dX5_last_29 : decode cX5_last 29 = .ok (.lstore_n 2, 1) := by decide +kernel
theorem dX5_last_30 : decode cX5_last 30 = .ok (.iload_n 1, 1) := by decide +kernel
theorem dX5_last_31 : decode cX5_last 31 = .ok (.ifCond .ne 7, 3) := by decide +kernel
theorem dX5_last_34 : decode cX5_last 34 = .ok (.lconst 0, 1) := by decide +kernel
theorem dX5_last_35 : decode cX5_last 35 = .ok (.goto 11, 3) := by decide +kernel
theorem dX5_last_38 : decode cX5_last 38 = .ok (.aload_n 0, 1) := by decide +kernel
theorem dX5_last_39 : decode cX5_last 39 = .ok (.iconst 4, 1) := by decide +kernel
theorem dX5_last_40 : decode cX5_last 40 = .ok (.iload_n 1, 1) := by decide +kernel
theorem dX5_last_41 : decode cX5_last 41 = .ok (.iconst 1, 1) := by decide +kernel
theorem dX5_last_42 : decode cX5_last 42 = .ok (.isub, 1) := by decide +kernel
theorem dX5_last_43 : decode cX5_last 43 = .ok (.invokevirtual 273, 3) := by decide +kernel
theorem dX5_last_46 : decode cX5_last 46 = .ok (.lstore 4, 2) := by decide +kernel
theorem dX5_last_48 : decode cX5_last 48 = .ok (.iload_n 1, 1) := by decide +kernel
theorem dX5_last_49 : decode cX5_last 49 = .ok (.aload_n 0, 1) := by decide +kernel
theorem dX5_last_50 : decode cX5_last 50 = .ok (.getfield 254, 3) := by decide +kernel
theorem dX5_last_53 : decode cX5_last 53 = .ok (.if_icmp .le 7, 3) := by decide +kernel
theorem dX5_last_56 : decode cX5_last 56 = .ok (.iconst 0, 1) := by decide +kernel
theorem dX5_last_57 : decode cX5_last 57 = .ok (.goto 8, 3) := by decide +kernel
theorem dX5_last_60 : decode cX5_last 60 = .ok (.lload_n 2, 1) := by decide +kernel
theorem dX5_last_61 : decode cX5_last 61 = .ok (.lload 4, 2) := by decide +kernel
theorem dX5_last_63 : decode cX5_last 63 = .ok (.lsub, 1) := by decide +kernel
theorem dX5_last_64 : decode cX5_last 64 = .ok (.l2i, 1) := by decide +kernel
theorem dX5_last_65 : decode cX5_last 65 = .ok (.ireturn, 1) := by decide +kernel
theorem dX5_greatest_0 : decode cX5_greatest 0 = .ok (.iload_n 1, 1) := by decide +kernel
theorem dX5_greatest_1 : decode cX5_greatest 1 = .ok (.i2l, 1) := by decide +kernel
theorem dX5_greatest_2 : decode cX5_greatest 2 = .ok (.lconst 0, 1) := by decide +kernel
theorem dX5_greatest_3 : decode cX5_greatest 3 = .ok (.ldc2_w 149, 3) := by decide +kernel
theorem dX5_greatest_6 : decode cX5_greatest 6 = .ok (.invokestatic 95, 3) := by decide +kernel
theorem dX5_greatest_9 : decode cX5_greatest 9 = .ok (.ifCond .ne 10, 3) := by decide +kernel
theorem dX5_greatest_12 : decode cX5_greatest 12 = .ok (.aload_n 0, 1) := by decide +kernel
theorem dX5_greatest_13 : decode cX5_greatest 13 = .ok (.bipush (-2), 2) := by decide +kernel
theorem dX5_greatest_15 : decode cX5_greatest 15 = .ok (.invokevirtual 103, 3) := by decide +kernel
theorem dX5_greatest_18 : decode cX5_greatest 18 = .ok (.ireturn, 1) := by decide +kernel
theorem dX5_greatest_19 : decode cX5_greatest 19 = .ok (.aload_n 0, 1) := by decide +kernel
theorem dX5_greatest_20 : decode cX5_greatest 20 = .ok (.iconst 3, 1) := by decide +kernel
theorem dX5_greatest_21 : decode cX5_greatest 21 = .ok (.iload_n 1, 1) := by decide +kernel
theorem dX5_greatest_22 : decode cX5_greatest 22 = .ok (.invokevirtual 293, 3) := by decide +kernel
theorem dX5_greatest_25 : decode cX5_greatest 25 = .ok (.lstore_n 2, 1) := by decide +kernel
theorem dX5_greatest_26 : decode cX5_greatest 26 = .ok (.iload_n 1, 1) := by decide +kernel
theorem dX5_greatest_27 : decode cX5_greatest 27 = .ok (.ifCond .ne 7, 3) := by decide +kernel
theorem dX5_greatest_30 : decode cX5_greatest 30 = .ok (.lload_n 2, 1) := by decide +kernel
theorem dX5_greatest_31 : decode cX5_greatest 31 = .ok (.goto 13, 3) := by decide +kernel
theorem dX5_greatest_34 : decode cX5_greatest 34 = .ok (.lload_n 2, 1) := by decide +kernel
theorem dX5_greatest_35 : decode cX5_greatest 35 = .ok (.aload_n 0, 1) := by decide +kernel
theorem dX5_greatest_36 : decode cX5_greatest 36 = .ok (.iconst 3, 1) := by decide +kernel
theorem dX5_greatest_37 : decode cX5_greatest 37 = .ok (.iload_n 1, 1) := by decide +kernel
theorem dX5_greatest_38 : decode cX5_greatest 38 = .ok (.iconst 1, 1) := by decide +kernel
theorem dX5_greatest_39 : decode cX5_greatest 39 = .ok (.isub, 1) := by decide +kernel
theorem dX5_greatest_40 : decode cX5_greatest 40 = .ok (.invokevirtual 273, 3) := by decide +kernel
theorem dX5_greatest_43 : decode cX5_greatest 43 = .ok (.lsub, 1) := by decide +kernel
theorem dX5_greatest_44 : decode cX5_greatest 44 = .ok (.l2i, 1) := by decide +kernel
theorem dX5_greatest_45 : decode cX5_greatest 45 = .ok (.ireturn, 1) := by decide +kernel
theorem dX5_findSure_0 : decode cX5_findSure 0 = .ok (.iconst 2, 1) := by decide +kernel
theorem dX5_findSure_1 : decode cX5_findSure 1 = .ok (.aload_n 0, 1) := by decide +kernel
theorem dX5_findSure_2 : decode cX5_findSure 2 = .ok (.invokevirtual 133, 3) := by decide +kernel
theorem dX5_findSure_5 : decode cX5_findSure 5 = .ok (.imul, 1) := by decide +kernel
theorem dX5_findSure_6 : decode cX5_findSure 6 = .ok (.aload_n 0, 1) := by decide +kernel
theorem dX5_findSure_7 : decode cX5_findSure 7 = .ok (.getfield 254, 3) := by decide +kernel
theorem dX5_findSure_10 : decode cX5_findSure 10 = .ok (.if_icmp .ne 7, 3) := by decide +kernel
theorem dX5_findSure_13 : decode cX5_findSure 13 = .ok (.iconst 1, 1) := by decide +kernel
theorem dX5_findSure_14 : decode cX5_findSure 14 = .ok (.goto 4, 3) := by decide +kernel
theorem dX5_findSure_17 : decode cX5_findSure 17 = .ok (.iconst 0, 1) := by decide +kernel
theorem dX5_findSure_18 : decode cX5_findSure 18 = .ok (.istore_n 1, 1) := by decide +kernel
theorem dX5_findSure_19 : decode cX5_findSure 19 = .ok (.aload_n 0, 1) := by decide +kernel
theorem dX5_findSure_20 : decode cX5_findSure 20 = .ok (.invokevirtual 304, 3) := by decide +kernel
theorem dX5_findSure_23 : decode cX5_findSure 23 = .ok (.iconst 0, 1) := by decide +kernel
theorem dX5_findSure_24 : decode cX5_findSure 24 = .ok (.istore_n 2, 1) := by decide +kernel
theorem dX5_findSure_25 : decode cX5_findSure 25 = .ok (.iload_n 2, 1) := by decide +kernel
theorem dX5_findSure_26 : decode cX5_findSure 26 = .ok (.aload_n 0, 1) := by decide +kernel
theorem dX5_findSure_27 : decode cX5_findSure 27 = .ok (.getfield 254, 3) := by decide +kernel
theorem dX5_findSure_30 : decode cX5_findSure 30 = .ok (.if_icmp .gt 160, 3) := by decide +kernel
theorem dX5_findSure_33 : decode cX5_findSure 33 = .ok (.aload_n 0, 1) := by decide +kernel
theorem dX5_findSure_34 : decode cX5_findSure 34 = .ok (.getfield 81, 3) := by decide +kernel
theorem dX5_findSure_37 : decode cX5_findSure 37 = .ok (.iload_n 2, 1) := by decide +kernel
theorem dX5_findSure_38 : decode cX5_findSure 38 = .ok (.lconst 0, 1) := by decide +kernel
theorem dX5_findSure_39 : decode cX5_findSure 39 = .ok (.lastore, 1) := by decide +kernel
theorem dX5_findSure_40 : decode cX5_findSure 40 = .ok (.iconst 0, 1) := by decide +kernel
theorem dX5_findSure_41 : decode cX5_findSure 41 = .ok (.istore_n 3, 1) := by decide +kernel
theorem dX5_findSure_42 : decode cX5_findSure 42 = .ok (.iload_n 3, 1) := by decide +kernel
theorem dX5_findSure_43 : decode cX5_findSure 43 = .ok (.iload_n 2, 1) := by decide +kernel
theorem dX5_findSure_44 : decode cX5_findSure 44 = .ok (.if_icmp .gt 140, 3) := by decide +kernel
theorem dX5_findSure_47 : decode cX5_findSure 47 = .ok (.iload_n 2, 1) := by decide +kernel
theorem dX5_findSure_48 : decode cX5_findSure 48 = .ok (.ifCond .ne 7, 3) := by decide +kernel
theorem dX5_findSure_51 : decode cX5_findSure 51 = .ok (.lconst 1, 1) := by decide +kernel
theorem dX5_findSure_52 : decode cX5_findSure 52 = .ok (.goto 43, 3) := by decide +kernel
theorem dX5_findSure_55 : decode cX5_findSure 55 = .ok (.iload_n 3, 1) := by decide +kernel
theorem dX5_findSure_56 : decode cX5_findSure 56 = .ok (.ifCond .le 18, 3) := by decide +kernel
theorem dX5_findSure_59 : decode cX5_findSure 59 = .ok (.aload_n 0, 1) := by decide +kernel
theorem dX5_findSure_60 : decode cX5_findSure 60 = .ok (.getfield 69, 3) := by decide +kernel
theorem dX5_findSure_63 : decode cX5_findSure 63 = .ok (.iload_n 2, 1) := by decide +kernel
theorem dX5_findSure_64 : decode cX5_findSure 64 = .ok (.iconst 1, 1) := by decide +kernel
theorem dX5_findSure_65 : decode cX5_findSure 65 = .ok (.isub, 1) := by decide +kernel
theorem dX5_findSure_66 : decode cX5_findSure 66 = .ok (.aaload, 1) := by decide +kernel
theorem dX5_findSure_67 : decode cX5_findSure 67 = .ok (.iload_n 3, 1) := by decide +kernel
theorem dX5_findSure_68 : decode cX5_findSure 68 = .ok (.iconst 1, 1) := by decide +kernel
theorem dX5_findSure_69 : decode cX5_findSure 69 = .ok (.isub, 1) := by decide +kernel
theorem dX5_findSure_70 : decode cX5_findSure 70 = .ok (.laload, 1) := by decide +kernel
theorem dX5_findSure_71 : decode cX5_findSure 71 = .ok (.goto 4, 3) := by decide +kernel
theorem dX5_findSure_74 : decode cX5_findSure 74 = .ok (.lconst 0, 1) := by decide +kernel
theorem dX5_findSure_75 : decode cX5_findSure 75 = .ok (.iload_n 3, 1) := by decide +kernel
theorem dX5_findSure_76 : decode cX5_findSure 76 = .ok (.iload_n 2, 1) := by decide +kernel
theorem dX5_findSure_77 : decode cX5_findSure 77 = .ok (.if_icmp .ge 16, 3) := by decide +kernel
theorem dX5_findSure_80 : decode cX5_findSure 80 = .ok (.aload_n 0, 1) := by decide +kernel
theorem dX5_findSure_81 : decode cX5_findSure 81 = .ok (.getfield 69, 3) := by decide +kernel
theorem dX5_findSure_84 : decode cX5_findSure 84 = .ok (.iload_n 2, 1) := by decide +kernel
theorem dX5_findSure_85 : decode cX5_findSure 85 = .ok (.iconst 1, 1) := by decide +kernel
theorem dX5_findSure_86 : decode cX5_findSure 86 = .ok (.isub, 1) := by decide +kernel
theorem dX5_findSure_87 : decode cX5_findSure 87 = .ok (.aaload, 1) := by decide +kernel
theorem dX5_findSure_88 : decode cX5_findSure 88 = .ok (.iload_n 3, 1) := by decide +kernel
theorem dX5_findSure_89 : decode cX5_findSure 89 = .ok (.laload, 1) := by decide +kernel
theorem dX5_findSure_90 : decode cX5_findSure 90 = .ok (.goto 4, 3) := by decide +kernel
theorem dX5_findSure_93 : decode cX5_findSure 93 = .ok (.lconst 0, 1) := by decide +kernel
theorem dX5_findSure_94 : decode cX5_findSure 94 = .ok (.ladd, 1) := by decide +kernel
theorem dX5_findSure_95 : decode cX5_findSure 95 = .ok (.lstore 4, 2) := by decide +kernel
theorem dX5_findSure_97 : decode cX5_findSure 97 = .ok (.aload_n 0, 1) := by decide +kernel
theorem dX5_findSure_98 : decode cX5_findSure 98 = .ok (.getfield 69, 3) := by decide +kernel
theorem dX5_findSure_101 : decode cX5_findSure 101 = .ok (.iload_n 2, 1) := by decide +kernel
theorem dX5_findSure_102 : decode cX5_findSure 102 = .ok (.aaload, 1) := by decide +kernel
theorem dX5_findSure_103 : decode cX5_findSure 103 = .ok (.iload_n 3, 1) := by decide +kernel
theorem dX5_findSure_104 : decode cX5_findSure 104 = .ok (.aload_n 0, 1) := by decide +kernel
theorem dX5_findSure_105 : decode cX5_findSure 105 = .ok (.getfield 66, 3) := by decide +kernel
theorem dX5_findSure_108 : decode cX5_findSure 108 = .ok (.iload_n 2, 1) := by decide +kernel
theorem dX5_findSure_109 : decode cX5_findSure 109 = .ok (.aaload, 1) := by decide +kernel
theorem dX5_findSure_110 : decode cX5_findSure 110 = .ok (.iload_n 3, 1) := by decide +kernel
theorem dX5_findSure_111 : decode cX5_findSure 111 = .ok (.baload, 1) := by decide +kernel
theorem dX5_findSure_112 : decode cX5_findSure 112 = .ok (.ifCond .eq 8, 3) := by decide +kernel
theorem dX5_findSure_115 : decode cX5_findSure 115 = .ok (.lload 4, 2) := by decide +kernel
theorem dX5_findSure_117 : decode cX5_findSure 117 = .ok (.goto 4, 3) := by decide +kernel
theorem dX5_findSure_120 : decode cX5_findSure 120 = .ok (.lconst 0, 1) := by decide +kernel
theorem dX5_findSure_121 : decode cX5_findSure 121 = .ok (.lastore, 1) := by decide +kernel
theorem dX5_findSure_122 : decode cX5_findSure 122 = .ok (.aload_n 0, 1) := by decide +kernel
theorem dX5_findSure_123 : decode cX5_findSure 123 = .ok (.iload_n 2, 1) := by decide +kernel
theorem dX5_findSure_124 : decode cX5_findSure 124 = .ok (.iload_n 3, 1) := by decide +kernel
theorem dX5_findSure_125 : decode cX5_findSure 125 = .ok (.invokevirtual 307, 3) := by decide +kernel
theorem dX5_findSure_128 : decode cX5_findSure 128 = .ok (.ifCond .ne 15, 3) := by decide +kernel
theorem dX5_findSure_131 : decode cX5_findSure 131 = .ok (.iload_n 1, 1) := by decide +kernel
theorem dX5_findSure_132 : decode cX5_findSure 132 = .ok (.ifCond .eq 46, 3) := by decide +kernel
theorem dX5_findSure_135 : decode cX5_findSure 135 = .ok (.iload_n 2, 1) := by decide +kernel
theorem dX5_findSure_136 : decode cX5_findSure 136 = .ok (.aload_n 0, 1) := by decide +kernel
theorem dX5_findSure_137 : decode cX5_findSure 137 = .ok (.getfield 254, 3) := by decide +kernel
theorem dX5_findSure_140 : decode cX5_findSure 140 = .ok (.if_icmp .ne 38, 3) := by decide +kernel
theorem dX5_findSure_143 : decode cX5_findSure 143 = .ok (.aload_n 0, 1) := by decide +kernel
theorem dX5_findSure_144 : decode cX5_findSure 144 = .ok (.getfield 81, 3) := by decide +kernel
theorem dX5_findSure_147 : decode cX5_findSure 147 = .ok (.iload_n 2, 1) := by decide +kernel
theorem dX5_findSure_148 : decode cX5_findSure 148 = .ok (.dup2, 1) := by decide +kernel
theorem dX5_findSure_149 : decode cX5_findSure 149 = .ok (.laload, 1) := by decide +kernel
theorem dX5_findSure_150 : decode cX5_findSure 150 = .ok (.aload_n 0, 1) := by decide +kernel
theorem dX5_findSure_151 : decode cX5_findSure 151 = .ok (.getfield 69, 3) := by decide +kernel
theorem dX5_findSure_154 : decode cX5_findSure 154 = .ok (.iload_n 2, 1) := by decide +kernel
theorem dX5_findSure_155 : decode cX5_findSure 155 = .ok (.aaload, 1) := by decide +kernel
theorem dX5_findSure_156 : decode cX5_findSure 156 = .ok (.iload_n 3, 1) := by decide +kernel
theorem dX5_findSure_157 : decode cX5_findSure 157 = .ok (.laload, 1) := by decide +kernel
theorem dX5_findSure_158 : decode cX5_findSure 158 = .ok (.aload_n 0, 1) := by decide +kernel
theorem dX5_findSure_159 : decode cX5_findSure 159 = .ok (.getfield 72, 3) := by decide +kernel
theorem dX5_findSure_162 : decode cX5_findSure 162 = .ok (.iload_n 2, 1) := by decide +kernel
theorem dX5_findSure_163 : decode cX5_findSure 163 = .ok (.aaload, 1) := by decide +kernel
theorem dX5_findSure_164 : decode cX5_findSure 164 = .ok (.iload_n 3, 1) := by decide +kernel
theorem dX5_findSure_165 : decode cX5_findSure 165 = .ok (.laload, 1) := by decide +kernel
theorem dX5_findSure_166 : decode cX5_findSure 166 = .ok (.lmul, 1) := by decide +kernel
theorem dX5_findSure_167 : decode cX5_findSure 167 = .ok (.ladd, 1) := by decide +kernel
theorem dX5_findSure_168 : decode cX5_findSure 168 = .ok (.lastore, 1) := by decide +kernel
theorem dX5_findSure_169 : decode cX5_findSure 169 = .ok (.aload_n 0, 1) := by decide +kernel
theorem dX5_findSure_170 : decode cX5_findSure 170 = .ok (.getfield 69, 3) := by decide +kernel
theorem dX5_findSure_173 : decode cX5_findSure 173 = .ok (.iload_n 2, 1) := by decide +kernel
theorem dX5_findSure_174 : decode cX5_findSure 174 = .ok (.aaload, 1) := by decide +kernel
theorem dX5_findSure_175 : decode cX5_findSure 175 = .ok (.iload_n 3, 1) := by decide +kernel
theorem dX5_findSure_176 : decode cX5_findSure 176 = .ok (.lconst 0, 1) := by decide +kernel
theorem dX5_findSure_177 : decode cX5_findSure 177 = .ok (.lastore, 1) := by decide +kernel
theorem dX5_findSure_178 : decode cX5_findSure 178 = .ok (.iinc 3 1, 3) := by decide +kernel
theorem dX5_findSure_181 : decode cX5_findSure 181 = .ok (.goto (-139), 3) := by decide +kernel
theorem dX5_findSure_184 : decode cX5_findSure 184 = .ok (.iinc 2 1, 3) := by decide +kernel
theorem dX5_findSure_187 : decode cX5_findSure 187 = .ok (.goto (-162), 3) := by decide +kernel
theorem dX5_findSure_190 : decode cX5_findSure 190 = .ok (.return_, 1) := by decide +kernel
theorem dX5_sure_0 : decode cX5_sure 0 = .ok (.iload_n 1, 1) := by decide +kernel
theorem dX5_sure_1 : decode cX5_sure 1 = .ok (.i2l, 1) := by decide +kernel
theorem dX5_sure_2 : decode cX5_sure 2 = .ok (.lconst 0, 1) := by decide +kernel
theorem dX5_sure_3 : decode cX5_sure 3 = .ok (.ldc2_w 149, 3) := by decide +kernel
theorem dX5_sure_6 : decode cX5_sure 6 = .ok (.invokestatic 95, 3) := by decide +kernel
theorem dX5_sure_9 : decode cX5_sure 9 = .ok (.ifCond .ne 10, 3) := by decide +kernel
theorem dX5_sure_12 : decode cX5_sure 12 = .ok (.aload_n 0, 1) := by decide +kernel
theorem dX5_sure_13 : decode cX5_sure 13 = .ok (.bipush (-2), 2) := by decide +kernel
theorem dX5_sure_15 : decode cX5_sure 15 = .ok (.invokevirtual 103, 3) := by decide +kernel
theorem dX5_sure_18 : decode cX5_sure 18 = .ok (.ireturn, 1) := by decide +kernel
theorem dX5_sure_19 : decode cX5_sure 19 = .ok (.aload_n 0, 1) := by decide +kernel
theorem dX5_sure_20 : decode cX5_sure 20 = .ok (.invokevirtual 276, 3) := by decide +kernel
theorem dX5_sure_23 : decode cX5_sure 23 = .ok (.aload_n 0, 1) := by decide +kernel
theorem dX5_sure_24 : decode cX5_sure 24 = .ok (.invokevirtual 310, 3) := by decide +kernel
theorem dX5_sure_27 : decode cX5_sure 27 = .ok (.iload_n 1, 1) := by decide +kernel
theorem dX5_sure_28 : decode cX5_sure 28 = .ok (.aload_n 0, 1) := by decide +kernel
theorem dX5_sure_29 : decode cX5_sure 29 = .ok (.getfield 254, 3) := by decide +kernel
theorem dX5_sure_32 : decode cX5_sure 32 = .ok (.if_icmp .le 7, 3) := by decide +kernel
theorem dX5_sure_35 : decode cX5_sure 35 = .ok (.iconst 0, 1) := by decide +kernel
theorem dX5_sure_36 : decode cX5_sure 36 = .ok (.goto 10, 3) := by decide +kernel
theorem dX5_sure_39 : decode cX5_sure 39 = .ok (.aload_n 0, 1) := by decide +kernel
theorem dX5_sure_40 : decode cX5_sure 40 = .ok (.getfield 81, 3) := by decide +kernel
theorem dX5_sure_43 : decode cX5_sure 43 = .ok (.iload_n 1, 1) := by decide +kernel
theorem dX5_sure_44 : decode cX5_sure 44 = .ok (.laload, 1) := by decide +kernel
theorem dX5_sure_45 : decode cX5_sure 45 = .ok (.l2i, 1) := by decide +kernel
theorem dX5_sure_46 : decode cX5_sure 46 = .ok (.ireturn, 1) := by decide +kernel
theorem dX5_soFar_0 : decode cX5_soFar 0 = .ok (.iload_n 1, 1) := by decide +kernel
theorem dX5_soFar_1 : decode cX5_soFar 1 = .ok (.i2l, 1) := by decide +kernel
theorem dX5_soFar_2 : decode cX5_soFar 2 = .ok (.lconst 0, 1) := by decide +kernel
theorem dX5_soFar_3 : decode cX5_soFar 3 = .ok (.ldc2_w 149, 3) := by decide +kernel
theorem dX5_soFar_6 : decode cX5_soFar 6 = .ok (.invokestatic 95, 3) := by decide +kernel
theorem dX5_soFar_9 : decode cX5_soFar 9 = .ok (.ifCond .eq 15, 3) := by decide +kernel
theorem dX5_soFar_12 : decode cX5_soFar 12 = .ok (.iload_n 2, 1) := by decide +kernel
theorem dX5_soFar_13 : decode cX5_soFar 13 = .ok (.i2l, 1) := by decide +kernel
theorem dX5_soFar_14 : decode cX5_soFar 14 = .ok (.lconst 0, 1) := by decide +kernel
theorem dX5_soFar_15 : decode cX5_soFar 15 = .ok (.ldc2_w 149, 3) := by decide +kernel
theorem dX5_soFar_18 : decode cX5_soFar 18 = .ok (.invokestatic 95, 3) := by decide +kernel
theorem dX5_soFar_21 : decode cX5_soFar 21 = .ok (.ifCond .ne 10, 3) := by decide +kernel
theorem dX5_soFar_24 : decode cX5_soFar 24 = .ok (.aload_n 0, 1) := by decide +kernel
theorem dX5_soFar_25 : decode cX5_soFar 25 = .ok (.bipush (-2), 2) := by decide +kernel
theorem dX5_soFar_27 : decode cX5_soFar 27 = .ok (.invokevirtual 103, 3) := by decide +kernel
theorem dX5_soFar_30 : decode cX5_soFar 30 = .ok (.ireturn, 1) := by decide +kernel
theorem dX5_soFar_31 : decode cX5_soFar 31 = .ok (.aload_n 0, 1) := by decide +kernel
theorem dX5_soFar_32 : decode cX5_soFar 32 = .ok (.invokevirtual 276, 3) := by decide +kernel
theorem dX5_soFar_35 : decode cX5_soFar 35 = .ok (.aload_n 0, 1) := by decide +kernel
theorem dX5_soFar_36 : decode cX5_soFar 36 = .ok (.iconst 0, 1) := by decide +kernel
theorem dX5_soFar_37 : decode cX5_soFar 37 = .ok (.iconst 0, 1) := by decide +kernel
theorem dX5_soFar_38 : decode cX5_soFar 38 = .ok (.invokevirtual 273, 3) := by decide +kernel
theorem dX5_soFar_41 : decode cX5_soFar 41 = .ok (.pop2, 1) := by decide +kernel
theorem dX5_soFar_42 : decode cX5_soFar 42 = .ok (.aload_n 0, 1) := by decide +kernel
theorem dX5_soFar_43 : decode cX5_soFar 43 = .ok (.invokevirtual 304, 3) := by decide +kernel
theorem dX5_soFar_46 : decode cX5_soFar 46 = .ok (.iload_n 1, 1) := by decide +kernel
theorem dX5_soFar_47 : decode cX5_soFar 47 = .ok (.aload_n 0, 1) := by decide +kernel
theorem dX5_soFar_48 : decode cX5_soFar 48 = .ok (.getfield 254, 3) := by decide +kernel
theorem dX5_soFar_51 : decode cX5_soFar 51 = .ok (.if_icmp .gt 8, 3) := by decide +kernel
theorem dX5_soFar_54 : decode cX5_soFar 54 = .ok (.iload_n 2, 1) := by decide +kernel
theorem dX5_soFar_55 : decode cX5_soFar 55 = .ok (.iload_n 1, 1) := by decide +kernel
theorem dX5_soFar_56 : decode cX5_soFar 56 = .ok (.if_icmp .le 7, 3) := by decide +kernel
theorem dX5_soFar_59 : decode cX5_soFar 59 = .ok (.iconst 0, 1) := by decide +kernel
theorem dX5_soFar_60 : decode cX5_soFar 60 = .ok (.goto 10, 3) := by decide +kernel
theorem dX5_soFar_63 : decode cX5_soFar 63 = .ok (.aload_n 0, 1) := by decide +kernel
theorem dX5_soFar_64 : decode cX5_soFar 64 = .ok (.iload_n 1, 1) := by decide +kernel
theorem dX5_soFar_65 : decode cX5_soFar 65 = .ok (.iload_n 2, 1) := by decide +kernel
theorem dX5_soFar_66 : decode cX5_soFar 66 = .ok (.invokevirtual 313, 3) := by decide +kernel
theorem dX5_soFar_69 : decode cX5_soFar 69 = .ok (.l2i, 1) := by decide +kernel
theorem dX5_soFar_70 : decode cX5_soFar 70 = .ok (.ireturn, 1) := by decide +kernel
theorem dX5_spentNow_0 : decode cX5_spentNow 0 = .ok (.aload_n 0, 1) := by decide +kernel
theorem dX5_spentNow_1 : decode cX5_spentNow 1 = .ok (.iconst 0, 1) := by decide +kernel
theorem dX5_spentNow_2 : decode cX5_spentNow 2 = .ok (.iconst 0, 1) := by decide +kernel
theorem dX5_spentNow_3 : decode cX5_spentNow 3 = .ok (.invokevirtual 273, 3) := by decide +kernel
theorem dX5_spentNow_6 : decode cX5_spentNow 6 = .ok (.pop2, 1) := by decide +kernel
theorem dX5_spentNow_7 : decode cX5_spentNow 7 = .ok (.aload_n 0, 1) := by decide +kernel
theorem dX5_spentNow_8 : decode cX5_spentNow 8 = .ok (.invokevirtual 304, 3) := by decide +kernel
theorem dX5_spentNow_11 : decode cX5_spentNow 11 = .ok (.lconst 0, 1) := by decide +kernel
theorem dX5_spentNow_12 : decode cX5_spentNow 12 = .ok (.lstore_n 1, 1) := by decide +kernel
theorem dX5_spentNow_13 : decode cX5_spentNow 13 = .ok (.iconst 1, 1) := by decide +kernel
theorem dX5_spentNow_14 : decode cX5_spentNow 14 = .ok (.istore_n 3, 1) := by decide +kernel
theorem dX5_spentNow_15 : decode cX5_spentNow 15 = .ok (.iload_n 3, 1) := by decide +kernel
theorem dX5_spentNow_16 : decode cX5_spentNow 16 = .ok (.aload_n 0, 1) := by decide +kernel
theorem dX5_spentNow_17 : decode cX5_spentNow 17 = .ok (.getfield 254, 3) := by decide +kernel
theorem dX5_spentNow_20 : decode cX5_spentNow 20 = .ok (.if_icmp .gt 46, 3) := by decide +kernel
theorem dX5_spentNow_23 : decode cX5_spentNow 23 = .ok (.iconst 0, 1) := by decide +kernel
theorem dX5_spentNow_24 : decode cX5_spentNow 24 = .ok (.istore 4, 2) := by decide +kernel
theorem dX5_spentNow_26 : decode cX5_spentNow 26 = .ok (.iload 4, 2) := by decide +kernel
theorem dX5_spentNow_28 : decode cX5_spentNow 28 = .ok (.iload_n 3, 1) := by decide +kernel
theorem dX5_spentNow_29 : decode cX5_spentNow 29 = .ok (.if_icmp .gt 31, 3) := by decide +kernel
theorem dX5_spentNow_32 : decode cX5_spentNow 32 = .ok (.lload_n 1, 1) := by decide +kernel
theorem dX5_spentNow_33 : decode cX5_spentNow 33 = .ok (.iconst 2, 1) := by decide +kernel
theorem dX5_spentNow_34 : decode cX5_spentNow 34 = .ok (.iload 4, 2) := by decide +kernel
theorem dX5_spentNow_36 : decode cX5_spentNow 36 = .ok (.imul, 1) := by decide +kernel
theorem dX5_spentNow_37 : decode cX5_spentNow 37 = .ok (.iload_n 3, 1) := by decide +kernel
theorem dX5_spentNow_38 : decode cX5_spentNow 38 = .ok (.if_icmp .le 13, 3) := by decide +kernel
theorem dX5_spentNow_41 : decode cX5_spentNow 41 = .ok (.aload_n 0, 1) := by decide +kernel
theorem dX5_spentNow_42 : decode cX5_spentNow 42 = .ok (.iload_n 3, 1) := by decide +kernel
theorem dX5_spentNow_43 : decode cX5_spentNow 43 = .ok (.iload 4, 2) := by decide +kernel
theorem dX5_spentNow_45 : decode cX5_spentNow 45 = .ok (.invokevirtual 313, 3) := by decide +kernel
theorem dX5_spentNow_48 : decode cX5_spentNow 48 = .ok (.goto 4, 3) := by decide +kernel
theorem dX5_spentNow_51 : decode cX5_spentNow 51 = .ok (.lconst 0, 1) := by decide +kernel
theorem dX5_spentNow_52 : decode cX5_spentNow 52 = .ok (.ladd, 1) := by decide +kernel
theorem dX5_spentNow_53 : decode cX5_spentNow 53 = .ok (.lstore_n 1, 1) := by decide +kernel
theorem dX5_spentNow_54 : decode cX5_spentNow 54 = .ok (.iinc 4 1, 3) := by decide +kernel
theorem dX5_spentNow_57 : decode cX5_spentNow 57 = .ok (.goto (-31), 3) := by decide +kernel
theorem dX5_spentNow_60 : decode cX5_spentNow 60 = .ok (.iinc 3 1, 3) := by decide +kernel
theorem dX5_spentNow_63 : decode cX5_spentNow 63 = .ok (.goto (-48), 3) := by decide +kernel
theorem dX5_spentNow_66 : decode cX5_spentNow 66 = .ok (.lload_n 1, 1) := by decide +kernel
theorem dX5_spentNow_67 : decode cX5_spentNow 67 = .ok (.lreturn, 1) := by decide +kernel
theorem dX5_spent_0 : decode cX5_spent 0 = .ok (.aload_n 0, 1) := by decide +kernel
theorem dX5_spent_1 : decode cX5_spent 1 = .ok (.invokevirtual 276, 3) := by decide +kernel
theorem dX5_spent_4 : decode cX5_spent 4 = .ok (.aload_n 0, 1) := by decide +kernel
theorem dX5_spent_5 : decode cX5_spent 5 = .ok (.invokevirtual 316, 3) := by decide +kernel
theorem dX5_spent_8 : decode cX5_spent 8 = .ok (.lreturn, 1) := by decide +kernel
theorem dX5_mean_0 : decode cX5_mean 0 = .ok (.aload_n 0, 1) := by decide +kernel
theorem dX5_mean_1 : decode cX5_mean 1 = .ok (.invokevirtual 276, 3) := by decide +kernel
theorem dX5_mean_4 : decode cX5_mean 4 = .ok (.aload_n 0, 1) := by decide +kernel
theorem dX5_mean_5 : decode cX5_mean 5 = .ok (.invokevirtual 310, 3) := by decide +kernel
theorem dX5_mean_8 : decode cX5_mean 8 = .ok (.lconst 0, 1) := by decide +kernel
theorem dX5_mean_9 : decode cX5_mean 9 = .ok (.lstore_n 1, 1) := by decide +kernel
theorem dX5_mean_10 : decode cX5_mean 10 = .ok (.iconst 0, 1) := by decide +kernel
theorem dX5_mean_11 : decode cX5_mean 11 = .ok (.istore_n 3, 1) := by decide +kernel
theorem dX5_mean_12 : decode cX5_mean 12 = .ok (.iload_n 3, 1) := by decide +kernel
theorem dX5_mean_13 : decode cX5_mean 13 = .ok (.aload_n 0, 1) := by decide +kernel
theorem dX5_mean_14 : decode cX5_mean 14 = .ok (.getfield 254, 3) := by decide +kernel
theorem dX5_mean_17 : decode cX5_mean 17 = .ok (.if_icmp .gt 21, 3) := by decide +kernel
theorem dX5_mean_20 : decode cX5_mean 20 = .ok (.lload_n 1, 1) := by decide +kernel
theorem dX5_mean_21 : decode cX5_mean 21 = .ok (.iload_n 3, 1) := by decide +kernel
theorem dX5_mean_22 : decode cX5_mean 22 = .ok (.i2l, 1) := by decide +kernel
theorem dX5_mean_23 : decode cX5_mean 23 = .ok (.aload_n 0, 1) := by decide +kernel
theorem dX5_mean_24 : decode cX5_mean 24 = .ok (.getfield 81, 3) := by decide +kernel
theorem dX5_mean_27 : decode cX5_mean 27 = .ok (.iload_n 3, 1) := by decide +kernel
theorem dX5_mean_28 : decode cX5_mean 28 = .ok (.laload, 1) := by decide +kernel
theorem dX5_mean_29 : decode cX5_mean 29 = .ok (.lmul, 1) := by decide +kernel
theorem dX5_mean_30 : decode cX5_mean 30 = .ok (.ladd, 1) := by decide +kernel
theorem dX5_mean_31 : decode cX5_mean 31 = .ok (.lstore_n 1, 1) := by decide +kernel
theorem dX5_mean_32 : decode cX5_mean 32 = .ok (.iinc 3 1, 3) := by decide +kernel
theorem dX5_mean_35 : decode cX5_mean 35 = .ok (.goto (-23), 3) := by decide +kernel
theorem dX5_mean_38 : decode cX5_mean 38 = .ok (.lload_n 1, 1) := by decide +kernel
theorem dX5_mean_39 : decode cX5_mean 39 = .ok (.lreturn, 1) := by decide +kernel
theorem dX5_price_0 : decode cX5_price 0 = .ok (.iload_n 1, 1) := by decide +kernel
theorem dX5_price_1 : decode cX5_price 1 = .ok (.i2l, 1) := by decide +kernel
theorem dX5_price_2 : decode cX5_price 2 = .ok (.lconst 0, 1) := by decide +kernel
theorem dX5_price_3 : decode cX5_price 3 = .ok (.ldc2_w 120, 3) := by decide +kernel
theorem dX5_price_6 : decode cX5_price 6 = .ok (.invokestatic 95, 3) := by decide +kernel
theorem dX5_price_9 : decode cX5_price 9 = .ok (.ifCond .ne 10, 3) := by decide +kernel
theorem dX5_price_12 : decode cX5_price 12 = .ok (.aload_n 0, 1) := by decide +kernel
theorem dX5_price_13 : decode cX5_price 13 = .ok (.bipush (-2), 2) := by decide +kernel
theorem dX5_price_15 : decode cX5_price 15 = .ok (.invokevirtual 103, 3) := by decide +kernel
theorem dX5_price_18 : decode cX5_price 18 = .ok (.ireturn, 1) := by decide +kernel
theorem dX5_price_19 : decode cX5_price 19 = .ok (.aload_n 0, 1) := by decide +kernel
theorem dX5_price_20 : decode cX5_price 20 = .ok (.invokevirtual 279, 3) := by decide +kernel
theorem dX5_price_23 : decode cX5_price 23 = .ok (.lstore_n 2, 1) := by decide +kernel
theorem dX5_price_24 : decode cX5_price 24 = .ok (.lload_n 2, 1) := by decide +kernel
theorem dX5_price_25 : decode cX5_price 25 = .ok (.lconst 0, 1) := by decide +kernel
theorem dX5_price_26 : decode cX5_price 26 = .ok (.lcmp, 1) := by decide +kernel
theorem dX5_price_27 : decode cX5_price 27 = .ok (.ifCond .ne 12, 3) := by decide +kernel
theorem dX5_price_30 : decode cX5_price 30 = .ok (.aload_n 0, 1) := by decide +kernel
theorem dX5_price_31 : decode cX5_price 31 = .ok (.bipush (-5), 2) := by decide +kernel
theorem dX5_price_33 : decode cX5_price 33 = .ok (.invokevirtual 103, 3) := by decide +kernel
theorem dX5_price_36 : decode cX5_price 36 = .ok (.goto 16, 3) := by decide +kernel
theorem dX5_price_39 : decode cX5_price 39 = .ok (.ldc2_w 319, 3) := by decide +kernel
theorem dX5_price_42 : decode cX5_price 42 = .ok (.aload_n 0, 1) := by decide +kernel
theorem dX5_price_43 : decode cX5_price 43 = .ok (.iconst 1, 1) := by decide +kernel
theorem dX5_price_44 : decode cX5_price 44 = .ok (.iload_n 1, 1) := by decide +kernel
theorem dX5_price_45 : decode cX5_price 45 = .ok (.invokevirtual 273, 3) := by decide +kernel
theorem dX5_price_48 : decode cX5_price 48 = .ok (.lmul, 1) := by decide +kernel
theorem dX5_price_49 : decode cX5_price 49 = .ok (.lload_n 2, 1) := by decide +kernel
theorem dX5_price_50 : decode cX5_price 50 = .ok (.ldiv, 1) := by decide +kernel
theorem dX5_price_51 : decode cX5_price 51 = .ok (.l2i, 1) := by decide +kernel
theorem dX5_price_52 : decode cX5_price 52 = .ok (.ireturn, 1) := by decide +kernel
theorem dX5_often_0 : decode cX5_often 0 = .ok (.aload_n 0, 1) := by decide +kernel
theorem dX5_often_1 : decode cX5_often 1 = .ok (.invokevirtual 276, 3) := by decide +kernel
theorem dX5_often_4 : decode cX5_often 4 = .ok (.aload_n 0, 1) := by decide +kernel
theorem dX5_often_5 : decode cX5_often 5 = .ok (.iconst 1, 1) := by decide +kernel
theorem dX5_often_6 : decode cX5_often 6 = .ok (.invokevirtual 296, 3) := by decide +kernel
theorem dX5_often_9 : decode cX5_often 9 = .ok (.iconst 0, 1) := by decide +kernel
theorem dX5_often_10 : decode cX5_often 10 = .ok (.istore_n 1, 1) := by decide +kernel
theorem dX5_often_11 : decode cX5_often 11 = .ok (.iconst 1, 1) := by decide +kernel
theorem dX5_often_12 : decode cX5_often 12 = .ok (.istore_n 2, 1) := by decide +kernel
theorem dX5_often_13 : decode cX5_often 13 = .ok (.iload_n 2, 1) := by decide +kernel
theorem dX5_often_14 : decode cX5_often 14 = .ok (.aload_n 0, 1) := by decide +kernel
theorem dX5_often_15 : decode cX5_often 15 = .ok (.getfield 254, 3) := by decide +kernel
theorem dX5_often_18 : decode cX5_often 18 = .ok (.if_icmp .gt 29, 3) := by decide +kernel
theorem dX5_often_21 : decode cX5_often 21 = .ok (.aload_n 0, 1) := by decide +kernel
theorem dX5_often_22 : decode cX5_often 22 = .ok (.iload_n 2, 1) := by decide +kernel
theorem dX5_often_23 : decode cX5_often 23 = .ok (.invokevirtual 300, 3) := by decide +kernel
theorem dX5_often_26 : decode cX5_often 26 = .ok (.aload_n 0, 1) := by decide +kernel
theorem dX5_often_27 : decode cX5_often 27 = .ok (.iload_n 1, 1) := by decide +kernel
theorem dX5_often_28 : decode cX5_often 28 = .ok (.invokevirtual 300, 3) := by decide +kernel
theorem dX5_often_31 : decode cX5_often 31 = .ok (.lcmp, 1) := by decide +kernel
theorem dX5_often_32 : decode cX5_often 32 = .ok (.ifCond .le 7, 3) := by decide +kernel
theorem dX5_often_35 : decode cX5_often 35 = .ok (.iload_n 2, 1) := by decide +kernel
theorem dX5_often_36 : decode cX5_often 36 = .ok (.goto 4, 3) := by decide +kernel
theorem dX5_often_39 : decode cX5_often 39 = .ok (.iload_n 1, 1) := by decide +kernel
theorem dX5_often_40 : decode cX5_often 40 = .ok (.istore_n 1, 1) := by decide +kernel
theorem dX5_often_41 : decode cX5_often 41 = .ok (.iinc 2 1, 3) := by decide +kernel
theorem dX5_often_44 : decode cX5_often 44 = .ok (.goto (-31), 3) := by decide +kernel
theorem dX5_often_47 : decode cX5_often 47 = .ok (.iload_n 1, 1) := by decide +kernel
theorem dX5_often_48 : decode cX5_often 48 = .ok (.ireturn, 1) := by decide +kernel
theorem dX5_half_0 : decode cX5_half 0 = .ok (.aload_n 0, 1) := by decide +kernel
theorem dX5_half_1 : decode cX5_half 1 = .ok (.invokevirtual 279, 3) := by decide +kernel
theorem dX5_half_4 : decode cX5_half 4 = .ok (.lstore_n 1, 1) := by decide +kernel
theorem dX5_half_5 : decode cX5_half 5 = .ok (.lload_n 1, 1) := by decide +kernel
theorem dX5_half_6 : decode cX5_half 6 = .ok (.lconst 0, 1) := by decide +kernel
theorem dX5_half_7 : decode cX5_half 7 = .ok (.lcmp, 1) := by decide +kernel
theorem dX5_half_8 : decode cX5_half 8 = .ok (.ifCond .ne 10, 3) := by decide +kernel
theorem dX5_half_11 : decode cX5_half 11 = .ok (.aload_n 0, 1) := by decide +kernel
theorem dX5_half_12 : decode cX5_half 12 = .ok (.bipush (-5), 2) := by decide +kernel
theorem dX5_half_14 : decode cX5_half 14 = .ok (.invokevirtual 103, 3) := by decide +kernel
theorem dX5_half_17 : decode cX5_half 17 = .ok (.ireturn, 1) := by decide +kernel
theorem dX5_half_18 : decode cX5_half 18 = .ok (.aload_n 0, 1) := by decide +kernel
theorem dX5_half_19 : decode cX5_half 19 = .ok (.invokevirtual 310, 3) := by decide +kernel
theorem dX5_half_22 : decode cX5_half 22 = .ok (.lconst 0, 1) := by decide +kernel
theorem dX5_half_23 : decode cX5_half 23 = .ok (.lstore_n 3, 1) := by decide +kernel
theorem dX5_half_24 : decode cX5_half 24 = .ok (.iconst 0, 1) := by decide +kernel
theorem dX5_half_25 : decode cX5_half 25 = .ok (.istore 5, 2) := by decide +kernel
theorem dX5_half_27 : decode cX5_half 27 = .ok (.lload_n 3, 1) := by decide +kernel
theorem dX5_half_28 : decode cX5_half 28 = .ok (.aload_n 0, 1) := by decide +kernel
theorem dX5_half_29 : decode cX5_half 29 = .ok (.getfield 81, 3) := by decide +kernel
theorem dX5_half_32 : decode cX5_half 32 = .ok (.iconst 0, 1) := by decide +kernel
theorem dX5_half_33 : decode cX5_half 33 = .ok (.laload, 1) := by decide +kernel
theorem dX5_half_34 : decode cX5_half 34 = .ok (.ladd, 1) := by decide +kernel
theorem dX5_half_35 : decode cX5_half 35 = .ok (.lstore_n 3, 1) := by decide +kernel
theorem dX5_half_36 : decode cX5_half 36 = .ok (.ldc2_w 252, 3) := by decide +kernel
theorem dX5_half_39 : decode cX5_half 39 = .ok (.lload_n 3, 1) := by decide +kernel
theorem dX5_half_40 : decode cX5_half 40 = .ok (.lmul, 1) := by decide +kernel
theorem dX5_half_41 : decode cX5_half 41 = .ok (.lload_n 1, 1) := by decide +kernel
theorem dX5_half_42 : decode cX5_half 42 = .ok (.lcmp, 1) := by decide +kernel
theorem dX5_half_43 : decode cX5_half 43 = .ok (.ifCond .ge 19, 3) := by decide +kernel
theorem dX5_half_46 : decode cX5_half 46 = .ok (.iinc 5 1, 3) := by decide +kernel
theorem dX5_half_49 : decode cX5_half 49 = .ok (.lload_n 3, 1) := by decide +kernel
theorem dX5_half_50 : decode cX5_half 50 = .ok (.aload_n 0, 1) := by decide +kernel
theorem dX5_half_51 : decode cX5_half 51 = .ok (.getfield 81, 3) := by decide +kernel
theorem dX5_half_54 : decode cX5_half 54 = .ok (.iload 5, 2) := by decide +kernel
theorem dX5_half_56 : decode cX5_half 56 = .ok (.laload, 1) := by decide +kernel
theorem dX5_half_57 : decode cX5_half 57 = .ok (.ladd, 1) := by decide +kernel
theorem dX5_half_58 : decode cX5_half 58 = .ok (.lstore_n 3, 1) := by decide +kernel
theorem dX5_half_59 : decode cX5_half 59 = .ok (.goto (-23), 3) := by decide +kernel
theorem dX5_half_62 : decode cX5_half 62 = .ok (.iload 5, 2) := by decide +kernel
theorem dX5_half_64 : decode cX5_half 64 = .ok (.ireturn, 1) := by decide +kernel
theorem dX5_isSure_0 : decode cX5_isSure 0 = .ok (.aload_n 0, 1) := by decide +kernel
theorem dX5_isSure_1 : decode cX5_isSure 1 = .ok (.aload_n 0, 1) := by decide +kernel
theorem dX5_isSure_2 : decode cX5_isSure 2 = .ok (.invokevirtual 140, 3) := by decide +kernel
theorem dX5_isSure_5 : decode cX5_isSure 5 = .ok (.putfield 254, 3) := by decide +kernel
theorem dX5_isSure_8 : decode cX5_isSure 8 = .ok (.iconst 2, 1) := by decide +kernel
theorem dX5_isSure_9 : decode cX5_isSure 9 = .ok (.aload_n 0, 1) := by decide +kernel
theorem dX5_isSure_10 : decode cX5_isSure 10 = .ok (.invokevirtual 133, 3) := by decide +kernel
theorem dX5_isSure_13 : decode cX5_isSure 13 = .ok (.imul, 1) := by decide +kernel
theorem dX5_isSure_14 : decode cX5_isSure 14 = .ok (.aload_n 0, 1) := by decide +kernel
theorem dX5_isSure_15 : decode cX5_isSure 15 = .ok (.getfield 254, 3) := by decide +kernel
theorem dX5_isSure_18 : decode cX5_isSure 18 = .ok (.if_icmp .ne 7, 3) := by decide +kernel
theorem dX5_isSure_21 : decode cX5_isSure 21 = .ok (.iconst 1, 1) := by decide +kernel
theorem dX5_isSure_22 : decode cX5_isSure 22 = .ok (.goto 4, 3) := by decide +kernel
theorem dX5_isSure_25 : decode cX5_isSure 25 = .ok (.iconst 0, 1) := by decide +kernel
theorem dX5_isSure_26 : decode cX5_isSure 26 = .ok (.istore_n 1, 1) := by decide +kernel
theorem dX5_isSure_27 : decode cX5_isSure 27 = .ok (.aload_n 0, 1) := by decide +kernel
theorem dX5_isSure_28 : decode cX5_isSure 28 = .ok (.aload_n 0, 1) := by decide +kernel
theorem dX5_isSure_29 : decode cX5_isSure 29 = .ok (.getfield 137, 3) := by decide +kernel
theorem dX5_isSure_32 : decode cX5_isSure 32 = .ok (.aload_n 0, 1) := by decide +kernel
theorem dX5_isSure_33 : decode cX5_isSure 33 = .ok (.aload_n 0, 1) := by decide +kernel
theorem dX5_isSure_34 : decode cX5_isSure 34 = .ok (.getfield 137, 3) := by decide +kernel
theorem dX5_isSure_37 : decode cX5_isSure 37 = .ok (.invokevirtual 257, 3) := by decide +kernel
theorem dX5_isSure_40 : decode cX5_isSure 40 = .ok (.invokevirtual 307, 3) := by decide +kernel
theorem dX5_isSure_43 : decode cX5_isSure 43 = .ok (.ifCond .ne 18, 3) := by decide +kernel
theorem dX5_isSure_46 : decode cX5_isSure 46 = .ok (.iload_n 1, 1) := by decide +kernel
theorem dX5_isSure_47 : decode cX5_isSure 47 = .ok (.ifCond .eq 18, 3) := by decide +kernel
theorem dX5_isSure_50 : decode cX5_isSure 50 = .ok (.aload_n 0, 1) := by decide +kernel
theorem dX5_isSure_51 : decode cX5_isSure 51 = .ok (.getfield 137, 3) := by decide +kernel
theorem dX5_isSure_54 : decode cX5_isSure 54 = .ok (.aload_n 0, 1) := by decide +kernel
theorem dX5_isSure_55 : decode cX5_isSure 55 = .ok (.getfield 254, 3) := by decide +kernel
theorem dX5_isSure_58 : decode cX5_isSure 58 = .ok (.if_icmp .ne 7, 3) := by decide +kernel
theorem dX5_isSure_61 : decode cX5_isSure 61 = .ok (.iconst 1, 1) := by decide +kernel
theorem dX5_isSure_62 : decode cX5_isSure 62 = .ok (.goto 4, 3) := by decide +kernel
theorem dX5_isSure_65 : decode cX5_isSure 65 = .ok (.iconst 0, 1) := by decide +kernel
theorem dX5_isSure_66 : decode cX5_isSure 66 = .ok (.ireturn, 1) := by decide +kernel
theorem dX5_seeOneHeap_0 : decode cX5_seeOneHeap 0 = .ok (.aload_n 0, 1) := by decide +kernel
theorem dX5_seeOneHeap_1 : decode cX5_seeOneHeap 1 = .ok (.aload_n 0, 1) := by decide +kernel
theorem dX5_seeOneHeap_2 : decode cX5_seeOneHeap 2 = .ok (.invokevirtual 140, 3) := by decide +kernel
theorem dX5_seeOneHeap_5 : decode cX5_seeOneHeap 5 = .ok (.putfield 254, 3) := by decide +kernel
theorem dX5_seeOneHeap_8 : decode cX5_seeOneHeap 8 = .ok (.aload_n 0, 1) := by decide +kernel
theorem dX5_seeOneHeap_9 : decode cX5_seeOneHeap 9 = .ok (.invokevirtual 133, 3) := by decide +kernel
theorem dX5_seeOneHeap_12 : decode cX5_seeOneHeap 12 = .ok (.istore_n 1, 1) := by decide +kernel
theorem dX5_seeOneHeap_13 : decode cX5_seeOneHeap 13 = .ok (.iconst 0, 1) := by decide +kernel
theorem dX5_seeOneHeap_14 : decode cX5_seeOneHeap 14 = .ok (.istore_n 2, 1) := by decide +kernel
theorem dX5_seeOneHeap_15 : decode cX5_seeOneHeap 15 = .ok (.iload_n 2, 1) := by decide +kernel
theorem dX5_seeOneHeap_16 : decode cX5_seeOneHeap 16 = .ok (.aload_n 0, 1) := by decide +kernel
theorem dX5_seeOneHeap_17 : decode cX5_seeOneHeap 17 = .ok (.getfield 254, 3) := by decide +kernel
theorem dX5_seeOneHeap_20 : decode cX5_seeOneHeap 20 = .ok (.if_icmp .gt 58, 3) := by decide +kernel
theorem dX5_seeOneHeap_23 : decode cX5_seeOneHeap 23 = .ok (.iconst 0, 1) := by decide +kernel
theorem dX5_seeOneHeap_24 : decode cX5_seeOneHeap 24 = .ok (.istore_n 3, 1) := by decide +kernel
theorem dX5_seeOneHeap_25 : decode cX5_seeOneHeap 25 = .ok (.iload_n 3, 1) := by decide +kernel
theorem dX5_seeOneHeap_26 : decode cX5_seeOneHeap 26 = .ok (.bipush 24, 2) := by decide +kernel
theorem dX5_seeOneHeap_28 : decode cX5_seeOneHeap 28 = .ok (.if_icmp .gt 44, 3) := by decide +kernel
theorem dX5_seeOneHeap_31 : decode cX5_seeOneHeap 31 = .ok (.aload_n 0, 1) := by decide +kernel
theorem dX5_seeOneHeap_32 : decode cX5_seeOneHeap 32 = .ok (.getfield 66, 3) := by decide +kernel
theorem dX5_seeOneHeap_35 : decode cX5_seeOneHeap 35 = .ok (.iload_n 2, 1) := by decide +kernel
theorem dX5_seeOneHeap_36 : decode cX5_seeOneHeap 36 = .ok (.aaload, 1) := by decide +kernel
theorem dX5_seeOneHeap_37 : decode cX5_seeOneHeap 37 = .ok (.iload_n 3, 1) := by decide +kernel
theorem dX5_seeOneHeap_38 : decode cX5_seeOneHeap 38 = .ok (.iload_n 3, 1) := by decide +kernel
theorem dX5_seeOneHeap_39 : decode cX5_seeOneHeap 39 = .ok (.iload_n 2, 1) := by decide +kernel
theorem dX5_seeOneHeap_40 : decode cX5_seeOneHeap 40 = .ok (.if_icmp .gt 24, 3) := by decide +kernel
theorem dX5_seeOneHeap_43 : decode cX5_seeOneHeap 43 = .ok (.iload_n 3, 1) := by decide +kernel
theorem dX5_seeOneHeap_44 : decode cX5_seeOneHeap 44 = .ok (.iload_n 1, 1) := by decide +kernel
theorem dX5_seeOneHeap_45 : decode cX5_seeOneHeap 45 = .ok (.if_icmp .gt 19, 3) := by decide +kernel
theorem dX5_seeOneHeap_48 : decode cX5_seeOneHeap 48 = .ok (.iload_n 2, 1) := by decide +kernel
theorem dX5_seeOneHeap_49 : decode cX5_seeOneHeap 49 = .ok (.iload_n 3, 1) := by decide +kernel
theorem dX5_seeOneHeap_50 : decode cX5_seeOneHeap 50 = .ok (.isub, 1) := by decide +kernel
theorem dX5_seeOneHeap_51 : decode cX5_seeOneHeap 51 = .ok (.aload_n 0, 1) := by decide +kernel
theorem dX5_seeOneHeap_52 : decode cX5_seeOneHeap 52 = .ok (.getfield 254, 3) := by decide +kernel
theorem dX5_seeOneHeap_55 : decode cX5_seeOneHeap 55 = .ok (.iload_n 1, 1) := by decide +kernel
theorem dX5_seeOneHeap_56 : decode cX5_seeOneHeap 56 = .ok (.isub, 1) := by decide +kernel
theorem dX5_seeOneHeap_57 : decode cX5_seeOneHeap 57 = .ok (.if_icmp .gt 7, 3) := by decide +kernel
theorem dX5_seeOneHeap_60 : decode cX5_seeOneHeap 60 = .ok (.iconst 1, 1) := by decide +kernel
theorem dX5_seeOneHeap_61 : decode cX5_seeOneHeap 61 = .ok (.goto 4, 3) := by decide +kernel
theorem dX5_seeOneHeap_64 : decode cX5_seeOneHeap 64 = .ok (.iconst 0, 1) := by decide +kernel
theorem dX5_seeOneHeap_65 : decode cX5_seeOneHeap 65 = .ok (.bastore, 1) := by decide +kernel
theorem dX5_seeOneHeap_66 : decode cX5_seeOneHeap 66 = .ok (.iinc 3 1, 3) := by decide +kernel
theorem dX5_seeOneHeap_69 : decode cX5_seeOneHeap 69 = .ok (.goto (-44), 3) := by decide +kernel
theorem dX5_seeOneHeap_72 : decode cX5_seeOneHeap 72 = .ok (.iinc 2 1, 3) := by decide +kernel
theorem dX5_seeOneHeap_75 : decode cX5_seeOneHeap 75 = .ok (.goto (-60), 3) := by decide +kernel
theorem dX5_seeOneHeap_78 : decode cX5_seeOneHeap 78 = .ok (.return_, 1) := by decide +kernel
theorem dX5_seeBack_0 : decode cX5_seeBack 0 = .ok (.aload_n 0, 1) := by decide +kernel
theorem dX5_seeBack_1 : decode cX5_seeBack 1 = .ok (.invokevirtual 263, 3) := by decide +kernel
theorem dX5_seeBack_4 : decode cX5_seeBack 4 = .ok (.aload_n 0, 1) := by decide +kernel
theorem dX5_seeBack_5 : decode cX5_seeBack 5 = .ok (.invokevirtual 133, 3) := by decide +kernel
theorem dX5_seeBack_8 : decode cX5_seeBack 8 = .ok (.istore_n 1, 1) := by decide +kernel
theorem dX5_seeBack_9 : decode cX5_seeBack 9 = .ok (.iconst 0, 1) := by decide +kernel
theorem dX5_seeBack_10 : decode cX5_seeBack 10 = .ok (.istore_n 2, 1) := by decide +kernel
theorem dX5_seeBack_11 : decode cX5_seeBack 11 = .ok (.iload_n 2, 1) := by decide +kernel
theorem dX5_seeBack_12 : decode cX5_seeBack 12 = .ok (.aload_n 0, 1) := by decide +kernel
theorem dX5_seeBack_13 : decode cX5_seeBack 13 = .ok (.getfield 254, 3) := by decide +kernel
theorem dX5_seeBack_16 : decode cX5_seeBack 16 = .ok (.if_icmp .gt 59, 3) := by decide +kernel
theorem dX5_seeBack_19 : decode cX5_seeBack 19 = .ok (.iconst 0, 1) := by decide +kernel
theorem dX5_seeBack_20 : decode cX5_seeBack 20 = .ok (.istore_n 3, 1) := by decide +kernel
theorem dX5_seeBack_21 : decode cX5_seeBack 21 = .ok (.iload_n 3, 1) := by decide +kernel
theorem dX5_seeBack_22 : decode cX5_seeBack 22 = .ok (.bipush 24, 2) := by decide +kernel
theorem dX5_seeBack_24 : decode cX5_seeBack 24 = .ok (.if_icmp .gt 45, 3) := by decide +kernel
theorem dX5_seeBack_27 : decode cX5_seeBack 27 = .ok (.aload_n 0, 1) := by decide +kernel
theorem dX5_seeBack_28 : decode cX5_seeBack 28 = .ok (.getfield 84, 3) := by decide +kernel
theorem dX5_seeBack_31 : decode cX5_seeBack 31 = .ok (.iload_n 2, 1) := by decide +kernel
theorem dX5_seeBack_32 : decode cX5_seeBack 32 = .ok (.aaload, 1) := by decide +kernel
theorem dX5_seeBack_33 : decode cX5_seeBack 33 = .ok (.iload_n 3, 1) := by decide +kernel
theorem dX5_seeBack_34 : decode cX5_seeBack 34 = .ok (.iload_n 3, 1) := by decide +kernel
theorem dX5_seeBack_35 : decode cX5_seeBack 35 = .ok (.iload_n 1, 1) := by decide +kernel
theorem dX5_seeBack_36 : decode cX5_seeBack 36 = .ok (.if_icmp .gt 25, 3) := by decide +kernel
theorem dX5_seeBack_39 : decode cX5_seeBack 39 = .ok (.aload_n 0, 1) := by decide +kernel
theorem dX5_seeBack_40 : decode cX5_seeBack 40 = .ok (.getfield 66, 3) := by decide +kernel
theorem dX5_seeBack_43 : decode cX5_seeBack 43 = .ok (.aload_n 0, 1) := by decide +kernel
theorem dX5_seeBack_44 : decode cX5_seeBack 44 = .ok (.getfield 254, 3) := by decide +kernel
theorem dX5_seeBack_47 : decode cX5_seeBack 47 = .ok (.iload_n 2, 1) := by decide +kernel
theorem dX5_seeBack_48 : decode cX5_seeBack 48 = .ok (.isub, 1) := by decide +kernel
theorem dX5_seeBack_49 : decode cX5_seeBack 49 = .ok (.aaload, 1) := by decide +kernel
theorem dX5_seeBack_50 : decode cX5_seeBack 50 = .ok (.iload_n 1, 1) := by decide +kernel
theorem dX5_seeBack_51 : decode cX5_seeBack 51 = .ok (.iload_n 3, 1) := by decide +kernel
theorem dX5_seeBack_52 : decode cX5_seeBack 52 = .ok (.isub, 1) := by decide +kernel
theorem dX5_seeBack_53 : decode cX5_seeBack 53 = .ok (.baload, 1) := by decide +kernel
theorem dX5_seeBack_54 : decode cX5_seeBack 54 = .ok (.ifCond .eq 7, 3) := by decide +kernel
theorem dX5_seeBack_57 : decode cX5_seeBack 57 = .ok (.iconst 1, 1) := by decide +kernel
theorem dX5_seeBack_58 : decode cX5_seeBack 58 = .ok (.goto 4, 3) := by decide +kernel
theorem dX5_seeBack_61 : decode cX5_seeBack 61 = .ok (.iconst 0, 1) := by decide +kernel
theorem dX5_seeBack_62 : decode cX5_seeBack 62 = .ok (.bastore, 1) := by decide +kernel
theorem dX5_seeBack_63 : decode cX5_seeBack 63 = .ok (.iinc 3 1, 3) := by decide +kernel
theorem dX5_seeBack_66 : decode cX5_seeBack 66 = .ok (.goto (-45), 3) := by decide +kernel
theorem dX5_seeBack_69 : decode cX5_seeBack 69 = .ok (.iinc 2 1, 3) := by decide +kernel
theorem dX5_seeBack_72 : decode cX5_seeBack 72 = .ok (.goto (-61), 3) := by decide +kernel
theorem dX5_seeBack_75 : decode cX5_seeBack 75 = .ok (.iconst 0, 1) := by decide +kernel
theorem dX5_seeBack_76 : decode cX5_seeBack 76 = .ok (.istore_n 2, 1) := by decide +kernel
theorem dX5_seeBack_77 : decode cX5_seeBack 77 = .ok (.iload_n 2, 1) := by decide +kernel
theorem dX5_seeBack_78 : decode cX5_seeBack 78 = .ok (.aload_n 0, 1) := by decide +kernel
theorem dX5_seeBack_79 : decode cX5_seeBack 79 = .ok (.getfield 254, 3) := by decide +kernel
theorem dX5_seeBack_82 : decode cX5_seeBack 82 = .ok (.if_icmp .gt 39, 3) := by decide +kernel
theorem dX5_seeBack_85 : decode cX5_seeBack 85 = .ok (.iconst 0, 1) := by decide +kernel
theorem dX5_seeBack_86 : decode cX5_seeBack 86 = .ok (.istore_n 3, 1) := by decide +kernel
theorem dX5_seeBack_87 : decode cX5_seeBack 87 = .ok (.iload_n 3, 1) := by decide +kernel
theorem dX5_seeBack_88 : decode cX5_seeBack 88 = .ok (.bipush 24, 2) := by decide +kernel
theorem dX5_seeBack_90 : decode cX5_seeBack 90 = .ok (.if_icmp .gt 25, 3) := by decide +kernel
theorem dX5_seeBack_93 : decode cX5_seeBack 93 = .ok (.aload_n 0, 1) := by decide +kernel
theorem dX5_seeBack_94 : decode cX5_seeBack 94 = .ok (.getfield 66, 3) := by decide +kernel
theorem dX5_seeBack_97 : decode cX5_seeBack 97 = .ok (.iload_n 2, 1) := by decide +kernel
theorem dX5_seeBack_98 : decode cX5_seeBack 98 = .ok (.aaload, 1) := by decide +kernel
theorem dX5_seeBack_99 : decode cX5_seeBack 99 = .ok (.iload_n 3, 1) := by decide +kernel
theorem dX5_seeBack_100 : decode cX5_seeBack 100 = .ok (.aload_n 0, 1) := by decide +kernel
theorem dX5_seeBack_101 : decode cX5_seeBack 101 = .ok (.getfield 84, 3) := by decide +kernel
theorem dX5_seeBack_104 : decode cX5_seeBack 104 = .ok (.iload_n 2, 1) := by decide +kernel
theorem dX5_seeBack_105 : decode cX5_seeBack 105 = .ok (.aaload, 1) := by decide +kernel
theorem dX5_seeBack_106 : decode cX5_seeBack 106 = .ok (.iload_n 3, 1) := by decide +kernel
theorem dX5_seeBack_107 : decode cX5_seeBack 107 = .ok (.baload, 1) := by decide +kernel
theorem dX5_seeBack_108 : decode cX5_seeBack 108 = .ok (.bastore, 1) := by decide +kernel
theorem dX5_seeBack_109 : decode cX5_seeBack 109 = .ok (.iinc 3 1, 3) := by decide +kernel
theorem dX5_seeBack_112 : decode cX5_seeBack 112 = .ok (.goto (-25), 3) := by decide +kernel
theorem dX5_seeBack_115 : decode cX5_seeBack 115 = .ok (.iinc 2 1, 3) := by decide +kernel
theorem dX5_seeBack_118 : decode cX5_seeBack 118 = .ok (.goto (-41), 3) := by decide +kernel
theorem dX5_seeBack_121 : decode cX5_seeBack 121 = .ok (.return_, 1) := by decide +kernel
theorem dX5_countSurely_0 : decode cX5_countSurely 0 = .ok (.iconst 2, 1) := by decide +kernel
theorem dX5_countSurely_1 : decode cX5_countSurely 1 = .ok (.aload_n 0, 1) := by decide +kernel
theorem dX5_countSurely_2 : decode cX5_countSurely 2 = .ok (.invokevirtual 133, 3) := by decide +kernel
theorem dX5_countSurely_5 : decode cX5_countSurely 5 = .ok (.imul, 1) := by decide +kernel
theorem dX5_countSurely_6 : decode cX5_countSurely 6 = .ok (.aload_n 0, 1) := by decide +kernel
theorem dX5_countSurely_7 : decode cX5_countSurely 7 = .ok (.getfield 254, 3) := by decide +kernel
theorem dX5_countSurely_10 : decode cX5_countSurely 10 = .ok (.if_icmp .ne 7, 3) := by decide +kernel
theorem dX5_countSurely_13 : decode cX5_countSurely 13 = .ok (.iconst 1, 1) := by decide +kernel
theorem dX5_countSurely_14 : decode cX5_countSurely 14 = .ok (.goto 4, 3) := by decide +kernel
theorem dX5_countSurely_17 : decode cX5_countSurely 17 = .ok (.iconst 0, 1) := by decide +kernel
theorem dX5_countSurely_18 : decode cX5_countSurely 18 = .ok (.istore_n 2, 1) := by decide +kernel
theorem dX5_countSurely_19 : decode cX5_countSurely 19 = .ok (.aload_n 0, 1) := by decide +kernel
theorem dX5_countSurely_20 : decode cX5_countSurely 20 = .ok (.invokevirtual 304, 3) := by decide +kernel
theorem dX5_countSurely_23 : decode cX5_countSurely 23 = .ok (.lconst 0, 1) := by decide +kernel
theorem dX5_countSurely_24 : decode cX5_countSurely 24 = .ok (.lstore_n 3, 1) := by decide +kernel
theorem dX5_countSurely_25 : decode cX5_countSurely 25 = .ok (.iconst 0, 1) := by decide +kernel
theorem dX5_countSurely_26 : decode cX5_countSurely 26 = .ok (.istore 5, 2) := by decide +kernel
theorem dX5_countSurely_28 : decode cX5_countSurely 28 = .ok (.iload 5, 2) := by decide +kernel
theorem dX5_countSurely_30 : decode cX5_countSurely 30 = .ok (.aload_n 0, 1) := by decide +kernel
theorem dX5_countSurely_31 : decode cX5_countSurely 31 = .ok (.getfield 254, 3) := by decide +kernel
theorem dX5_countSurely_34 : decode cX5_countSurely 34 = .ok (.if_icmp .gt 188, 3) := by decide +kernel
theorem dX5_countSurely_37 : decode cX5_countSurely 37 = .ok (.iconst 0, 1) := by decide +kernel
theorem dX5_countSurely_38 : decode cX5_countSurely 38 = .ok (.istore 6, 2) := by decide +kernel
theorem dX5_countSurely_40 : decode cX5_countSurely 40 = .ok (.iload 6, 2) := by decide +kernel
theorem dX5_countSurely_42 : decode cX5_countSurely 42 = .ok (.iload 5, 2) := by decide +kernel
theorem dX5_countSurely_44 : decode cX5_countSurely 44 = .ok (.if_icmp .gt 172, 3) := by decide +kernel
theorem dX5_countSurely_47 : decode cX5_countSurely 47 = .ok (.iload 5, 2) := by decide +kernel
theorem dX5_countSurely_49 : decode cX5_countSurely 49 = .ok (.ifCond .ne 7, 3) := by decide +kernel
theorem dX5_countSurely_52 : decode cX5_countSurely 52 = .ok (.lconst 1, 1) := by decide +kernel
theorem dX5_countSurely_53 : decode cX5_countSurely 53 = .ok (.goto 50, 3) := by decide +kernel
theorem dX5_countSurely_56 : decode cX5_countSurely 56 = .ok (.iload 6, 2) := by decide +kernel
theorem dX5_countSurely_58 : decode cX5_countSurely 58 = .ok (.ifCond .le 20, 3) := by decide +kernel
theorem dX5_countSurely_61 : decode cX5_countSurely 61 = .ok (.aload_n 0, 1) := by decide +kernel
theorem dX5_countSurely_62 : decode cX5_countSurely 62 = .ok (.getfield 69, 3) := by decide +kernel
theorem dX5_countSurely_65 : decode cX5_countSurely 65 = .ok (.iload 5, 2) := by decide +kernel
theorem dX5_countSurely_67 : decode cX5_countSurely 67 = .ok (.iconst 1, 1) := by decide +kernel
theorem dX5_countSurely_68 : decode cX5_countSurely 68 = .ok (.isub, 1) := by decide +kernel
theorem dX5_countSurely_69 : decode cX5_countSurely 69 = .ok (.aaload, 1) := by decide +kernel
theorem dX5_countSurely_70 : decode cX5_countSurely 70 = .ok (.iload 6, 2) := by decide +kernel
theorem dX5_countSurely_72 : decode cX5_countSurely 72 = .ok (.iconst 1, 1) := by decide +kernel
theorem dX5_countSurely_73 : decode cX5_countSurely 73 = .ok (.isub, 1) := by decide +kernel
theorem dX5_countSurely_74 : decode cX5_countSurely 74 = .ok (.laload, 1) := by decide +kernel
theorem dX5_countSurely_75 : decode cX5_countSurely 75 = .ok (.goto 4, 3) := by decide +kernel
theorem dX5_countSurely_78 : decode cX5_countSurely 78 = .ok (.lconst 0, 1) := by decide +kernel
theorem dX5_countSurely_79 : decode cX5_countSurely 79 = .ok (.iload 6, 2) := by decide +kernel
theorem dX5_countSurely_81 : decode cX5_countSurely 81 = .ok (.iload 5, 2) := by decide +kernel
theorem dX5_countSurely_83 : decode cX5_countSurely 83 = .ok (.if_icmp .ge 18, 3) := by decide +kernel
theorem dX5_countSurely_86 : decode cX5_countSurely 86 = .ok (.aload_n 0, 1) := by decide +kernel
theorem dX5_countSurely_87 : decode cX5_countSurely 87 = .ok (.getfield 69, 3) := by decide +kernel
theorem dX5_countSurely_90 : decode cX5_countSurely 90 = .ok (.iload 5, 2) := by decide +kernel
theorem dX5_countSurely_92 : decode cX5_countSurely 92 = .ok (.iconst 1, 1) := by decide +kernel
theorem dX5_countSurely_93 : decode cX5_countSurely 93 = .ok (.isub, 1) := by decide +kernel
theorem dX5_countSurely_94 : decode cX5_countSurely 94 = .ok (.aaload, 1) := by decide +kernel
theorem dX5_countSurely_95 : decode cX5_countSurely 95 = .ok (.iload 6, 2) := by decide +kernel
theorem dX5_countSurely_97 : decode cX5_countSurely 97 = .ok (.laload, 1) := by decide +kernel
theorem dX5_countSurely_98 : decode cX5_countSurely 98 = .ok (.goto 4, 3) := by decide +kernel
theorem dX5_countSurely_101 : decode cX5_countSurely 101 = .ok (.lconst 0, 1) := by decide +kernel
theorem dX5_countSurely_102 : decode cX5_countSurely 102 = .ok (.ladd, 1) := by decide +kernel
theorem dX5_countSurely_103 : decode cX5_countSurely 103 = .ok (.lstore 7, 2) := by decide +kernel
theorem dX5_countSurely_105 : decode cX5_countSurely 105 = .ok (.aload_n 0, 1) := by decide +kernel
theorem dX5_countSurely_106 : decode cX5_countSurely 106 = .ok (.getfield 69, 3) := by decide +kernel
theorem dX5_countSurely_109 : decode cX5_countSurely 109 = .ok (.iload 5, 2) := by decide +kernel
theorem dX5_countSurely_111 : decode cX5_countSurely 111 = .ok (.aaload, 1) := by decide +kernel
theorem dX5_countSurely_112 : decode cX5_countSurely 112 = .ok (.iload 6, 2) := by decide +kernel
theorem dX5_countSurely_114 : decode cX5_countSurely 114 = .ok (.aload_n 0, 1) := by decide +kernel
theorem dX5_countSurely_115 : decode cX5_countSurely 115 = .ok (.getfield 66, 3) := by decide +kernel
theorem dX5_countSurely_118 : decode cX5_countSurely 118 = .ok (.iload 5, 2) := by decide +kernel
theorem dX5_countSurely_120 : decode cX5_countSurely 120 = .ok (.aaload, 1) := by decide +kernel
theorem dX5_countSurely_121 : decode cX5_countSurely 121 = .ok (.iload 6, 2) := by decide +kernel
theorem dX5_countSurely_123 : decode cX5_countSurely 123 = .ok (.baload, 1) := by decide +kernel
theorem dX5_countSurely_124 : decode cX5_countSurely 124 = .ok (.ifCond .eq 25, 3) := by decide +kernel
theorem dX5_countSurely_127 : decode cX5_countSurely 127 = .ok (.iload 5, 2) := by decide +kernel
theorem dX5_countSurely_129 : decode cX5_countSurely 129 = .ok (.ifCond .eq 15, 3) := by decide +kernel
theorem dX5_countSurely_132 : decode cX5_countSurely 132 = .ok (.iload 6, 2) := by decide +kernel
theorem dX5_countSurely_134 : decode cX5_countSurely 134 = .ok (.iload_n 1, 1) := by decide +kernel
theorem dX5_countSurely_135 : decode cX5_countSurely 135 = .ok (.iload 5, 2) := by decide +kernel
theorem dX5_countSurely_137 : decode cX5_countSurely 137 = .ok (.iload 6, 2) := by decide +kernel
theorem dX5_countSurely_139 : decode cX5_countSurely 139 = .ok (.isub, 1) := by decide +kernel
theorem dX5_countSurely_140 : decode cX5_countSurely 140 = .ok (.imul, 1) := by decide +kernel
theorem dX5_countSurely_141 : decode cX5_countSurely 141 = .ok (.if_icmp .le 8, 3) := by decide +kernel
theorem dX5_countSurely_144 : decode cX5_countSurely 144 = .ok (.lload 7, 2) := by decide +kernel
theorem dX5_countSurely_146 : decode cX5_countSurely 146 = .ok (.goto 4, 3) := by decide +kernel
theorem dX5_countSurely_149 : decode cX5_countSurely 149 = .ok (.lconst 0, 1) := by decide +kernel
theorem dX5_countSurely_150 : decode cX5_countSurely 150 = .ok (.lastore, 1) := by decide +kernel
theorem dX5_countSurely_151 : decode cX5_countSurely 151 = .ok (.aload_n 0, 1) := by decide +kernel
theorem dX5_countSurely_152 : decode cX5_countSurely 152 = .ok (.iload 5, 2) := by decide +kernel
theorem dX5_countSurely_154 : decode cX5_countSurely 154 = .ok (.iload 6, 2) := by decide +kernel
theorem dX5_countSurely_156 : decode cX5_countSurely 156 = .ok (.invokevirtual 307, 3) := by decide +kernel
theorem dX5_countSurely_159 : decode cX5_countSurely 159 = .ok (.ifCond .ne 16, 3) := by decide +kernel
theorem dX5_countSurely_162 : decode cX5_countSurely 162 = .ok (.iload_n 2, 1) := by decide +kernel
theorem dX5_countSurely_163 : decode cX5_countSurely 163 = .ok (.ifCond .eq 47, 3) := by decide +kernel
theorem dX5_countSurely_166 : decode cX5_countSurely 166 = .ok (.iload 5, 2) := by decide +kernel
theorem dX5_countSurely_168 : decode cX5_countSurely 168 = .ok (.aload_n 0, 1) := by decide +kernel
theorem dX5_countSurely_169 : decode cX5_countSurely 169 = .ok (.getfield 254, 3) := by decide +kernel
theorem dX5_countSurely_172 : decode cX5_countSurely 172 = .ok (.if_icmp .ne 38, 3) := by decide +kernel
theorem dX5_countSurely_175 : decode cX5_countSurely 175 = .ok (.lload_n 3, 1) := by decide +kernel
theorem dX5_countSurely_176 : decode cX5_countSurely 176 = .ok (.aload_n 0, 1) := by decide +kernel
theorem dX5_countSurely_177 : decode cX5_countSurely 177 = .ok (.getfield 69, 3) := by decide +kernel
theorem dX5_countSurely_180 : decode cX5_countSurely 180 = .ok (.iload 5, 2) := by decide +kernel
theorem dX5_countSurely_182 : decode cX5_countSurely 182 = .ok (.aaload, 1) := by decide +kernel
theorem dX5_countSurely_183 : decode cX5_countSurely 183 = .ok (.iload 6, 2) := by decide +kernel
theorem dX5_countSurely_185 : decode cX5_countSurely 185 = .ok (.laload, 1) := by decide +kernel
theorem dX5_countSurely_186 : decode cX5_countSurely 186 = .ok (.aload_n 0, 1) := by decide +kernel
theorem dX5_countSurely_187 : decode cX5_countSurely 187 = .ok (.getfield 72, 3) := by decide +kernel
theorem dX5_countSurely_190 : decode cX5_countSurely 190 = .ok (.iload 5, 2) := by decide +kernel
theorem dX5_countSurely_192 : decode cX5_countSurely 192 = .ok (.aaload, 1) := by decide +kernel
theorem dX5_countSurely_193 : decode cX5_countSurely 193 = .ok (.iload 6, 2) := by decide +kernel
theorem dX5_countSurely_195 : decode cX5_countSurely 195 = .ok (.laload, 1) := by decide +kernel
theorem dX5_countSurely_196 : decode cX5_countSurely 196 = .ok (.lmul, 1) := by decide +kernel
theorem dX5_countSurely_197 : decode cX5_countSurely 197 = .ok (.ladd, 1) := by decide +kernel
theorem dX5_countSurely_198 : decode cX5_countSurely 198 = .ok (.lstore_n 3, 1) := by decide +kernel
theorem dX5_countSurely_199 : decode cX5_countSurely 199 = .ok (.aload_n 0, 1) := by decide +kernel
theorem dX5_countSurely_200 : decode cX5_countSurely 200 = .ok (.getfield 69, 3) := by decide +kernel
theorem dX5_countSurely_203 : decode cX5_countSurely 203 = .ok (.iload 5, 2) := by decide +kernel
theorem dX5_countSurely_205 : decode cX5_countSurely 205 = .ok (.aaload, 1) := by decide +kernel
theorem dX5_countSurely_206 : decode cX5_countSurely 206 = .ok (.iload 6, 2) := by decide +kernel
theorem dX5_countSurely_208 : decode cX5_countSurely 208 = .ok (.lconst 0, 1) := by decide +kernel
theorem dX5_countSurely_209 : decode cX5_countSurely 209 = .ok (.lastore, 1) := by decide +kernel
theorem dX5_countSurely_210 : decode cX5_countSurely 210 = .ok (.iinc 6 1, 3) := by decide +kernel
theorem dX5_countSurely_213 : decode cX5_countSurely 213 = .ok (.goto (-173), 3) := by decide +kernel
theorem dX5_countSurely_216 : decode cX5_countSurely 216 = .ok (.iinc 5 1, 3) := by decide +kernel
theorem dX5_countSurely_219 : decode cX5_countSurely 219 = .ok (.goto (-191), 3) := by decide +kernel
theorem dX5_countSurely_222 : decode cX5_countSurely 222 = .ok (.lload_n 3, 1) := by decide +kernel
theorem dX5_countSurely_223 : decode cX5_countSurely 223 = .ok (.lreturn, 1) := by decide +kernel
theorem dX5_drawn_0 : decode cX5_drawn 0 = .ok (.iload_n 1, 1) := by decide +kernel
theorem dX5_drawn_1 : decode cX5_drawn 1 = .ok (.tableswitch 89 1 5 #[35, 46, 57, 68, 79], 35) := by decide +kernel
theorem dX5_drawn_36 : decode cX5_drawn 36 = .ok (.aload_n 0, 1) := by decide +kernel
theorem dX5_drawn_37 : decode cX5_drawn 37 = .ok (.invokevirtual 321, 3) := by decide +kernel
theorem dX5_drawn_40 : decode cX5_drawn 40 = .ok (.aload_n 0, 1) := by decide +kernel
theorem dX5_drawn_41 : decode cX5_drawn 41 = .ok (.iconst 1, 1) := by decide +kernel
theorem dX5_drawn_42 : decode cX5_drawn 42 = .ok (.iload_n 2, 1) := by decide +kernel
theorem dX5_drawn_43 : decode cX5_drawn 43 = .ok (.invokevirtual 273, 3) := by decide +kernel
theorem dX5_drawn_46 : decode cX5_drawn 46 = .ok (.lreturn, 1) := by decide +kernel
theorem dX5_drawn_47 : decode cX5_drawn 47 = .ok (.aload_n 0, 1) := by decide +kernel
theorem dX5_drawn_48 : decode cX5_drawn 48 = .ok (.invokevirtual 263, 3) := by decide +kernel
theorem dX5_drawn_51 : decode cX5_drawn 51 = .ok (.aload_n 0, 1) := by decide +kernel
theorem dX5_drawn_52 : decode cX5_drawn 52 = .ok (.iconst 1, 1) := by decide +kernel
theorem dX5_drawn_53 : decode cX5_drawn 53 = .ok (.iload_n 2, 1) := by decide +kernel
theorem dX5_drawn_54 : decode cX5_drawn 54 = .ok (.invokevirtual 273, 3) := by decide +kernel
theorem dX5_drawn_57 : decode cX5_drawn 57 = .ok (.lreturn, 1) := by decide +kernel
theorem dX5_drawn_58 : decode cX5_drawn 58 = .ok (.aload_n 0, 1) := by decide +kernel
theorem dX5_drawn_59 : decode cX5_drawn 59 = .ok (.invokevirtual 263, 3) := by decide +kernel
theorem dX5_drawn_62 : decode cX5_drawn 62 = .ok (.aload_n 0, 1) := by decide +kernel
theorem dX5_drawn_63 : decode cX5_drawn 63 = .ok (.iconst 5, 1) := by decide +kernel
theorem dX5_drawn_64 : decode cX5_drawn 64 = .ok (.iload_n 2, 1) := by decide +kernel
theorem dX5_drawn_65 : decode cX5_drawn 65 = .ok (.invokevirtual 273, 3) := by decide +kernel
theorem dX5_drawn_68 : decode cX5_drawn 68 = .ok (.lreturn, 1) := by decide +kernel
theorem dX5_drawn_69 : decode cX5_drawn 69 = .ok (.aload_n 0, 1) := by decide +kernel
theorem dX5_drawn_70 : decode cX5_drawn 70 = .ok (.invokevirtual 324, 3) := by decide +kernel
theorem dX5_drawn_73 : decode cX5_drawn 73 = .ok (.aload_n 0, 1) := by decide +kernel
theorem dX5_drawn_74 : decode cX5_drawn 74 = .ok (.iconst 1, 1) := by decide +kernel
theorem dX5_drawn_75 : decode cX5_drawn 75 = .ok (.iload_n 2, 1) := by decide +kernel
theorem dX5_drawn_76 : decode cX5_drawn 76 = .ok (.invokevirtual 273, 3) := by decide +kernel
theorem dX5_drawn_79 : decode cX5_drawn 79 = .ok (.lreturn, 1) := by decide +kernel
theorem dX5_drawn_80 : decode cX5_drawn 80 = .ok (.aload_n 0, 1) := by decide +kernel
theorem dX5_drawn_81 : decode cX5_drawn 81 = .ok (.invokevirtual 263, 3) := by decide +kernel
theorem dX5_drawn_84 : decode cX5_drawn 84 = .ok (.aload_n 0, 1) := by decide +kernel
theorem dX5_drawn_85 : decode cX5_drawn 85 = .ok (.iload_n 2, 1) := by decide +kernel
theorem dX5_drawn_86 : decode cX5_drawn 86 = .ok (.invokevirtual 327, 3) := by decide +kernel
theorem dX5_drawn_89 : decode cX5_drawn 89 = .ok (.lreturn, 1) := by decide +kernel
theorem dX5_drawn_90 : decode cX5_drawn 90 = .ok (.aload_n 0, 1) := by decide +kernel
theorem dX5_drawn_91 : decode cX5_drawn 91 = .ok (.invokevirtual 321, 3) := by decide +kernel
theorem dX5_drawn_94 : decode cX5_drawn 94 = .ok (.aload_n 0, 1) := by decide +kernel
theorem dX5_drawn_95 : decode cX5_drawn 95 = .ok (.iconst 0, 1) := by decide +kernel
theorem dX5_drawn_96 : decode cX5_drawn 96 = .ok (.iconst 0, 1) := by decide +kernel
theorem dX5_drawn_97 : decode cX5_drawn 97 = .ok (.invokevirtual 273, 3) := by decide +kernel
theorem dX5_drawn_100 : decode cX5_drawn 100 = .ok (.aload_n 0, 1) := by decide +kernel
theorem dX5_drawn_101 : decode cX5_drawn 101 = .ok (.bipush 6, 2) := by decide +kernel
theorem dX5_drawn_103 : decode cX5_drawn 103 = .ok (.iload_n 2, 1) := by decide +kernel
theorem dX5_drawn_104 : decode cX5_drawn 104 = .ok (.invokevirtual 273, 3) := by decide +kernel
theorem dX5_drawn_107 : decode cX5_drawn 107 = .ok (.lsub, 1) := by decide +kernel
theorem dX5_drawn_108 : decode cX5_drawn 108 = .ok (.lreturn, 1) := by decide +kernel
theorem dX5_head_0 : decode cX5_head 0 = .ok (.iconst (-1), 1) := by decide +kernel
