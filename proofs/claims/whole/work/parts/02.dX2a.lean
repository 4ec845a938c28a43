theorem dX2_init_0 : decode cX2_init 0 = .ok (.aload_n 0, 1) := by decide +kernel
theorem dX2_init_1 : decode cX2_init 1 = .ok (.invokespecial 3, 3) := by decide +kernel
theorem dX2_init_4 : decode cX2_init 4 = .ok (.aload_n 0, 1) := by decide +kernel
theorem dX2_init_5 : decode cX2_init 5 = .ok (.iconst (-1), 1) := by decide +kernel
theorem dX2_init_6 : decode cX2_init 6 = .ok (.putfield 9, 3) := by decide +kernel
theorem dX2_init_9 : decode cX2_init 9 = .ok (.aload_n 0, 1) := by decide +kernel
theorem dX2_init_10 : decode cX2_init 10 = .ok (.bipush 40, 2) := by decide +kernel
theorem dX2_init_12 : decode cX2_init 12 = .ok (.newarray .long, 2) := by decide +kernel
theorem dX2_init_14 : decode cX2_init 14 = .ok (.putfield 15, 3) := by decide +kernel
theorem dX2_init_17 : decode cX2_init 17 = .ok (.return_, 1) := by decide +kernel
theorem dX2_becomeRow_0 : decode cX2_becomeRow 0 = .ok (.aload_n 0, 1) := by decide +kernel
theorem dX2_becomeRow_1 : decode cX2_becomeRow 1 = .ok (.iload_n 1, 1) := by decide +kernel
theorem dX2_becomeRow_2 : decode cX2_becomeRow 2 = .ok (.putfield 9, 3) := by decide +kernel
theorem dX2_becomeRow_5 : decode cX2_becomeRow 5 = .ok (.aload_n 0, 1) := by decide +kernel
theorem dX2_becomeRow_6 : decode cX2_becomeRow 6 = .ok (.iload_n 2, 1) := by decide +kernel
theorem dX2_becomeRow_7 : decode cX2_becomeRow 7 = .ok (.putfield 19, 3) := by decide +kernel
theorem dX2_becomeRow_10 : decode cX2_becomeRow 10 = .ok (.aload_n 0, 1) := by decide +kernel
theorem dX2_becomeRow_11 : decode cX2_becomeRow 11 = .ok (.getfield 15, 3) := by decide +kernel
theorem dX2_becomeRow_14 : decode cX2_becomeRow 14 = .ok (.lconst 0, 1) := by decide +kernel
theorem dX2_becomeRow_15 : decode cX2_becomeRow 15 = .ok (.invokestatic 22, 3) := by decide +kernel
theorem dX2_becomeRow_18 : decode cX2_becomeRow 18 = .ok (.return_, 1) := by decide +kernel
theorem dX2_becomeDrawing_0 : decode cX2_becomeDrawing 0 = .ok (.aload_n 0, 1) := by decide +kernel
theorem dX2_becomeDrawing_1 : decode cX2_becomeDrawing 1 = .ok (.bipush 10, 2) := by decide +kernel
theorem dX2_becomeDrawing_3 : decode cX2_becomeDrawing 3 = .ok (.iload_n 1, 1) := by decide +kernel
theorem dX2_becomeDrawing_4 : decode cX2_becomeDrawing 4 = .ok (.iadd, 1) := by decide +kernel
theorem dX2_becomeDrawing_5 : decode cX2_becomeDrawing 5 = .ok (.putfield 9, 3) := by decide +kernel
theorem dX2_becomeDrawing_8 : decode cX2_becomeDrawing 8 = .ok (.aload_n 0, 1) := by decide +kernel
theorem dX2_becomeDrawing_9 : decode cX2_becomeDrawing 9 = .ok (.iconst 0, 1) := by decide +kernel
theorem dX2_becomeDrawing_10 : decode cX2_becomeDrawing 10 = .ok (.putfield 19, 3) := by decide +kernel
theorem dX2_becomeDrawing_13 : decode cX2_becomeDrawing 13 = .ok (.aload_n 0, 1) := by decide +kernel
theorem dX2_becomeDrawing_14 : decode cX2_becomeDrawing 14 = .ok (.iload_n 2, 1) := by decide +kernel
theorem dX2_becomeDrawing_15 : decode cX2_becomeDrawing 15 = .ok (.putfield 28, 3) := by decide +kernel
theorem dX2_becomeDrawing_18 : decode cX2_becomeDrawing 18 = .ok (.return_, 1) := by decide +kernel
theorem dX2_isEmpty_0 : decode cX2_isEmpty 0 = .ok (.aload_n 0, 1) := by decide +kernel
theorem dX2_isEmpty_1 : decode cX2_isEmpty 1 = .ok (.getfield 9, 3) := by decide +kernel
theorem dX2_isEmpty_4 : decode cX2_isEmpty 4 = .ok (.iconst (-1), 1) := by decide +kernel
theorem dX2_isEmpty_5 : decode cX2_isEmpty 5 = .ok (.if_icmp .ne 7, 3) := by decide +kernel
theorem dX2_isEmpty_8 : decode cX2_isEmpty 8 = .ok (.iconst 1, 1) := by decide +kernel
theorem dX2_isEmpty_9 : decode cX2_isEmpty 9 = .ok (.goto 4, 3) := by decide +kernel
theorem dX2_isEmpty_12 : decode cX2_isEmpty 12 = .ok (.iconst 0, 1) := by decide +kernel
theorem dX2_isEmpty_13 : decode cX2_isEmpty 13 = .ok (.ireturn, 1) := by decide +kernel
theorem dX2_isRow_0 : decode cX2_isRow 0 = .ok (.aload_n 0, 1) := by decide +kernel
theorem dX2_isRow_1 : decode cX2_isRow 1 = .ok (.getfield 9, 3) := by decide +kernel
theorem dX2_isRow_4 : decode cX2_isRow 4 = .ok (.ifCond .lt 15, 3) := by decide +kernel
theorem dX2_isRow_7 : decode cX2_isRow 7 = .ok (.aload_n 0, 1) := by decide +kernel
theorem dX2_isRow_8 : decode cX2_isRow 8 = .ok (.getfield 9, 3) := by decide +kernel
theorem dX2_isRow_11 : decode cX2_isRow 11 = .ok (.iconst 5, 1) := by decide +kernel
theorem dX2_isRow_12 : decode cX2_isRow 12 = .ok (.if_icmp .ge 7, 3) := by decide +kernel
theorem dX2_isRow_15 : decode cX2_isRow 15 = .ok (.iconst 1, 1) := by decide +kernel
theorem dX2_isRow_16 : decode cX2_isRow 16 = .ok (.goto 4, 3) := by decide +kernel
theorem dX2_isRow_19 : decode cX2_isRow 19 = .ok (.iconst 0, 1) := by decide +kernel
theorem dX2_isRow_20 : decode cX2_isRow 20 = .ok (.ireturn, 1) := by decide +kernel
theorem dX2_isDrawing_0 : decode cX2_isDrawing 0 = .ok (.aload_n 0, 1) := by decide +kernel
theorem dX2_isDrawing_1 : decode cX2_isDrawing 1 = .ok (.getfield 9, 3) := by decide +kernel
theorem dX2_isDrawing_4 : decode cX2_isDrawing 4 = .ok (.bipush 10, 2) := by decide +kernel
theorem dX2_isDrawing_6 : decode cX2_isDrawing 6 = .ok (.if_icmp .lt 7, 3) := by decide +kernel
theorem dX2_isDrawing_9 : decode cX2_isDrawing 9 = .ok (.iconst 1, 1) := by decide +kernel
theorem dX2_isDrawing_10 : decode cX2_isDrawing 10 = .ok (.goto 4, 3) := by decide +kernel
theorem dX2_isDrawing_13 : decode cX2_isDrawing 13 = .ok (.iconst 0, 1) := by decide +kernel
theorem dX2_isDrawing_14 : decode cX2_isDrawing 14 = .ok (.ireturn, 1) := by decide +kernel
theorem dX2_kind_0 : decode cX2_kind 0 = .ok (.aload_n 0, 1) := by decide +kernel
theorem dX2_kind_1 : decode cX2_kind 1 = .ok (.getfield 9, 3) := by decide +kernel
theorem dX2_kind_4 : decode cX2_kind 4 = .ok (.bipush 10, 2) := by decide +kernel
theorem dX2_kind_6 : decode cX2_kind 6 = .ok (.isub, 1) := by decide +kernel
theorem dX2_kind_7 : decode cX2_kind 7 = .ok (.ireturn, 1) := by decide +kernel
theorem dX2_hasElement_0 : decode cX2_hasElement 0 = .ok (.iload_n 1, 1) := by decide +kernel
theorem dX2_hasElement_1 : decode cX2_hasElement 1 = .ok (.aload_n 0, 1) := by decide +kernel
theorem dX2_hasElement_2 : decode cX2_hasElement 2 = .ok (.getfield 19, 3) := by decide +kernel
theorem dX2_hasElement_5 : decode cX2_hasElement 5 = .ok (.iconst 1, 1) := by decide +kernel
theorem dX2_hasElement_6 : decode cX2_hasElement 6 = .ok (.isub, 1) := by decide +kernel
theorem dX2_hasElement_7 : decode cX2_hasElement 7 = .ok (.invokestatic 31, 3) := by decide +kernel
theorem dX2_hasElement_10 : decode cX2_hasElement 10 = .ok (.ireturn, 1) := by decide +kernel
theorem dX2_hasElements_0 : decode cX2_hasElements 0 = .ok (.iload_n 1, 1) := by decide +kernel
theorem dX2_hasElements_1 : decode cX2_hasElements 1 = .ok (.aload_n 0, 1) := by decide +kernel
theorem dX2_hasElements_2 : decode cX2_hasElements 2 = .ok (.getfield 19, 3) := by decide +kernel
theorem dX2_hasElements_5 : decode cX2_hasElements 5 = .ok (.invokestatic 31, 3) := by decide +kernel
theorem dX2_hasElements_8 : decode cX2_hasElements 8 = .ok (.ifCond .eq 20, 3) := by decide +kernel
theorem dX2_hasElements_11 : decode cX2_hasElements 11 = .ok (.iload_n 2, 1) := by decide +kernel
theorem dX2_hasElements_12 : decode cX2_hasElements 12 = .ok (.aload_n 0, 1) := by decide +kernel
theorem dX2_hasElements_13 : decode cX2_hasElements 13 = .ok (.getfield 19, 3) := by decide +kernel
theorem dX2_hasElements_16 : decode cX2_hasElements 16 = .ok (.iload_n 1, 1) := by decide +kernel
theorem dX2_hasElements_17 : decode cX2_hasElements 17 = .ok (.isub, 1) := by decide +kernel
theorem dX2_hasElements_18 : decode cX2_hasElements 18 = .ok (.invokestatic 31, 3) := by decide +kernel
theorem dX2_hasElements_21 : decode cX2_hasElements 21 = .ok (.ifCond .eq 7, 3) := by decide +kernel
theorem dX2_hasElements_24 : decode cX2_hasElements 24 = .ok (.iconst 1, 1) := by decide +kernel
theorem dX2_hasElements_25 : decode cX2_hasElements 25 = .ok (.goto 4, 3) := by decide +kernel
theorem dX2_hasElements_28 : decode cX2_hasElements 28 = .ok (.iconst 0, 1) := by decide +kernel
theorem dX2_hasElements_29 : decode cX2_hasElements 29 = .ok (.ireturn, 1) := by decide +kernel
theorem dX2_put_0 : decode cX2_put 0 = .ok (.aload_n 0, 1) := by decide +kernel
theorem dX2_put_1 : decode cX2_put 1 = .ok (.getfield 9, 3) := by decide +kernel
theorem dX2_put_4 : decode cX2_put 4 = .ok (.tableswitch 94 0 4 #[36, 49, 62, 94, 74], 36) := by decide +kernel
theorem dX2_put_40 : decode cX2_put 40 = .ok (.aload_n 0, 1) := by decide +kernel
theorem dX2_put_41 : decode cX2_put 41 = .ok (.getfield 15, 3) := by decide +kernel
theorem dX2_put_44 : decode cX2_put 44 = .ok (.iload_n 1, 1) := by decide +kernel
theorem dX2_put_45 : decode cX2_put 45 = .ok (.lload_n 2, 1) := by decide +kernel
theorem dX2_put_46 : decode cX2_put 46 = .ok (.l2i, 1) := by decide +kernel
theorem dX2_put_47 : decode cX2_put 47 = .ok (.i2b, 1) := by decide +kernel
theorem dX2_put_48 : decode cX2_put 48 = .ok (.i2l, 1) := by decide +kernel
theorem dX2_put_49 : decode cX2_put 49 = .ok (.lastore, 1) := by decide +kernel
theorem dX2_put_50 : decode cX2_put 50 = .ok (.goto 55, 3) := by decide +kernel
theorem dX2_put_53 : decode cX2_put 53 = .ok (.aload_n 0, 1) := by decide +kernel
theorem dX2_put_54 : decode cX2_put 54 = .ok (.getfield 15, 3) := by decide +kernel
theorem dX2_put_57 : decode cX2_put 57 = .ok (.iload_n 1, 1) := by decide +kernel
theorem dX2_put_58 : decode cX2_put 58 = .ok (.lload_n 2, 1) := by decide +kernel
theorem dX2_put_59 : decode cX2_put 59 = .ok (.l2i, 1) := by decide +kernel
theorem dX2_put_60 : decode cX2_put 60 = .ok (.i2s, 1) := by decide +kernel
theorem dX2_put_61 : decode cX2_put 61 = .ok (.i2l, 1) := by decide +kernel
theorem dX2_put_62 : decode cX2_put 62 = .ok (.lastore, 1) := by decide +kernel
theorem dX2_put_63 : decode cX2_put 63 = .ok (.goto 42, 3) := by decide +kernel
theorem dX2_put_66 : decode cX2_put 66 = .ok (.aload_n 0, 1) := by decide +kernel
theorem dX2_put_67 : decode cX2_put 67 = .ok (.getfield 15, 3) := by decide +kernel
theorem dX2_put_70 : decode cX2_put 70 = .ok (.iload_n 1, 1) := by decide +kernel
theorem dX2_put_71 : decode cX2_put 71 = .ok (.lload_n 2, 1) := by decide +kernel
theorem dX2_put_72 : decode cX2_put 72 = .ok (.l2i, 1) := by decide +kernel
theorem dX2_put_73 : decode cX2_put 73 = .ok (.i2l, 1) := by decide +kernel
theorem dX2_put_74 : decode cX2_put 74 = .ok (.lastore, 1) := by decide +kernel
theorem dX2_put_75 : decode cX2_put 75 = .ok (.goto 30, 3) := by decide +kernel
theorem dX2_put_78 : decode cX2_put 78 = .ok (.aload_n 0, 1) := by decide +kernel
theorem dX2_put_79 : decode cX2_put 79 = .ok (.getfield 15, 3) := by decide +kernel
theorem dX2_put_82 : decode cX2_put 82 = .ok (.iload_n 1, 1) := by decide +kernel
theorem dX2_put_83 : decode cX2_put 83 = .ok (.lload_n 2, 1) := by decide +kernel
theorem dX2_put_84 : decode cX2_put 84 = .ok (.lconst 0, 1) := by decide +kernel
theorem dX2_put_85 : decode cX2_put 85 = .ok (.lcmp, 1) := by decide +kernel
theorem dX2_put_86 : decode cX2_put 86 = .ok (.ifCond .eq 7, 3) := by decide +kernel
theorem dX2_put_89 : decode cX2_put 89 = .ok (.lconst 1, 1) := by decide +kernel
theorem dX2_put_90 : decode cX2_put 90 = .ok (.goto 4, 3) := by decide +kernel
theorem dX2_put_93 : decode cX2_put 93 = .ok (.lconst 0, 1) := by decide +kernel
theorem dX2_put_94 : decode cX2_put 94 = .ok (.lastore, 1) := by decide +kernel
theorem dX2_put_95 : decode cX2_put 95 = .ok (.goto 10, 3) := by decide +kernel
theorem dX2_put_98 : decode cX2_put 98 = .ok (.aload_n 0, 1) := by decide +kernel
theorem dX2_put_99 : decode cX2_put 99 = .ok (.getfield 15, 3) := by decide +kernel
theorem dX2_put_102 : decode cX2_put 102 = .ok (.iload_n 1, 1) := by decide +kernel
theorem dX2_put_103 : decode cX2_put 103 = .ok (.lload_n 2, 1) := by decide +kernel
theorem dX2_put_104 : decode cX2_put 104 = .ok (.lastore, 1) := by decide +kernel
theorem dX2_put_105 : decode cX2_put 105 = .ok (.return_, 1) := by decide +kernel
theorem dX2_slipAt_0 : decode cX2_slipAt 0 = .ok (.aload_n 0, 1) := by decide +kernel
theorem dX2_slipAt_1 : decode cX2_slipAt 1 = .ok (.iload_n 1, 1) := by decide +kernel
theorem dX2_slipAt_2 : decode cX2_slipAt 2 = .ok (.invokevirtual 35, 3) := by decide +kernel
theorem dX2_slipAt_5 : decode cX2_slipAt 5 = .ok (.ifCond .ne 5, 3) := by decide +kernel
theorem dX2_slipAt_8 : decode cX2_slipAt 8 = .ok (.iconst (-1), 1) := by decide +kernel
theorem dX2_slipAt_9 : decode cX2_slipAt 9 = .ok (.ireturn, 1) := by decide +kernel
theorem dX2_slipAt_10 : decode cX2_slipAt 10 = .ok (.aload_n 0, 1) := by decide +kernel
theorem dX2_slipAt_11 : decode cX2_slipAt 11 = .ok (.getfield 15, 3) := by decide +kernel
theorem dX2_slipAt_14 : decode cX2_slipAt 14 = .ok (.iload_n 1, 1) := by decide +kernel
theorem dX2_slipAt_15 : decode cX2_slipAt 15 = .ok (.laload, 1) := by decide +kernel
theorem dX2_slipAt_16 : decode cX2_slipAt 16 = .ok (.lconst 0, 1) := by decide +kernel
theorem dX2_slipAt_17 : decode cX2_slipAt 17 = .ok (.lcmp, 1) := by decide +kernel
theorem dX2_slipAt_18 : decode cX2_slipAt 18 = .ok (.ifCond .ne 7, 3) := by decide +kernel
theorem dX2_slipAt_21 : decode cX2_slipAt 21 = .ok (.iconst 0, 1) := by decide +kernel
theorem dX2_slipAt_22 : decode cX2_slipAt 22 = .ok (.goto 19, 3) := by decide +kernel
theorem dX2_slipAt_25 : decode cX2_slipAt 25 = .ok (.aload_n 0, 1) := by decide +kernel
theorem dX2_slipAt_26 : decode cX2_slipAt 26 = .ok (.getfield 15, 3) := by decide +kernel
theorem dX2_slipAt_29 : decode cX2_slipAt 29 = .ok (.iload_n 1, 1) := by decide +kernel
theorem dX2_slipAt_30 : decode cX2_slipAt 30 = .ok (.laload, 1) := by decide +kernel
theorem dX2_slipAt_31 : decode cX2_slipAt 31 = .ok (.lconst 1, 1) := by decide +kernel
theorem dX2_slipAt_32 : decode cX2_slipAt 32 = .ok (.lcmp, 1) := by decide +kernel
theorem dX2_slipAt_33 : decode cX2_slipAt 33 = .ok (.ifCond .ne 7, 3) := by decide +kernel
theorem dX2_slipAt_36 : decode cX2_slipAt 36 = .ok (.iconst 1, 1) := by decide +kernel
theorem dX2_slipAt_37 : decode cX2_slipAt 37 = .ok (.goto 4, 3) := by decide +kernel
theorem dX2_slipAt_40 : decode cX2_slipAt 40 = .ok (.iconst (-1), 1) := by decide +kernel
theorem dX2_slipAt_41 : decode cX2_slipAt 41 = .ok (.ireturn, 1) := by decide +kernel
