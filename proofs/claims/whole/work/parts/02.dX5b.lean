theorem dX5_look_222 : decode cX5_look 222 = .ok (.iconst 1, 1) := by decide +kernel
theorem dX5_look_223 : decode cX5_look 223 = .ok (.iadd, 1) := by decide +kernel
theorem dX5_look_224 : decode cX5_look 224 = .ok (.putfield 162, 3) := by decide +kernel
theorem dX5_look_227 : decode cX5_look 227 = .ok (.goto (-78), 3) := by decide +kernel
theorem dX5_look_230 : decode cX5_look 230 = .ok (.aload_n 0, 1) := by decide +kernel
theorem dX5_look_231 : decode cX5_look 231 = .ok (.aload_n 0, 1) := by decide +kernel
theorem dX5_look_232 : decode cX5_look 232 = .ok (.getfield 34, 3) := by decide +kernel
theorem dX5_look_235 : decode cX5_look 235 = .ok (.aload_n 0, 1) := by decide +kernel
theorem dX5_look_236 : decode cX5_look 236 = .ok (.getfield 162, 3) := by decide +kernel
theorem dX5_look_239 : decode cX5_look 239 = .ok (.iaload, 1) := by decide +kernel
theorem dX5_look_240 : decode cX5_look 240 = .ok (.bipush 59, 2) := by decide +kernel
theorem dX5_look_242 : decode cX5_look 242 = .ok (.if_icmp .ne 7, 3) := by decide +kernel
theorem dX5_look_245 : decode cX5_look 245 = .ok (.iconst 3, 1) := by decide +kernel
theorem dX5_look_246 : decode cX5_look 246 = .ok (.goto 4, 3) := by decide +kernel
theorem dX5_look_249 : decode cX5_look 249 = .ok (.iconst 4, 1) := by decide +kernel
theorem dX5_look_250 : decode cX5_look 250 = .ok (.putfield 171, 3) := by decide +kernel
theorem dX5_look_253 : decode cX5_look 253 = .ok (.aload_n 0, 1) := by decide +kernel
theorem dX5_look_254 : decode cX5_look 254 = .ok (.dup, 1) := by decide +kernel
theorem dX5_look_255 : decode cX5_look 255 = .ok (.getfield 162, 3) := by decide +kernel
theorem dX5_look_258 : decode cX5_look 258 = .ok (.iconst 1, 1) := by decide +kernel
theorem dX5_look_259 : decode cX5_look 259 = .ok (.iadd, 1) := by decide +kernel
theorem dX5_look_260 : decode cX5_look 260 = .ok (.putfield 162, 3) := by decide +kernel
theorem dX5_look_263 : decode cX5_look 263 = .ok (.return_, 1) := by decide +kernel
theorem dX5_wrong_0 : decode cX5_wrong 0 = .ok (.aload_n 0, 1) := by decide +kernel
theorem dX5_wrong_1 : decode cX5_wrong 1 = .ok (.aload_n 0, 1) := by decide +kernel
theorem dX5_wrong_2 : decode cX5_wrong 2 = .ok (.getfield 165, 3) := by decide +kernel
theorem dX5_wrong_5 : decode cX5_wrong 5 = .ok (.putfield 182, 3) := by decide +kernel
theorem dX5_wrong_8 : decode cX5_wrong 8 = .ok (.iconst 0, 1) := by decide +kernel
theorem dX5_wrong_9 : decode cX5_wrong 9 = .ok (.ireturn, 1) := by decide +kernel
theorem dX5_isWord_0 : decode cX5_isWord 0 = .ok (.aload_n 0, 1) := by decide +kernel
theorem dX5_isWord_1 : decode cX5_isWord 1 = .ok (.getfield 171, 3) := by decide +kernel
theorem dX5_isWord_4 : decode cX5_isWord 4 = .ok (.iconst 1, 1) := by decide +kernel
theorem dX5_isWord_5 : decode cX5_isWord 5 = .ok (.if_icmp .ne 19, 3) := by decide +kernel
theorem dX5_isWord_8 : decode cX5_isWord 8 = .ok (.aload_n 0, 1) := by decide +kernel
theorem dX5_isWord_9 : decode cX5_isWord 9 = .ok (.getfield 162, 3) := by decide +kernel
theorem dX5_isWord_12 : decode cX5_isWord 12 = .ok (.aload_n 0, 1) := by decide +kernel
theorem dX5_isWord_13 : decode cX5_isWord 13 = .ok (.getfield 165, 3) := by decide +kernel
theorem dX5_isWord_16 : decode cX5_isWord 16 = .ok (.isub, 1) := by decide +kernel
theorem dX5_isWord_17 : decode cX5_isWord 17 = .ok (.aload_n 1, 1) := by decide +kernel
theorem dX5_isWord_18 : decode cX5_isWord 18 = .ok (.invokevirtual 185, 3) := by decide +kernel
theorem dX5_isWord_21 : decode cX5_isWord 21 = .ok (.if_icmp .eq 5, 3) := by decide +kernel
theorem dX5_isWord_24 : decode cX5_isWord 24 = .ok (.iconst 0, 1) := by decide +kernel
theorem dX5_isWord_25 : decode cX5_isWord 25 = .ok (.ireturn, 1) := by decide +kernel
theorem dX5_isWord_26 : decode cX5_isWord 26 = .ok (.iconst 0, 1) := by decide +kernel
theorem dX5_isWord_27 : decode cX5_isWord 27 = .ok (.istore_n 2, 1) := by decide +kernel
theorem dX5_isWord_28 : decode cX5_isWord 28 = .ok (.iload_n 2, 1) := by decide +kernel
theorem dX5_isWord_29 : decode cX5_isWord 29 = .ok (.aload_n 1, 1) := by decide +kernel
theorem dX5_isWord_30 : decode cX5_isWord 30 = .ok (.invokevirtual 185, 3) := by decide +kernel
theorem dX5_isWord_33 : decode cX5_isWord 33 = .ok (.if_icmp .ge 30, 3) := by decide +kernel
theorem dX5_isWord_36 : decode cX5_isWord 36 = .ok (.aload_n 0, 1) := by decide +kernel
theorem dX5_isWord_37 : decode cX5_isWord 37 = .ok (.getfield 34, 3) := by decide +kernel
theorem dX5_isWord_40 : decode cX5_isWord 40 = .ok (.aload_n 0, 1) := by decide +kernel
theorem dX5_isWord_41 : decode cX5_isWord 41 = .ok (.getfield 165, 3) := by decide +kernel
theorem dX5_isWord_44 : decode cX5_isWord 44 = .ok (.iload_n 2, 1) := by decide +kernel
theorem dX5_isWord_45 : decode cX5_isWord 45 = .ok (.iadd, 1) := by decide +kernel
theorem dX5_isWord_46 : decode cX5_isWord 46 = .ok (.iaload, 1) := by decide +kernel
theorem dX5_isWord_47 : decode cX5_isWord 47 = .ok (.aload_n 1, 1) := by decide +kernel
theorem dX5_isWord_48 : decode cX5_isWord 48 = .ok (.iload_n 2, 1) := by decide +kernel
theorem dX5_isWord_49 : decode cX5_isWord 49 = .ok (.invokevirtual 190, 3) := by decide +kernel
theorem dX5_isWord_52 : decode cX5_isWord 52 = .ok (.if_icmp .eq 5, 3) := by decide +kernel
theorem dX5_isWord_55 : decode cX5_isWord 55 = .ok (.iconst 0, 1) := by decide +kernel
theorem dX5_isWord_56 : decode cX5_isWord 56 = .ok (.ireturn, 1) := by decide +kernel
theorem dX5_isWord_57 : decode cX5_isWord 57 = .ok (.iinc 2 1, 3) := by decide +kernel
theorem dX5_isWord_60 : decode cX5_isWord 60 = .ok (.goto (-32), 3) := by decide +kernel
theorem dX5_isWord_63 : decode cX5_isWord 63 = .ok (.iconst 1, 1) := by decide +kernel
theorem dX5_isWord_64 : decode cX5_isWord 64 = .ok (.ireturn, 1) := by decide +kernel
theorem dX5_number_0 : decode cX5_number 0 = .ok (.aload_n 0, 1) := by decide +kernel
theorem dX5_number_1 : decode cX5_number 1 = .ok (.getfield 171, 3) := by decide +kernel
theorem dX5_number_4 : decode cX5_number 4 = .ok (.iconst 2, 1) := by decide +kernel
theorem dX5_number_5 : decode cX5_number 5 = .ok (.if_icmp .ne 18, 3) := by decide +kernel
theorem dX5_number_8 : decode cX5_number 8 = .ok (.aload_n 0, 1) := by decide +kernel
theorem dX5_number_9 : decode cX5_number 9 = .ok (.getfield 168, 3) := by decide +kernel
theorem dX5_number_12 : decode cX5_number 12 = .ok (.i2l, 1) := by decide +kernel
theorem dX5_number_13 : decode cX5_number 13 = .ok (.iload_n 2, 1) := by decide +kernel
theorem dX5_number_14 : decode cX5_number 14 = .ok (.i2l, 1) := by decide +kernel
theorem dX5_number_15 : decode cX5_number 15 = .ok (.iload_n 3, 1) := by decide +kernel
theorem dX5_number_16 : decode cX5_number 16 = .ok (.i2l, 1) := by decide +kernel
theorem dX5_number_17 : decode cX5_number 17 = .ok (.invokestatic 95, 3) := by decide +kernel
theorem dX5_number_20 : decode cX5_number 20 = .ok (.ifCond .ne 8, 3) := by decide +kernel
theorem dX5_number_23 : decode cX5_number 23 = .ok (.aload_n 0, 1) := by decide +kernel
theorem dX5_number_24 : decode cX5_number 24 = .ok (.invokevirtual 194, 3) := by decide +kernel
theorem dX5_number_27 : decode cX5_number 27 = .ok (.ireturn, 1) := by decide +kernel
theorem dX5_number_28 : decode cX5_number 28 = .ok (.aload_n 0, 1) := by decide +kernel
theorem dX5_number_29 : decode cX5_number 29 = .ok (.getfield 61, 3) := by decide +kernel
theorem dX5_number_32 : decode cX5_number 32 = .ok (.iload_n 1, 1) := by decide +kernel
theorem dX5_number_33 : decode cX5_number 33 = .ok (.aload_n 0, 1) := by decide +kernel
theorem dX5_number_34 : decode cX5_number 34 = .ok (.getfield 168, 3) := by decide +kernel
theorem dX5_number_37 : decode cX5_number 37 = .ok (.iastore, 1) := by decide +kernel
theorem dX5_number_38 : decode cX5_number 38 = .ok (.aload_n 0, 1) := by decide +kernel
theorem dX5_number_39 : decode cX5_number 39 = .ok (.invokevirtual 198, 3) := by decide +kernel
theorem dX5_number_42 : decode cX5_number 42 = .ok (.iconst 1, 1) := by decide +kernel
theorem dX5_number_43 : decode cX5_number 43 = .ok (.ireturn, 1) := by decide +kernel
theorem dX5_tells_0 : decode cX5_tells 0 = .ok (.aload_n 0, 1) := by decide +kernel
theorem dX5_tells_1 : decode cX5_tells 1 = .ok (.invokevirtual 198, 3) := by decide +kernel
theorem dX5_tells_4 : decode cX5_tells 4 = .ok (.aload_n 0, 1) := by decide +kernel
theorem dX5_tells_5 : decode cX5_tells 5 = .ok (.iconst 0, 1) := by decide +kernel
theorem dX5_tells_6 : decode cX5_tells 6 = .ok (.iload_n 1, 1) := by decide +kernel
theorem dX5_tells_7 : decode cX5_tells 7 = .ok (.iload_n 2, 1) := by decide +kernel
theorem dX5_tells_8 : decode cX5_tells 8 = .ok (.invokevirtual 201, 3) := by decide +kernel
theorem dX5_tells_11 : decode cX5_tells 11 = .ok (.ireturn, 1) := by decide +kernel
theorem dX5_heapTold_0 : decode cX5_heapTold 0 = .ok (.aload_n 0, 1) := by decide +kernel
theorem dX5_heapTold_1 : decode cX5_heapTold 1 = .ok (.iconst 0, 1) := by decide +kernel
theorem dX5_heapTold_2 : decode cX5_heapTold 2 = .ok (.bipush 9, 2) := by decide +kernel
theorem dX5_heapTold_4 : decode cX5_heapTold 4 = .ok (.invokevirtual 205, 3) := by decide +kernel
theorem dX5_heapTold_7 : decode cX5_heapTold 7 = .ok (.ifCond .ne 5, 3) := by decide +kernel
theorem dX5_heapTold_10 : decode cX5_heapTold 10 = .ok (.iconst 0, 1) := by decide +kernel
theorem dX5_heapTold_11 : decode cX5_heapTold 11 = .ok (.ireturn, 1) := by decide +kernel
theorem dX5_heapTold_12 : decode cX5_heapTold 12 = .ok (.bipush 24, 2) := by decide +kernel
theorem dX5_heapTold_14 : decode cX5_heapTold 14 = .ok (.aload_n 0, 1) := by decide +kernel
theorem dX5_heapTold_15 : decode cX5_heapTold 15 = .ok (.invokevirtual 140, 3) := by decide +kernel
theorem dX5_heapTold_18 : decode cX5_heapTold 18 = .ok (.isub, 1) := by decide +kernel
theorem dX5_heapTold_19 : decode cX5_heapTold 19 = .ok (.aload_n 0, 1) := by decide +kernel
theorem dX5_heapTold_20 : decode cX5_heapTold 20 = .ok (.getfield 61, 3) := by decide +kernel
theorem dX5_heapTold_23 : decode cX5_heapTold 23 = .ok (.iconst 0, 1) := by decide +kernel
theorem dX5_heapTold_24 : decode cX5_heapTold 24 = .ok (.iaload, 1) := by decide +kernel
theorem dX5_heapTold_25 : decode cX5_heapTold 25 = .ok (.isub, 1) := by decide +kernel
theorem dX5_heapTold_26 : decode cX5_heapTold 26 = .ok (.istore_n 1, 1) := by decide +kernel
theorem dX5_heapTold_27 : decode cX5_heapTold 27 = .ok (.aload_n 0, 1) := by decide +kernel
theorem dX5_heapTold_28 : decode cX5_heapTold 28 = .ok (.iconst 1, 1) := by decide +kernel
theorem dX5_heapTold_29 : decode cX5_heapTold 29 = .ok (.aload_n 0, 1) := by decide +kernel
theorem dX5_heapTold_30 : decode cX5_heapTold 30 = .ok (.getfield 61, 3) := by decide +kernel
theorem dX5_heapTold_33 : decode cX5_heapTold 33 = .ok (.iconst 0, 1) := by decide +kernel
theorem dX5_heapTold_34 : decode cX5_heapTold 34 = .ok (.iaload, 1) := by decide +kernel
theorem dX5_heapTold_35 : decode cX5_heapTold 35 = .ok (.ifCond .ne 7, 3) := by decide +kernel
theorem dX5_heapTold_38 : decode cX5_heapTold 38 = .ok (.iconst 1, 1) := by decide +kernel
theorem dX5_heapTold_39 : decode cX5_heapTold 39 = .ok (.goto 4, 3) := by decide +kernel
theorem dX5_heapTold_42 : decode cX5_heapTold 42 = .ok (.iconst 0, 1) := by decide +kernel
theorem dX5_heapTold_43 : decode cX5_heapTold 43 = .ok (.iload_n 1, 1) := by decide +kernel
theorem dX5_heapTold_44 : decode cX5_heapTold 44 = .ok (.bipush 9, 2) := by decide +kernel
theorem dX5_heapTold_46 : decode cX5_heapTold 46 = .ok (.if_icmp .ge 7, 3) := by decide +kernel
theorem dX5_heapTold_49 : decode cX5_heapTold 49 = .ok (.iload_n 1, 1) := by decide +kernel
theorem dX5_heapTold_50 : decode cX5_heapTold 50 = .ok (.goto 5, 3) := by decide +kernel
theorem dX5_heapTold_53 : decode cX5_heapTold 53 = .ok (.bipush 9, 2) := by decide +kernel
theorem dX5_heapTold_55 : decode cX5_heapTold 55 = .ok (.invokevirtual 201, 3) := by decide +kernel
theorem dX5_heapTold_58 : decode cX5_heapTold 58 = .ok (.ifCond .ne 5, 3) := by decide +kernel
theorem dX5_heapTold_61 : decode cX5_heapTold 61 = .ok (.iconst 0, 1) := by decide +kernel
theorem dX5_heapTold_62 : decode cX5_heapTold 62 = .ok (.ireturn, 1) := by decide +kernel
theorem dX5_heapTold_63 : decode cX5_heapTold 63 = .ok (.aload_n 0, 1) := by decide +kernel
theorem dX5_heapTold_64 : decode cX5_heapTold 64 = .ok (.aload_n 0, 1) := by decide +kernel
theorem dX5_heapTold_65 : decode cX5_heapTold 65 = .ok (.getfield 61, 3) := by decide +kernel
theorem dX5_heapTold_68 : decode cX5_heapTold 68 = .ok (.iconst 0, 1) := by decide +kernel
theorem dX5_heapTold_69 : decode cX5_heapTold 69 = .ok (.iaload, 1) := by decide +kernel
theorem dX5_heapTold_70 : decode cX5_heapTold 70 = .ok (.aload_n 0, 1) := by decide +kernel
theorem dX5_heapTold_71 : decode cX5_heapTold 71 = .ok (.getfield 61, 3) := by decide +kernel
theorem dX5_heapTold_74 : decode cX5_heapTold 74 = .ok (.iconst 1, 1) := by decide +kernel
theorem dX5_heapTold_75 : decode cX5_heapTold 75 = .ok (.iaload, 1) := by decide +kernel
theorem dX5_heapTold_76 : decode cX5_heapTold 76 = .ok (.invokevirtual 143, 3) := by decide +kernel
theorem dX5_heapTold_79 : decode cX5_heapTold 79 = .ok (.iconst 1, 1) := by decide +kernel
theorem dX5_heapTold_80 : decode cX5_heapTold 80 = .ok (.ireturn, 1) := by decide +kernel
theorem dX5_readTold_0 : decode cX5_readTold 0 = .ok (.aload_n 0, 1) := by decide +kernel
theorem dX5_readTold_1 : decode cX5_readTold 1 = .ok (.invokevirtual 198, 3) := by decide +kernel
theorem dX5_readTold_4 : decode cX5_readTold 4 = .ok (.aload_n 0, 1) := by decide +kernel
theorem dX5_readTold_5 : decode cX5_readTold 5 = .ok (.getfield 171, 3) := by decide +kernel
theorem dX5_readTold_8 : decode cX5_readTold 8 = .ok (.iconst 1, 1) := by decide +kernel
theorem dX5_readTold_9 : decode cX5_readTold 9 = .ok (.if_icmp .eq 8, 3) := by decide +kernel
theorem dX5_readTold_12 : decode cX5_readTold 12 = .ok (.aload_n 0, 1) := by decide +kernel
theorem dX5_readTold_13 : decode cX5_readTold 13 = .ok (.invokevirtual 194, 3) := by decide +kernel
theorem dX5_readTold_16 : decode cX5_readTold 16 = .ok (.ireturn, 1) := by decide +kernel
theorem dX5_readTold_17 : decode cX5_readTold 17 = .ok (.aload_n 0, 1) := by decide +kernel
theorem dX5_readTold_18 : decode cX5_readTold 18 = .ok (.getfield 165, 3) := by decide +kernel
theorem dX5_readTold_21 : decode cX5_readTold 21 = .ok (.istore_n 1, 1) := by decide +kernel
theorem dX5_readTold_22 : decode cX5_readTold 22 = .ok (.iload_n 1, 1) := by decide +kernel
theorem dX5_readTold_23 : decode cX5_readTold 23 = .ok (.aload_n 0, 1) := by decide +kernel
theorem dX5_readTold_24 : decode cX5_readTold 24 = .ok (.getfield 162, 3) := by decide +kernel
theorem dX5_readTold_27 : decode cX5_readTold 27 = .ok (.if_icmp .ge 79, 3) := by decide +kernel
theorem dX5_readTold_30 : decode cX5_readTold 30 = .ok (.aload_n 0, 1) := by decide +kernel
theorem dX5_readTold_31 : decode cX5_readTold 31 = .ok (.getfield 34, 3) := by decide +kernel
theorem dX5_readTold_34 : decode cX5_readTold 34 = .ok (.iload_n 1, 1) := by decide +kernel
theorem dX5_readTold_35 : decode cX5_readTold 35 = .ok (.iaload, 1) := by decide +kernel
theorem dX5_readTold_36 : decode cX5_readTold 36 = .ok (.bipush 97, 2) := by decide +kernel
theorem dX5_readTold_38 : decode cX5_readTold 38 = .ok (.if_icmp .ne 7, 3) := by decide +kernel
theorem dX5_readTold_41 : decode cX5_readTold 41 = .ok (.iconst 1, 1) := by decide +kernel
theorem dX5_readTold_42 : decode cX5_readTold 42 = .ok (.goto 4, 3) := by decide +kernel
theorem dX5_readTold_45 : decode cX5_readTold 45 = .ok (.iconst 0, 1) := by decide +kernel
theorem dX5_readTold_46 : decode cX5_readTold 46 = .ok (.istore_n 2, 1) := by decide +kernel
theorem dX5_readTold_47 : decode cX5_readTold 47 = .ok (.iload_n 2, 1) := by decide +kernel
theorem dX5_readTold_48 : decode cX5_readTold 48 = .ok (.ifCond .ne 14, 3) := by decide +kernel
theorem dX5_readTold_51 : decode cX5_readTold 51 = .ok (.aload_n 0, 1) := by decide +kernel
theorem dX5_readTold_52 : decode cX5_readTold 52 = .ok (.getfield 34, 3) := by decide +kernel
theorem dX5_readTold_55 : decode cX5_readTold 55 = .ok (.iload_n 1, 1) := by decide +kernel
theorem dX5_readTold_56 : decode cX5_readTold 56 = .ok (.iaload, 1) := by decide +kernel
theorem dX5_readTold_57 : decode cX5_readTold 57 = .ok (.bipush 98, 2) := by decide +kernel
theorem dX5_readTold_59 : decode cX5_readTold 59 = .ok (.if_icmp .ne 11, 3) := by decide +kernel
theorem dX5_readTold_62 : decode cX5_readTold 62 = .ok (.aload_n 0, 1) := by decide +kernel
theorem dX5_readTold_63 : decode cX5_readTold 63 = .ok (.iload_n 2, 1) := by decide +kernel
theorem dX5_readTold_64 : decode cX5_readTold 64 = .ok (.invokevirtual 208, 3) := by decide +kernel
theorem dX5_readTold_67 : decode cX5_readTold 67 = .ok (.ifCond .ne 8, 3) := by decide +kernel
theorem dX5_readTold_70 : decode cX5_readTold 70 = .ok (.aload_n 0, 1) := by decide +kernel
theorem dX5_readTold_71 : decode cX5_readTold 71 = .ok (.invokevirtual 194, 3) := by decide +kernel
theorem dX5_readTold_74 : decode cX5_readTold 74 = .ok (.ireturn, 1) := by decide +kernel
theorem dX5_readTold_75 : decode cX5_readTold 75 = .ok (.aload_n 0, 1) := by decide +kernel
theorem dX5_readTold_76 : decode cX5_readTold 76 = .ok (.getfield 54, 3) := by decide +kernel
theorem dX5_readTold_79 : decode cX5_readTold 79 = .ok (.aload_n 0, 1) := by decide +kernel
theorem dX5_readTold_80 : decode cX5_readTold 80 = .ok (.dup, 1) := by decide +kernel
theorem dX5_readTold_81 : decode cX5_readTold 81 = .ok (.getfield 137, 3) := by decide +kernel
theorem dX5_readTold_84 : decode cX5_readTold 84 = .ok (.dup_x1, 1) := by decide +kernel
theorem dX5_readTold_85 : decode cX5_readTold 85 = .ok (.iconst 1, 1) := by decide +kernel
theorem dX5_readTold_86 : decode cX5_readTold 86 = .ok (.iadd, 1) := by decide +kernel
theorem dX5_readTold_87 : decode cX5_readTold 87 = .ok (.putfield 137, 3) := by decide +kernel
theorem dX5_readTold_90 : decode cX5_readTold 90 = .ok (.iload_n 2, 1) := by decide +kernel
theorem dX5_readTold_91 : decode cX5_readTold 91 = .ok (.ifCond .eq 7, 3) := by decide +kernel
theorem dX5_readTold_94 : decode cX5_readTold 94 = .ok (.iconst 1, 1) := by decide +kernel
theorem dX5_readTold_95 : decode cX5_readTold 95 = .ok (.goto 4, 3) := by decide +kernel
theorem dX5_readTold_98 : decode cX5_readTold 98 = .ok (.iconst 0, 1) := by decide +kernel
theorem dX5_readTold_99 : decode cX5_readTold 99 = .ok (.iastore, 1) := by decide +kernel
theorem dX5_readTold_100 : decode cX5_readTold 100 = .ok (.iinc 1 1, 3) := by decide +kernel
theorem dX5_readTold_103 : decode cX5_readTold 103 = .ok (.goto (-81), 3) := by decide +kernel
theorem dX5_readTold_106 : decode cX5_readTold 106 = .ok (.aload_n 0, 1) := by decide +kernel
theorem dX5_readTold_107 : decode cX5_readTold 107 = .ok (.invokevirtual 198, 3) := by decide +kernel
theorem dX5_readTold_110 : decode cX5_readTold 110 = .ok (.iconst 1, 1) := by decide +kernel
theorem dX5_readTold_111 : decode cX5_readTold 111 = .ok (.ireturn, 1) := by decide +kernel
theorem dX5_swapTold_0 : decode cX5_swapTold 0 = .ok (.aload_n 0, 1) := by decide +kernel
theorem dX5_swapTold_1 : decode cX5_swapTold 1 = .ok (.iconst 0, 1) := by decide +kernel
theorem dX5_swapTold_2 : decode cX5_swapTold 2 = .ok (.aload_n 0, 1) := by decide +kernel
theorem dX5_swapTold_3 : decode cX5_swapTold 3 = .ok (.getfield 130, 3) := by decide +kernel
theorem dX5_swapTold_6 : decode cX5_swapTold 6 = .ok (.iconst 1, 1) := by decide +kernel
theorem dX5_swapTold_7 : decode cX5_swapTold 7 = .ok (.isub, 1) := by decide +kernel
theorem dX5_swapTold_8 : decode cX5_swapTold 8 = .ok (.invokevirtual 205, 3) := by decide +kernel
theorem dX5_swapTold_11 : decode cX5_swapTold 11 = .ok (.ifCond .ne 5, 3) := by decide +kernel
theorem dX5_swapTold_14 : decode cX5_swapTold 14 = .ok (.iconst 0, 1) := by decide +kernel
theorem dX5_swapTold_15 : decode cX5_swapTold 15 = .ok (.ireturn, 1) := by decide +kernel
theorem dX5_swapTold_16 : decode cX5_swapTold 16 = .ok (.aload_n 0, 1) := by decide +kernel
theorem dX5_swapTold_17 : decode cX5_swapTold 17 = .ok (.getfield 171, 3) := by decide +kernel
theorem dX5_swapTold_20 : decode cX5_swapTold 20 = .ok (.iconst 2, 1) := by decide +kernel
theorem dX5_swapTold_21 : decode cX5_swapTold 21 = .ok (.if_icmp .ne 16, 3) := by decide +kernel
theorem dX5_swapTold_24 : decode cX5_swapTold 24 = .ok (.aload_n 0, 1) := by decide +kernel
theorem dX5_swapTold_25 : decode cX5_swapTold 25 = .ok (.getfield 168, 3) := by decide +kernel
theorem dX5_swapTold_28 : decode cX5_swapTold 28 = .ok (.aload_n 0, 1) := by decide +kernel
theorem dX5_swapTold_29 : decode cX5_swapTold 29 = .ok (.getfield 61, 3) := by decide +kernel
theorem dX5_swapTold_32 : decode cX5_swapTold 32 = .ok (.iconst 0, 1) := by decide +kernel
theorem dX5_swapTold_33 : decode cX5_swapTold 33 = .ok (.iaload, 1) := by decide +kernel
theorem dX5_swapTold_34 : decode cX5_swapTold 34 = .ok (.if_icmp .eq 18, 3) := by decide +kernel
theorem dX5_swapTold_37 : decode cX5_swapTold 37 = .ok (.aload_n 0, 1) := by decide +kernel
theorem dX5_swapTold_38 : decode cX5_swapTold 38 = .ok (.iconst 1, 1) := by decide +kernel
theorem dX5_swapTold_39 : decode cX5_swapTold 39 = .ok (.iconst 0, 1) := by decide +kernel
theorem dX5_swapTold_40 : decode cX5_swapTold 40 = .ok (.aload_n 0, 1) := by decide +kernel
theorem dX5_swapTold_41 : decode cX5_swapTold 41 = .ok (.getfield 130, 3) := by decide +kernel
theorem dX5_swapTold_44 : decode cX5_swapTold 44 = .ok (.iconst 1, 1) := by decide +kernel
theorem dX5_swapTold_45 : decode cX5_swapTold 45 = .ok (.isub, 1) := by decide +kernel
theorem dX5_swapTold_46 : decode cX5_swapTold 46 = .ok (.invokevirtual 201, 3) := by decide +kernel
theorem dX5_swapTold_49 : decode cX5_swapTold 49 = .ok (.ifCond .ne 8, 3) := by decide +kernel
theorem dX5_swapTold_52 : decode cX5_swapTold 52 = .ok (.aload_n 0, 1) := by decide +kernel
theorem dX5_swapTold_53 : decode cX5_swapTold 53 = .ok (.invokevirtual 194, 3) := by decide +kernel
theorem dX5_swapTold_56 : decode cX5_swapTold 56 = .ok (.ireturn, 1) := by decide +kernel
theorem dX5_swapTold_57 : decode cX5_swapTold 57 = .ok (.aload_n 0, 1) := by decide +kernel
theorem dX5_swapTold_58 : decode cX5_swapTold 58 = .ok (.aload_n 0, 1) := by decide +kernel
theorem dX5_swapTold_59 : decode cX5_swapTold 59 = .ok (.getfield 61, 3) := by decide +kernel
theorem dX5_swapTold_62 : decode cX5_swapTold 62 = .ok (.iconst 0, 1) := by decide +kernel
theorem dX5_swapTold_63 : decode cX5_swapTold 63 = .ok (.iaload, 1) := by decide +kernel
theorem dX5_swapTold_64 : decode cX5_swapTold 64 = .ok (.aload_n 0, 1) := by decide +kernel
theorem dX5_swapTold_65 : decode cX5_swapTold 65 = .ok (.getfield 61, 3) := by decide +kernel
theorem dX5_swapTold_68 : decode cX5_swapTold 68 = .ok (.iconst 1, 1) := by decide +kernel
theorem dX5_swapTold_69 : decode cX5_swapTold 69 = .ok (.iaload, 1) := by decide +kernel
theorem dX5_swapTold_70 : decode cX5_swapTold 70 = .ok (.invokevirtual 154, 3) := by decide +kernel
theorem dX5_swapTold_73 : decode cX5_swapTold 73 = .ok (.iconst 1, 1) := by decide +kernel
theorem dX5_swapTold_74 : decode cX5_swapTold 74 = .ok (.ireturn, 1) := by decide +kernel
theorem dX5_statement_0 : decode cX5_statement 0 = .ok (.aload_n 0, 1) := by decide +kernel
theorem dX5_statement_1 : decode cX5_statement 1 = .ok (.ldc 212, 2) := by decide +kernel
theorem dX5_statement_3 : decode cX5_statement 3 = .ok (.invokevirtual 214, 3) := by decide +kernel
theorem dX5_statement_6 : decode cX5_statement 6 = .ok (.ifCond .eq 23, 3) := by decide +kernel
theorem dX5_statement_9 : decode cX5_statement 9 = .ok (.aload_n 0, 1) := by decide +kernel
theorem dX5_statement_10 : decode cX5_statement 10 = .ok (.getfield 137, 3) := by decide +kernel
theorem dX5_statement_13 : decode cX5_statement 13 = .ok (.ifCond .ne 16, 3) := by decide +kernel
theorem dX5_statement_16 : decode cX5_statement 16 = .ok (.aload_n 0, 1) := by decide +kernel
theorem dX5_statement_17 : decode cX5_statement 17 = .ok (.getfield 130, 3) := by decide +kernel
theorem dX5_statement_20 : decode cX5_statement 20 = .ok (.iconst 4, 1) := by decide +kernel
theorem dX5_statement_21 : decode cX5_statement 21 = .ok (.if_icmp .ge 8, 3) := by decide +kernel
theorem dX5_statement_24 : decode cX5_statement 24 = .ok (.aload_n 0, 1) := by decide +kernel
theorem dX5_statement_25 : decode cX5_statement 25 = .ok (.invokevirtual 218, 3) := by decide +kernel
theorem dX5_statement_28 : decode cX5_statement 28 = .ok (.ireturn, 1) := by decide +kernel
theorem dX5_statement_29 : decode cX5_statement 29 = .ok (.aload_n 0, 1) := by decide +kernel
theorem dX5_statement_30 : decode cX5_statement 30 = .ok (.ldc 221, 2) := by decide +kernel
theorem dX5_statement_32 : decode cX5_statement 32 = .ok (.invokevirtual 214, 3) := by decide +kernel
theorem dX5_statement_35 : decode cX5_statement 35 = .ok (.ifCond .eq 15, 3) := by decide +kernel
theorem dX5_statement_38 : decode cX5_statement 38 = .ok (.aload_n 0, 1) := by decide +kernel
theorem dX5_statement_39 : decode cX5_statement 39 = .ok (.getfield 137, 3) := by decide +kernel
theorem dX5_statement_42 : decode cX5_statement 42 = .ok (.ifCond .ne 8, 3) := by decide +kernel
theorem dX5_statement_45 : decode cX5_statement 45 = .ok (.aload_n 0, 1) := by decide +kernel
theorem dX5_statement_46 : decode cX5_statement 46 = .ok (.invokevirtual 223, 3) := by decide +kernel
theorem dX5_statement_49 : decode cX5_statement 49 = .ok (.ireturn, 1) := by decide +kernel
theorem dX5_statement_50 : decode cX5_statement 50 = .ok (.aload_n 0, 1) := by decide +kernel
theorem dX5_statement_51 : decode cX5_statement 51 = .ok (.ldc 226, 2) := by decide +kernel
theorem dX5_statement_53 : decode cX5_statement 53 = .ok (.invokevirtual 214, 3) := by decide +kernel
theorem dX5_statement_56 : decode cX5_statement 56 = .ok (.ifCond .eq 8, 3) := by decide +kernel
theorem dX5_statement_59 : decode cX5_statement 59 = .ok (.aload_n 0, 1) := by decide +kernel
theorem dX5_statement_60 : decode cX5_statement 60 = .ok (.invokevirtual 228, 3) := by decide +kernel
theorem dX5_statement_63 : decode cX5_statement 63 = .ok (.ireturn, 1) := by decide +kernel
theorem dX5_statement_64 : decode cX5_statement 64 = .ok (.aload_n 0, 1) := by decide +kernel
theorem dX5_statement_65 : decode cX5_statement 65 = .ok (.ldc 231, 2) := by decide +kernel
theorem dX5_statement_67 : decode cX5_statement 67 = .ok (.invokevirtual 214, 3) := by decide +kernel
theorem dX5_statement_70 : decode cX5_statement 70 = .ok (.ifCond .eq 11, 3) := by decide +kernel
theorem dX5_statement_73 : decode cX5_statement 73 = .ok (.aload_n 0, 1) := by decide +kernel
theorem dX5_statement_74 : decode cX5_statement 74 = .ok (.getfield 151, 3) := by decide +kernel
theorem dX5_statement_77 : decode cX5_statement 77 = .ok (.iconst 4, 1) := by decide +kernel
theorem dX5_statement_78 : decode cX5_statement 78 = .ok (.if_icmp .ne 8, 3) := by decide +kernel
theorem dX5_statement_81 : decode cX5_statement 81 = .ok (.aload_n 0, 1) := by decide +kernel
theorem dX5_statement_82 : decode cX5_statement 82 = .ok (.invokevirtual 194, 3) := by decide +kernel
theorem dX5_statement_85 : decode cX5_statement 85 = .ok (.ireturn, 1) := by decide +kernel
theorem dX5_statement_86 : decode cX5_statement 86 = .ok (.aload_n 0, 1) := by decide +kernel
theorem dX5_statement_87 : decode cX5_statement 87 = .ok (.iconst 0, 1) := by decide +kernel
theorem dX5_statement_88 : decode cX5_statement 88 = .ok (.iconst 3, 1) := by decide +kernel
theorem dX5_statement_89 : decode cX5_statement 89 = .ok (.invokevirtual 205, 3) := by decide +kernel
theorem dX5_statement_92 : decode cX5_statement 92 = .ok (.ifCond .eq 25, 3) := by decide +kernel
theorem dX5_statement_95 : decode cX5_statement 95 = .ok (.aload_n 0, 1) := by decide +kernel
theorem dX5_statement_96 : decode cX5_statement 96 = .ok (.iconst 1, 1) := by decide +kernel
theorem dX5_statement_97 : decode cX5_statement 97 = .ok (.iconst 0, 1) := by decide +kernel
theorem dX5_statement_98 : decode cX5_statement 98 = .ok (.bipush 24, 2) := by decide +kernel
theorem dX5_statement_100 : decode cX5_statement 100 = .ok (.invokevirtual 201, 3) := by decide +kernel
theorem dX5_statement_103 : decode cX5_statement 103 = .ok (.ifCond .eq 14, 3) := by decide +kernel
theorem dX5_statement_106 : decode cX5_statement 106 = .ok (.aload_n 0, 1) := by decide +kernel
theorem dX5_statement_107 : decode cX5_statement 107 = .ok (.iconst 2, 1) := by decide +kernel
theorem dX5_statement_108 : decode cX5_statement 108 = .ok (.iconst 0, 1) := by decide +kernel
theorem dX5_statement_109 : decode cX5_statement 109 = .ok (.bipush 24, 2) := by decide +kernel
theorem dX5_statement_111 : decode cX5_statement 111 = .ok (.invokevirtual 201, 3) := by decide +kernel
theorem dX5_statement_114 : decode cX5_statement 114 = .ok (.ifCond .ne 5, 3) := by decide +kernel
theorem dX5_statement_117 : decode cX5_statement 117 = .ok (.iconst 0, 1) := by decide +kernel
theorem dX5_statement_118 : decode cX5_statement 118 = .ok (.ireturn, 1) := by decide +kernel
theorem dX5_statement_119 : decode cX5_statement 119 = .ok (.aload_n 0, 1) := by decide +kernel
theorem dX5_statement_120 : decode cX5_statement 120 = .ok (.aload_n 0, 1) := by decide +kernel
theorem dX5_statement_121 : decode cX5_statement 121 = .ok (.getfield 61, 3) := by decide +kernel
theorem dX5_statement_124 : decode cX5_statement 124 = .ok (.iconst 0, 1) := by decide +kernel
theorem dX5_statement_125 : decode cX5_statement 125 = .ok (.iaload, 1) := by decide +kernel
theorem dX5_statement_126 : decode cX5_statement 126 = .ok (.aload_n 0, 1) := by decide +kernel
theorem dX5_statement_127 : decode cX5_statement 127 = .ok (.getfield 61, 3) := by decide +kernel
theorem dX5_statement_130 : decode cX5_statement 130 = .ok (.iconst 1, 1) := by decide +kernel
theorem dX5_statement_131 : decode cX5_statement 131 = .ok (.iaload, 1) := by decide +kernel
theorem dX5_statement_132 : decode cX5_statement 132 = .ok (.aload_n 0, 1) := by decide +kernel
theorem dX5_statement_133 : decode cX5_statement 133 = .ok (.getfield 61, 3) := by decide +kernel
theorem dX5_statement_136 : decode cX5_statement 136 = .ok (.iconst 2, 1) := by decide +kernel
theorem dX5_statement_137 : decode cX5_statement 137 = .ok (.iaload, 1) := by decide +kernel
theorem dX5_statement_138 : decode cX5_statement 138 = .ok (.invokevirtual 232, 3) := by decide +kernel
theorem dX5_statement_141 : decode cX5_statement 141 = .ok (.pop, 1) := by decide +kernel
theorem dX5_statement_142 : decode cX5_statement 142 = .ok (.iconst 1, 1) := by decide +kernel
theorem dX5_statement_143 : decode cX5_statement 143 = .ok (.ireturn, 1) := by decide +kernel
theorem dX5_readAll_0 : decode cX5_readAll 0 = .ok (.aload_n 0, 1) := by decide +kernel
theorem dX5_readAll_1 : decode cX5_readAll 1 = .ok (.iconst 1, 1) := by decide +kernel
theorem dX5_readAll_2 : decode cX5_readAll 2 = .ok (.putfield 235, 3) := by decide +kernel
theorem dX5_readAll_5 : decode cX5_readAll 5 = .ok (.aload_n 0, 1) := by decide +kernel
theorem dX5_readAll_6 : decode cX5_readAll 6 = .ok (.iconst 0, 1) := by decide +kernel
theorem dX5_readAll_7 : decode cX5_readAll 7 = .ok (.putfield 162, 3) := by decide +kernel
theorem dX5_readAll_10 : decode cX5_readAll 10 = .ok (.aload_n 0, 1) := by decide +kernel
theorem dX5_readAll_11 : decode cX5_readAll 11 = .ok (.invokevirtual 198, 3) := by decide +kernel
theorem dX5_readAll_14 : decode cX5_readAll 14 = .ok (.aload_n 0, 1) := by decide +kernel
theorem dX5_readAll_15 : decode cX5_readAll 15 = .ok (.invokevirtual 238, 3) := by decide +kernel
theorem dX5_readAll_18 : decode cX5_readAll 18 = .ok (.ifCond .ne 5, 3) := by decide +kernel
theorem dX5_readAll_21 : decode cX5_readAll 21 = .ok (.iconst 0, 1) := by decide +kernel
theorem dX5_readAll_22 : decode cX5_readAll 22 = .ok (.ireturn, 1) := by decide +kernel
theorem dX5_readAll_23 : decode cX5_readAll 23 = .ok (.aload_n 0, 1) := by decide +kernel
theorem dX5_readAll_24 : decode cX5_readAll 24 = .ok (.getfield 171, 3) := by decide +kernel
theorem dX5_readAll_27 : decode cX5_readAll 27 = .ok (.ifCond .eq 42, 3) := by decide +kernel
theorem dX5_readAll_30 : decode cX5_readAll 30 = .ok (.aload_n 0, 1) := by decide +kernel
theorem dX5_readAll_31 : decode cX5_readAll 31 = .ok (.getfield 171, 3) := by decide +kernel
theorem dX5_readAll_34 : decode cX5_readAll 34 = .ok (.iconst 3, 1) := by decide +kernel
theorem dX5_readAll_35 : decode cX5_readAll 35 = .ok (.if_icmp .eq 8, 3) := by decide +kernel
theorem dX5_readAll_38 : decode cX5_readAll 38 = .ok (.aload_n 0, 1) := by decide +kernel
theorem dX5_readAll_39 : decode cX5_readAll 39 = .ok (.invokevirtual 194, 3) := by decide +kernel
theorem dX5_readAll_42 : decode cX5_readAll 42 = .ok (.ireturn, 1) := by decide +kernel
theorem dX5_readAll_43 : decode cX5_readAll 43 = .ok (.aload_n 0, 1) := by decide +kernel
theorem dX5_readAll_44 : decode cX5_readAll 44 = .ok (.invokevirtual 198, 3) := by decide +kernel
theorem dX5_readAll_47 : decode cX5_readAll 47 = .ok (.aload_n 0, 1) := by decide +kernel
theorem dX5_readAll_48 : decode cX5_readAll 48 = .ok (.invokevirtual 238, 3) := by decide +kernel
theorem dX5_readAll_51 : decode cX5_readAll 51 = .ok (.ifCond .ne 5, 3) := by decide +kernel
theorem dX5_readAll_54 : decode cX5_readAll 54 = .ok (.iconst 0, 1) := by decide +kernel
theorem dX5_readAll_55 : decode cX5_readAll 55 = .ok (.ireturn, 1) := by decide +kernel
theorem dX5_readAll_56 : decode cX5_readAll 56 = .ok (.aload_n 0, 1) := by decide +kernel
theorem dX5_readAll_57 : decode cX5_readAll 57 = .ok (.dup, 1) := by decide +kernel
theorem dX5_readAll_58 : decode cX5_readAll 58 = .ok (.getfield 235, 3) := by decide +kernel
theorem dX5_readAll_61 : decode cX5_readAll 61 = .ok (.iconst 1, 1) := by decide +kernel
theorem dX5_readAll_62 : decode cX5_readAll 62 = .ok (.iadd, 1) := by decide +kernel
theorem dX5_readAll_63 : decode cX5_readAll 63 = .ok (.putfield 235, 3) := by decide +kernel
theorem dX5_readAll_66 : decode cX5_readAll 66 = .ok (.goto (-43), 3) := by decide +kernel
theorem dX5_readAll_69 : decode cX5_readAll 69 = .ok (.iconst 1, 1) := by decide +kernel
theorem dX5_readAll_70 : decode cX5_readAll 70 = .ok (.ireturn, 1) := by decide +kernel
theorem dX5_drum_0 : decode cX5_drum 0 = .ok (.aload_n 0, 1) := by decide +kernel
theorem dX5_drum_1 : decode cX5_drum 1 = .ok (.invokevirtual 241, 3) := by decide +kernel
theorem dX5_drum_4 : decode cX5_drum 4 = .ok (.astore_n 1, 1) := by decide +kernel
theorem dX5_drum_5 : decode cX5_drum 5 = .ok (.aload_n 0, 1) := by decide +kernel
theorem dX5_drum_6 : decode cX5_drum 6 = .ok (.invokevirtual 245, 3) := by decide +kernel
theorem dX5_drum_9 : decode cX5_drum 9 = .ok (.istore_n 2, 1) := by decide +kernel
theorem dX5_drum_10 : decode cX5_drum 10 = .ok (.aload_n 0, 1) := by decide +kernel
theorem dX5_drum_11 : decode cX5_drum 11 = .ok (.iconst 0, 1) := by decide +kernel
theorem dX5_drum_12 : decode cX5_drum 12 = .ok (.putfield 159, 3) := by decide +kernel
theorem dX5_drum_15 : decode cX5_drum 15 = .ok (.iload_n 2, 1) := by decide +kernel
theorem dX5_drum_16 : decode cX5_drum 16 = .ok (.ifCond .ne 23, 3) := by decide +kernel
theorem dX5_drum_19 : decode cX5_drum 19 = .ok (.aload_n 0, 1) := by decide +kernel
theorem dX5_drum_20 : decode cX5_drum 20 = .ok (.aload_n 1, 1) := by decide +kernel
theorem dX5_drum_21 : decode cX5_drum 21 = .ok (.invokevirtual 248, 3) := by decide +kernel
theorem dX5_drum_24 : decode cX5_drum 24 = .ok (.aload_n 0, 1) := by decide +kernel
theorem dX5_drum_25 : decode cX5_drum 25 = .ok (.bipush (-2), 2) := by decide +kernel
theorem dX5_drum_27 : decode cX5_drum 27 = .ok (.invokevirtual 103, 3) := by decide +kernel
theorem dX5_drum_30 : decode cX5_drum 30 = .ok (.pop, 1) := by decide +kernel
theorem dX5_drum_31 : decode cX5_drum 31 = .ok (.bipush (-20), 2) := by decide +kernel
theorem dX5_drum_33 : decode cX5_drum 33 = .ok (.aload_n 0, 1) := by decide +kernel
theorem dX5_drum_34 : decode cX5_drum 34 = .ok (.getfield 182, 3) := by decide +kernel
theorem dX5_drum_37 : decode cX5_drum 37 = .ok (.isub, 1) := by decide +kernel
theorem dX5_drum_38 : decode cX5_drum 38 = .ok (.ireturn, 1) := by decide +kernel
theorem dX5_drum_39 : decode cX5_drum 39 = .ok (.aload_n 0, 1) := by decide +kernel
theorem dX5_drum_40 : decode cX5_drum 40 = .ok (.getfield 235, 3) := by decide +kernel
theorem dX5_drum_43 : decode cX5_drum 43 = .ok (.ireturn, 1) := by decide +kernel
theorem dX5_heapOf_0 : decode cX5_heapOf 0 = .ok (.iload_n 1, 1) := by decide +kernel
theorem dX5_heapOf_1 : decode cX5_heapOf 1 = .ok (.i2l, 1) := by decide +kernel
theorem dX5_heapOf_2 : decode cX5_heapOf 2 = .ok (.lconst 0, 1) := by decide +kernel
theorem dX5_heapOf_3 : decode cX5_heapOf 3 = .ok (.aload_n 0, 1) := by decide +kernel
theorem dX5_heapOf_4 : decode cX5_heapOf 4 = .ok (.getfield 130, 3) := by decide +kernel
theorem dX5_heapOf_7 : decode cX5_heapOf 7 = .ok (.iconst 1, 1) := by decide +kernel
theorem dX5_heapOf_8 : decode cX5_heapOf 8 = .ok (.isub, 1) := by decide +kernel
theorem dX5_heapOf_9 : decode cX5_heapOf 9 = .ok (.i2l, 1) := by decide +kernel
theorem dX5_heapOf_10 : decode cX5_heapOf 10 = .ok (.invokestatic 95, 3) := by decide +kernel
theorem dX5_heapOf_13 : decode cX5_heapOf 13 = .ok (.ifCond .eq 15, 3) := by decide +kernel
theorem dX5_heapOf_16 : decode cX5_heapOf 16 = .ok (.iload_n 2, 1) := by decide +kernel
theorem dX5_heapOf_17 : decode cX5_heapOf 17 = .ok (.i2l, 1) := by decide +kernel
theorem dX5_heapOf_18 : decode cX5_heapOf 18 = .ok (.lconst 0, 1) := by decide +kernel
theorem dX5_heapOf_19 : decode cX5_heapOf 19 = .ok (.ldc2_w 252, 3) := by decide +kernel
theorem dX5_heapOf_22 : decode cX5_heapOf 22 = .ok (.invokestatic 95, 3) := by decide +kernel
theorem dX5_heapOf_25 : decode cX5_heapOf 25 = .ok (.ifCond .ne 10, 3) := by decide +kernel
theorem dX5_heapOf_28 : decode cX5_heapOf 28 = .ok (.aload_n 0, 1) := by decide +kernel
theorem dX5_heapOf_29 : decode cX5_heapOf 29 = .ok (.bipush (-2), 2) := by decide +kernel
theorem dX5_heapOf_31 : decode cX5_heapOf 31 = .ok (.invokevirtual 103, 3) := by decide +kernel
theorem dX5_heapOf_34 : decode cX5_heapOf 34 = .ok (.ireturn, 1) := by decide +kernel
theorem dX5_heapOf_35 : decode cX5_heapOf 35 = .ok (.iload_n 2, 1) := by decide +kernel
theorem dX5_heapOf_36 : decode cX5_heapOf 36 = .ok (.iconst 2, 1) := by decide +kernel
theorem dX5_heapOf_37 : decode cX5_heapOf 37 = .ok (.if_icmp .ge 23, 3) := by decide +kernel
theorem dX5_heapOf_40 : decode cX5_heapOf 40 = .ok (.iload_n 2, 1) := by decide +kernel
theorem dX5_heapOf_41 : decode cX5_heapOf 41 = .ok (.ifCond .ne 12, 3) := by decide +kernel
theorem dX5_heapOf_44 : decode cX5_heapOf 44 = .ok (.aload_n 0, 1) := by decide +kernel
theorem dX5_heapOf_45 : decode cX5_heapOf 45 = .ok (.getfield 40, 3) := by decide +kernel
theorem dX5_heapOf_48 : decode cX5_heapOf 48 = .ok (.iload_n 1, 1) := by decide +kernel
theorem dX5_heapOf_49 : decode cX5_heapOf 49 = .ok (.iaload, 1) := by decide +kernel
theorem dX5_heapOf_50 : decode cX5_heapOf 50 = .ok (.goto 9, 3) := by decide +kernel
theorem dX5_heapOf_53 : decode cX5_heapOf 53 = .ok (.aload_n 0, 1) := by decide +kernel
theorem dX5_heapOf_54 : decode cX5_heapOf 54 = .ok (.getfield 43, 3) := by decide +kernel
theorem dX5_heapOf_57 : decode cX5_heapOf 57 = .ok (.iload_n 1, 1) := by decide +kernel
theorem dX5_heapOf_58 : decode cX5_heapOf 58 = .ok (.iaload, 1) := by decide +kernel
theorem dX5_heapOf_59 : decode cX5_heapOf 59 = .ok (.ireturn, 1) := by decide +kernel
theorem dX5_heapOf_60 : decode cX5_heapOf 60 = .ok (.iconst 0, 1) := by decide +kernel
theorem dX5_heapOf_61 : decode cX5_heapOf 61 = .ok (.istore_n 3, 1) := by decide +kernel
theorem dX5_heapOf_62 : decode cX5_heapOf 62 = .ok (.aload_n 0, 1) := by decide +kernel
theorem dX5_heapOf_63 : decode cX5_heapOf 63 = .ok (.getfield 46, 3) := by decide +kernel
theorem dX5_heapOf_66 : decode cX5_heapOf 66 = .ok (.iload_n 3, 1) := by decide +kernel
theorem dX5_heapOf_67 : decode cX5_heapOf 67 = .ok (.iaload, 1) := by decide +kernel
theorem dX5_heapOf_68 : decode cX5_heapOf 68 = .ok (.iload_n 1, 1) := by decide +kernel
theorem dX5_heapOf_69 : decode cX5_heapOf 69 = .ok (.if_icmp .eq 9, 3) := by decide +kernel
theorem dX5_heapOf_72 : decode cX5_heapOf 72 = .ok (.iinc 3 1, 3) := by decide +kernel
theorem dX5_heapOf_75 : decode cX5_heapOf 75 = .ok (.goto (-13), 3) := by decide +kernel
theorem dX5_heapOf_78 : decode cX5_heapOf 78 = .ok (.iload_n 3, 1) := by decide +kernel
theorem dX5_heapOf_79 : decode cX5_heapOf 79 = .ok (.ireturn, 1) := by decide +kernel
theorem dX5_factOf_0 : decode cX5_factOf 0 = .ok (.iload_n 1, 1) := by decide +kernel
theorem dX5_factOf_1 : decode cX5_factOf 1 = .ok (.i2l, 1) := by decide +kernel
theorem dX5_factOf_2 : decode cX5_factOf 2 = .ok (.lconst 0, 1) := by decide +kernel
theorem dX5_factOf_3 : decode cX5_factOf 3 = .ok (.aload_n 0, 1) := by decide +kernel
theorem dX5_factOf_4 : decode cX5_factOf 4 = .ok (.getfield 151, 3) := by decide +kernel
theorem dX5_factOf_7 : decode cX5_factOf 7 = .ok (.iconst 1, 1) := by decide +kernel
theorem dX5_factOf_8 : decode cX5_factOf 8 = .ok (.isub, 1) := by decide +kernel
theorem dX5_factOf_9 : decode cX5_factOf 9 = .ok (.i2l, 1) := by decide +kernel
theorem dX5_factOf_10 : decode cX5_factOf 10 = .ok (.invokestatic 95, 3) := by decide +kernel
theorem dX5_factOf_13 : decode cX5_factOf 13 = .ok (.ifCond .eq 26, 3) := by decide +kernel
theorem dX5_factOf_16 : decode cX5_factOf 16 = .ok (.iload_n 2, 1) := by decide +kernel
theorem dX5_factOf_17 : decode cX5_factOf 17 = .ok (.i2l, 1) := by decide +kernel
theorem dX5_factOf_18 : decode cX5_factOf 18 = .ok (.lconst 0, 1) := by decide +kernel
theorem dX5_factOf_19 : decode cX5_factOf 19 = .ok (.ldc2_w 252, 3) := by decide +kernel
theorem dX5_factOf_22 : decode cX5_factOf 22 = .ok (.invokestatic 95, 3) := by decide +kernel
theorem dX5_factOf_25 : decode cX5_factOf 25 = .ok (.ifCond .eq 14, 3) := by decide +kernel
theorem dX5_factOf_28 : decode cX5_factOf 28 = .ok (.aload_n 0, 1) := by decide +kernel
theorem dX5_factOf_29 : decode cX5_factOf 29 = .ok (.getfield 51, 3) := by decide +kernel
theorem dX5_factOf_32 : decode cX5_factOf 32 = .ok (.iload_n 1, 1) := by decide +kernel
theorem dX5_factOf_33 : decode cX5_factOf 33 = .ok (.aaload, 1) := by decide +kernel
theorem dX5_factOf_34 : decode cX5_factOf 34 = .ok (.iload_n 2, 1) := by decide +kernel
theorem dX5_factOf_35 : decode cX5_factOf 35 = .ok (.iaload, 1) := by decide +kernel
theorem dX5_factOf_36 : decode cX5_factOf 36 = .ok (.goto 9, 3) := by decide +kernel
theorem dX5_factOf_39 : decode cX5_factOf 39 = .ok (.aload_n 0, 1) := by decide +kernel
theorem dX5_factOf_40 : decode cX5_factOf 40 = .ok (.bipush (-2), 2) := by decide +kernel
theorem dX5_factOf_42 : decode cX5_factOf 42 = .ok (.invokevirtual 103, 3) := by decide +kernel
theorem dX5_factOf_45 : decode cX5_factOf 45 = .ok (.ireturn, 1) := by decide +kernel
theorem dX5_seeHeaps_0 : decode cX5_seeHeaps 0 = .ok (.aload_n 0, 1) := by decide +kernel
theorem dX5_seeHeaps_1 : decode cX5_seeHeaps 1 = .ok (.aload_n 0, 1) := by decide +kernel
theorem dX5_seeHeaps_2 : decode cX5_seeHeaps 2 = .ok (.invokevirtual 140, 3) := by decide +kernel
theorem dX5_seeHeaps_5 : decode cX5_seeHeaps 5 = .ok (.putfield 254, 3) := by decide +kernel
theorem dX5_seeHeaps_8 : decode cX5_seeHeaps 8 = .ok (.iconst 0, 1) := by decide +kernel
theorem dX5_seeHeaps_9 : decode cX5_seeHeaps 9 = .ok (.istore_n 1, 1) := by decide +kernel
theorem dX5_seeHeaps_10 : decode cX5_seeHeaps 10 = .ok (.iload_n 1, 1) := by decide +kernel
theorem dX5_seeHeaps_11 : decode cX5_seeHeaps 11 = .ok (.bipush 24, 2) := by decide +kernel
theorem dX5_seeHeaps_13 : decode cX5_seeHeaps 13 = .ok (.if_icmp .gt 32, 3) := by decide +kernel
theorem dX5_seeHeaps_16 : decode cX5_seeHeaps 16 = .ok (.iconst 0, 1) := by decide +kernel
theorem dX5_seeHeaps_17 : decode cX5_seeHeaps 17 = .ok (.istore_n 2, 1) := by decide +kernel
theorem dX5_seeHeaps_18 : decode cX5_seeHeaps 18 = .ok (.iload_n 2, 1) := by decide +kernel
theorem dX5_seeHeaps_19 : decode cX5_seeHeaps 19 = .ok (.bipush 24, 2) := by decide +kernel
theorem dX5_seeHeaps_21 : decode cX5_seeHeaps 21 = .ok (.if_icmp .gt 18, 3) := by decide +kernel
theorem dX5_seeHeaps_24 : decode cX5_seeHeaps 24 = .ok (.aload_n 0, 1) := by decide +kernel
theorem dX5_seeHeaps_25 : decode cX5_seeHeaps 25 = .ok (.getfield 66, 3) := by decide +kernel
theorem dX5_seeHeaps_28 : decode cX5_seeHeaps 28 = .ok (.iload_n 1, 1) := by decide +kernel
theorem dX5_seeHeaps_29 : decode cX5_seeHeaps 29 = .ok (.aaload, 1) := by decide +kernel
theorem dX5_seeHeaps_30 : decode cX5_seeHeaps 30 = .ok (.iload_n 2, 1) := by decide +kernel
theorem dX5_seeHeaps_31 : decode cX5_seeHeaps 31 = .ok (.iconst 0, 1) := by decide +kernel
theorem dX5_seeHeaps_32 : decode cX5_seeHeaps 32 = .ok (.bastore, 1) := by decide +kernel
theorem dX5_seeHeaps_33 : decode cX5_seeHeaps 33 = .ok (.iinc 2 1, 3) := by decide +kernel
theorem dX5_seeHeaps_36 : decode cX5_seeHeaps 36 = .ok (.goto (-18), 3) := by decide +kernel
theorem dX5_seeHeaps_39 : decode cX5_seeHeaps 39 = .ok (.iinc 1 1, 3) := by decide +kernel
theorem dX5_seeHeaps_42 : decode cX5_seeHeaps 42 = .ok (.goto (-32), 3) := by decide +kernel
theorem dX5_seeHeaps_45 : decode cX5_seeHeaps 45 = .ok (.aload_n 0, 1) := by decide +kernel
theorem dX5_seeHeaps_46 : decode cX5_seeHeaps 46 = .ok (.getfield 66, 3) := by decide +kernel
theorem dX5_seeHeaps_49 : decode cX5_seeHeaps 49 = .ok (.iconst 0, 1) := by decide +kernel
theorem dX5_seeHeaps_50 : decode cX5_seeHeaps 50 = .ok (.aaload, 1) := by decide +kernel
theorem dX5_seeHeaps_51 : decode cX5_seeHeaps 51 = .ok (.iconst 0, 1) := by decide +kernel
theorem dX5_seeHeaps_52 : decode cX5_seeHeaps 52 = .ok (.iconst 1, 1) := by decide +kernel
theorem dX5_seeHeaps_53 : decode cX5_seeHeaps 53 = .ok (.bastore, 1) := by decide +kernel
theorem dX5_seeHeaps_54 : decode cX5_seeHeaps 54 = .ok (.iconst 0, 1) := by decide +kernel
theorem dX5_seeHeaps_55 : decode cX5_seeHeaps 55 = .ok (.istore_n 1, 1) := by decide +kernel
theorem dX5_seeHeaps_56 : decode cX5_seeHeaps 56 = .ok (.iconst 0, 1) := by decide +kernel
theorem dX5_seeHeaps_57 : decode cX5_seeHeaps 57 = .ok (.istore_n 2, 1) := by decide +kernel
theorem dX5_seeHeaps_58 : decode cX5_seeHeaps 58 = .ok (.iconst 0, 1) := by decide +kernel
theorem dX5_seeHeaps_59 : decode cX5_seeHeaps 59 = .ok (.istore_n 3, 1) := by decide +kernel
theorem dX5_seeHeaps_60 : decode cX5_seeHeaps 60 = .ok (.iload_n 3, 1) := by decide +kernel
theorem dX5_seeHeaps_61 : decode cX5_seeHeaps 61 = .ok (.aload_n 0, 1) := by decide +kernel
theorem dX5_seeHeaps_62 : decode cX5_seeHeaps 62 = .ok (.getfield 130, 3) := by decide +kernel
theorem dX5_seeHeaps_65 : decode cX5_seeHeaps 65 = .ok (.if_icmp .ge 127, 3) := by decide +kernel
theorem dX5_seeHeaps_68 : decode cX5_seeHeaps 68 = .ok (.aload_n 0, 1) := by decide +kernel
theorem dX5_seeHeaps_69 : decode cX5_seeHeaps 69 = .ok (.getfield 46, 3) := by decide +kernel
theorem dX5_seeHeaps_72 : decode cX5_seeHeaps 72 = .ok (.iload_n 3, 1) := by decide +kernel
theorem dX5_seeHeaps_73 : decode cX5_seeHeaps 73 = .ok (.iaload, 1) := by decide +kernel
theorem dX5_seeHeaps_74 : decode cX5_seeHeaps 74 = .ok (.istore 4, 2) := by decide +kernel
theorem dX5_seeHeaps_76 : decode cX5_seeHeaps 76 = .ok (.aload_n 0, 1) := by decide +kernel
theorem dX5_seeHeaps_77 : decode cX5_seeHeaps 77 = .ok (.getfield 40, 3) := by decide +kernel
theorem dX5_seeHeaps_80 : decode cX5_seeHeaps 80 = .ok (.iload 4, 2) := by decide +kernel
theorem dX5_seeHeaps_82 : decode cX5_seeHeaps 82 = .ok (.iaload, 1) := by decide +kernel
theorem dX5_seeHeaps_83 : decode cX5_seeHeaps 83 = .ok (.aload_n 0, 1) := by decide +kernel
theorem dX5_seeHeaps_84 : decode cX5_seeHeaps 84 = .ok (.getfield 43, 3) := by decide +kernel
theorem dX5_seeHeaps_87 : decode cX5_seeHeaps 87 = .ok (.iload 4, 2) := by decide +kernel
theorem dX5_seeHeaps_89 : decode cX5_seeHeaps 89 = .ok (.iaload, 1) := by decide +kernel
theorem dX5_seeHeaps_90 : decode cX5_seeHeaps 90 = .ok (.iadd, 1) := by decide +kernel
theorem dX5_seeHeaps_91 : decode cX5_seeHeaps 91 = .ok (.istore 5, 2) := by decide +kernel
theorem dX5_seeHeaps_93 : decode cX5_seeHeaps 93 = .ok (.iconst 1, 1) := by decide +kernel
theorem dX5_seeHeaps_94 : decode cX5_seeHeaps 94 = .ok (.istore 6, 2) := by decide +kernel
theorem dX5_seeHeaps_96 : decode cX5_seeHeaps 96 = .ok (.iload 6, 2) := by decide +kernel
theorem dX5_seeHeaps_98 : decode cX5_seeHeaps 98 = .ok (.iload 5, 2) := by decide +kernel
theorem dX5_seeHeaps_100 : decode cX5_seeHeaps 100 = .ok (.if_icmp .gt 71, 3) := by decide +kernel
theorem dX5_seeHeaps_103 : decode cX5_seeHeaps 103 = .ok (.iconst 0, 1) := by decide +kernel
theorem dX5_seeHeaps_104 : decode cX5_seeHeaps 104 = .ok (.istore 7, 2) := by decide +kernel
theorem dX5_seeHeaps_106 : decode cX5_seeHeaps 106 = .ok (.iload 7, 2) := by decide +kernel
theorem dX5_seeHeaps_108 : decode cX5_seeHeaps 108 = .ok (.aload_n 0, 1) := by decide +kernel
theorem dX5_seeHeaps_109 : decode cX5_seeHeaps 109 = .ok (.getfield 40, 3) := by decide +kernel
theorem dX5_seeHeaps_112 : decode cX5_seeHeaps 112 = .ok (.iload 4, 2) := by decide +kernel
theorem dX5_seeHeaps_114 : decode cX5_seeHeaps 114 = .ok (.iaload, 1) := by decide +kernel
theorem dX5_seeHeaps_115 : decode cX5_seeHeaps 115 = .ok (.if_icmp .gt 50, 3) := by decide +kernel
theorem dX5_seeHeaps_118 : decode cX5_seeHeaps 118 = .ok (.iload 7, 2) := by decide +kernel
theorem dX5_seeHeaps_120 : decode cX5_seeHeaps 120 = .ok (.iload 6, 2) := by decide +kernel
theorem dX5_seeHeaps_122 : decode cX5_seeHeaps 122 = .ok (.if_icmp .gt 43, 3) := by decide +kernel
theorem dX5_seeHeaps_125 : decode cX5_seeHeaps 125 = .ok (.aload_n 0, 1) := by decide +kernel
theorem dX5_seeHeaps_126 : decode cX5_seeHeaps 126 = .ok (.getfield 66, 3) := by decide +kernel
theorem dX5_seeHeaps_129 : decode cX5_seeHeaps 129 = .ok (.iload_n 1, 1) := by decide +kernel
theorem dX5_seeHeaps_130 : decode cX5_seeHeaps 130 = .ok (.iload 6, 2) := by decide +kernel
theorem dX5_seeHeaps_132 : decode cX5_seeHeaps 132 = .ok (.iadd, 1) := by decide +kernel
theorem dX5_seeHeaps_133 : decode cX5_seeHeaps 133 = .ok (.aaload, 1) := by decide +kernel
theorem dX5_seeHeaps_134 : decode cX5_seeHeaps 134 = .ok (.iload_n 2, 1) := by decide +kernel
theorem dX5_seeHeaps_135 : decode cX5_seeHeaps 135 = .ok (.iload 7, 2) := by decide +kernel
theorem dX5_seeHeaps_137 : decode cX5_seeHeaps 137 = .ok (.iadd, 1) := by decide +kernel
theorem dX5_seeHeaps_138 : decode cX5_seeHeaps 138 = .ok (.iload 6, 2) := by decide +kernel
theorem dX5_seeHeaps_140 : decode cX5_seeHeaps 140 = .ok (.iload 7, 2) := by decide +kernel
theorem dX5_seeHeaps_142 : decode cX5_seeHeaps 142 = .ok (.isub, 1) := by decide +kernel
theorem dX5_seeHeaps_143 : decode cX5_seeHeaps 143 = .ok (.aload_n 0, 1) := by decide +kernel
theorem dX5_seeHeaps_144 : decode cX5_seeHeaps 144 = .ok (.getfield 43, 3) := by decide +kernel
theorem dX5_seeHeaps_147 : decode cX5_seeHeaps 147 = .ok (.iload 4, 2) := by decide +kernel
theorem dX5_seeHeaps_149 : decode cX5_seeHeaps 149 = .ok (.iaload, 1) := by decide +kernel
theorem dX5_seeHeaps_150 : decode cX5_seeHeaps 150 = .ok (.if_icmp .gt 7, 3) := by decide +kernel
theorem dX5_seeHeaps_153 : decode cX5_seeHeaps 153 = .ok (.iconst 1, 1) := by decide +kernel
theorem dX5_seeHeaps_154 : decode cX5_seeHeaps 154 = .ok (.goto 4, 3) := by decide +kernel
theorem dX5_seeHeaps_157 : decode cX5_seeHeaps 157 = .ok (.iconst 0, 1) := by decide +kernel
theorem dX5_seeHeaps_158 : decode cX5_seeHeaps 158 = .ok (.bastore, 1) := by decide +kernel
theorem dX5_seeHeaps_159 : decode cX5_seeHeaps 159 = .ok (.iinc 7 1, 3) := by decide +kernel
theorem dX5_seeHeaps_162 : decode cX5_seeHeaps 162 = .ok (.goto (-56), 3) := by decide +kernel
theorem dX5_seeHeaps_165 : decode cX5_seeHeaps 165 = .ok (.iinc 6 1, 3) := by decide +kernel
theorem dX5_seeHeaps_168 : decode cX5_seeHeaps 168 = .ok (.goto (-72), 3) := by decide +kernel
theorem dX5_seeHeaps_171 : decode cX5_seeHeaps 171 = .ok (.iload_n 1, 1) := by decide +kernel
theorem dX5_seeHeaps_172 : decode cX5_seeHeaps 172 = .ok (.iload 5, 2) := by decide +kernel
theorem dX5_seeHeaps_174 : decode cX5_seeHeaps 174 = .ok (.iadd, 1) := by decide +kernel
theorem dX5_seeHeaps_175 : decode cX5_seeHeaps 175 = .ok (.istore_n 1, 1) := by decide +kernel
theorem dX5_seeHeaps_176 : decode cX5_seeHeaps 176 = .ok (.iload_n 2, 1) := by decide +kernel
theorem dX5_seeHeaps_177 : decode cX5_seeHeaps 177 = .ok (.aload_n 0, 1) := by decide +kernel
theorem dX5_seeHeaps_178 : decode cX5_seeHeaps 178 = .ok (.getfield 40, 3) := by decide +kernel
theorem dX5_seeHeaps_181 : decode cX5_seeHeaps 181 = .ok (.iload 4, 2) := by decide +kernel
theorem dX5_seeHeaps_183 : decode cX5_seeHeaps 183 = .ok (.iaload, 1) := by decide +kernel
theorem dX5_seeHeaps_184 : decode cX5_seeHeaps 184 = .ok (.iadd, 1) := by decide +kernel
theorem dX5_seeHeaps_185 : decode cX5_seeHeaps 185 = .ok (.istore_n 2, 1) := by decide +kernel
theorem dX5_seeHeaps_186 : decode cX5_seeHeaps 186 = .ok (.iinc 3 1, 3) := by decide +kernel
theorem dX5_seeHeaps_189 : decode cX5_seeHeaps 189 = .ok (.goto (-129), 3) := by decide +kernel
theorem dX5_seeHeaps_192 : decode cX5_seeHeaps 192 = .ok (.return_, 1) := by decide +kernel
theorem dX5_holds__0 : decode cX5_holds_ 0 = .ok (.iconst 2, 1) := by decide +kernel
theorem dX5_holds__1 : decode cX5_holds_ 1 = .ok (.iload_n 3, 1) := by decide +kernel
theorem dX5_holds__2 : decode cX5_holds_ 2 = .ok (.imul, 1) := by decide +kernel
theorem dX5_holds__3 : decode cX5_holds_ 3 = .ok (.iload_n 2, 1) := by decide +kernel
theorem dX5_holds__4 : decode cX5_holds_ 4 = .ok (.isub, 1) := by decide +kernel
theorem dX5_holds__5 : decode cX5_holds_ 5 = .ok (.istore 4, 2) := by decide +kernel
theorem dX5_holds__7 : decode cX5_holds_ 7 = .ok (.iload_n 2, 1) := by decide +kernel
theorem dX5_holds__8 : decode cX5_holds_ 8 = .ok (.i2l, 1) := by decide +kernel
theorem dX5_holds__9 : decode cX5_holds_ 9 = .ok (.aload_n 0, 1) := by decide +kernel
theorem dX5_holds__10 : decode cX5_holds_ 10 = .ok (.getfield 51, 3) := by decide +kernel
theorem dX5_holds__13 : decode cX5_holds_ 13 = .ok (.iload_n 1, 1) := by decide +kernel
theorem dX5_holds__14 : decode cX5_holds_ 14 = .ok (.aaload, 1) := by decide +kernel
theorem dX5_holds__15 : decode cX5_holds_ 15 = .ok (.iconst 1, 1) := by decide +kernel
theorem dX5_holds__16 : decode cX5_holds_ 16 = .ok (.iaload, 1) := by decide +kernel
theorem dX5_holds__17 : decode cX5_holds_ 17 = .ok (.i2l, 1) := by decide +kernel
theorem dX5_holds__18 : decode cX5_holds_ 18 = .ok (.aload_n 0, 1) := by decide +kernel
theorem dX5_holds__19 : decode cX5_holds_ 19 = .ok (.getfield 51, 3) := by decide +kernel
theorem dX5_holds__22 : decode cX5_holds_ 22 = .ok (.iload_n 1, 1) := by decide +kernel
theorem dX5_holds__23 : decode cX5_holds_ 23 = .ok (.aaload, 1) := by decide +kernel
theorem dX5_holds__24 : decode cX5_holds_ 24 = .ok (.iconst 2, 1) := by decide +kernel
theorem dX5_holds__25 : decode cX5_holds_ 25 = .ok (.iaload, 1) := by decide +kernel
theorem dX5_holds__26 : decode cX5_holds_ 26 = .ok (.i2l, 1) := by decide +kernel
theorem dX5_holds__27 : decode cX5_holds_ 27 = .ok (.invokestatic 95, 3) := by decide +kernel
theorem dX5_holds__30 : decode cX5_holds_ 30 = .ok (.istore 5, 2) := by decide +kernel
theorem dX5_holds__32 : decode cX5_holds_ 32 = .ok (.aload_n 0, 1) := by decide +kernel
theorem dX5_holds__33 : decode cX5_holds_ 33 = .ok (.getfield 51, 3) := by decide +kernel
theorem dX5_holds__36 : decode cX5_holds_ 36 = .ok (.iload_n 1, 1) := by decide +kernel
theorem dX5_holds__37 : decode cX5_holds_ 37 = .ok (.aaload, 1) := by decide +kernel
theorem dX5_holds__38 : decode cX5_holds_ 38 = .ok (.iconst 0, 1) := by decide +kernel
theorem dX5_holds__39 : decode cX5_holds_ 39 = .ok (.iaload, 1) := by decide +kernel
theorem dX5_holds__40 : decode cX5_holds_ 40 = .ok (.tableswitch 97 0 2 #[28, 58, 74], 28) := by decide +kernel
theorem dX5_holds__68 : decode cX5_holds_ 68 = .ok (.iload_n 2, 1) := by decide +kernel
theorem dX5_holds__69 : decode cX5_holds_ 69 = .ok (.aload_n 0, 1) := by decide +kernel
theorem dX5_holds__70 : decode cX5_holds_ 70 = .ok (.getfield 51, 3) := by decide +kernel
theorem dX5_holds__73 : decode cX5_holds_ 73 = .ok (.iload_n 1, 1) := by decide +kernel
theorem dX5_holds__74 : decode cX5_holds_ 74 = .ok (.aaload, 1) := by decide +kernel
theorem dX5_holds__75 : decode cX5_holds_ 75 = .ok (.iconst 1, 1) := by decide +kernel
theorem dX5_holds__76 : decode cX5_holds_ 76 = .ok (.iaload, 1) := by decide +kernel
theorem dX5_holds__77 : decode cX5_holds_ 77 = .ok (.if_icmp .ne 15, 3) := by decide +kernel
theorem dX5_holds__80 : decode cX5_holds_ 80 = .ok (.iload_n 3, 1) := by decide +kernel
theorem dX5_holds__81 : decode cX5_holds_ 81 = .ok (.aload_n 0, 1) := by decide +kernel
theorem dX5_holds__82 : decode cX5_holds_ 82 = .ok (.getfield 51, 3) := by decide +kernel
theorem dX5_holds__85 : decode cX5_holds_ 85 = .ok (.iload_n 1, 1) := by decide +kernel
theorem dX5_holds__86 : decode cX5_holds_ 86 = .ok (.aaload, 1) := by decide +kernel
theorem dX5_holds__87 : decode cX5_holds_ 87 = .ok (.iconst 2, 1) := by decide +kernel
theorem dX5_holds__88 : decode cX5_holds_ 88 = .ok (.iaload, 1) := by decide +kernel
theorem dX5_holds__89 : decode cX5_holds_ 89 = .ok (.if_icmp .ne 7, 3) := by decide +kernel
theorem dX5_holds__92 : decode cX5_holds_ 92 = .ok (.iconst 1, 1) := by decide +kernel
theorem dX5_holds__93 : decode cX5_holds_ 93 = .ok (.goto 4, 3) := by decide +kernel
theorem dX5_holds__96 : decode cX5_holds_ 96 = .ok (.iconst 0, 1) := by decide +kernel
theorem dX5_holds__97 : decode cX5_holds_ 97 = .ok (.ireturn, 1) := by decide +kernel
theorem dX5_holds__98 : decode cX5_holds_ 98 = .ok (.iload 5, 2) := by decide +kernel
theorem dX5_holds__100 : decode cX5_holds_ 100 = .ok (.ifCond .eq 8, 3) := by decide +kernel
theorem dX5_holds__103 : decode cX5_holds_ 103 = .ok (.iload 4, 2) := by decide +kernel
theorem dX5_holds__105 : decode cX5_holds_ 105 = .ok (.ifCond .le 7, 3) := by decide +kernel
theorem dX5_holds__108 : decode cX5_holds_ 108 = .ok (.iconst 1, 1) := by decide +kernel
theorem dX5_holds__109 : decode cX5_holds_ 109 = .ok (.goto 4, 3) := by decide +kernel
theorem dX5_holds__112 : decode cX5_holds_ 112 = .ok (.iconst 0, 1) := by decide +kernel
theorem dX5_holds__113 : decode cX5_holds_ 113 = .ok (.ireturn, 1) := by decide +kernel
theorem dX5_holds__114 : decode cX5_holds_ 114 = .ok (.iload_n 2, 1) := by decide +kernel
theorem dX5_holds__115 : decode cX5_holds_ 115 = .ok (.aload_n 0, 1) := by decide +kernel
theorem dX5_holds__116 : decode cX5_holds_ 116 = .ok (.getfield 51, 3) := by decide +kernel
theorem dX5_holds__119 : decode cX5_holds_ 119 = .ok (.iload_n 1, 1) := by decide +kernel
theorem dX5_holds__120 : decode cX5_holds_ 120 = .ok (.aaload, 1) := by decide +kernel
theorem dX5_holds__121 : decode cX5_holds_ 121 = .ok (.iconst 1, 1) := by decide +kernel
theorem dX5_holds__122 : decode cX5_holds_ 122 = .ok (.iaload, 1) := by decide +kernel
theorem dX5_holds__123 : decode cX5_holds_ 123 = .ok (.if_icmp .ne 8, 3) := by decide +kernel
theorem dX5_holds__126 : decode cX5_holds_ 126 = .ok (.iload 4, 2) := by decide +kernel
theorem dX5_holds__128 : decode cX5_holds_ 128 = .ok (.ifCond .ne 7, 3) := by decide +kernel
theorem dX5_holds__131 : decode cX5_holds_ 131 = .ok (.iconst 1, 1) := by decide +kernel
theorem dX5_holds__132 : decode cX5_holds_ 132 = .ok (.goto 4, 3) := by decide +kernel
theorem dX5_holds__135 : decode cX5_holds_ 135 = .ok (.iconst 0, 1) := by decide +kernel
theorem dX5_holds__136 : decode cX5_holds_ 136 = .ok (.ireturn, 1) := by decide +kernel
theorem dX5_holds__137 : decode cX5_holds_ 137 = .ok (.iload 5, 2) := by decide +kernel
theorem dX5_holds__139 : decode cX5_holds_ 139 = .ok (.ifCond .eq 8, 3) := by decide +kernel
theorem dX5_holds__142 : decode cX5_holds_ 142 = .ok (.iload 4, 2) := by decide +kernel
theorem dX5_holds__144 : decode cX5_holds_ 144 = .ok (.ifCond .lt 7, 3) := by decide +kernel
theorem dX5_holds__147 : decode cX5_holds_ 147 = .ok (.iconst 1, 1) := by decide +kernel
theorem dX5_holds__148 : decode cX5_holds_ 148 = .ok (.goto 4, 3) := by decide +kernel
theorem dX5_holds__151 : decode cX5_holds_ 151 = .ok (.iconst 0, 1) := by decide +kernel
theorem dX5_holds__152 : decode cX5_holds_ 152 = .ok (.ireturn, 1) := by decide +kernel
theorem dX5_readA_0 : decode cX5_readA 0 = .ok (.iconst 0, 1) := by decide +kernel
theorem dX5_readA_1 : decode cX5_readA 1 = .ok (.istore_n 2, 1) := by decide +kernel
theorem dX5_readA_2 : decode cX5_readA 2 = .ok (.iconst 0, 1) := by decide +kernel
theorem dX5_readA_3 : decode cX5_readA 3 = .ok (.istore_n 3, 1) := by decide +kernel
theorem dX5_readA_4 : decode cX5_readA 4 = .ok (.iload_n 3, 1) := by decide +kernel
theorem dX5_readA_5 : decode cX5_readA 5 = .ok (.iload_n 1, 1) := by decide +kernel
theorem dX5_readA_6 : decode cX5_readA 6 = .ok (.if_icmp .ge 18, 3) := by decide +kernel
theorem dX5_readA_9 : decode cX5_readA 9 = .ok (.iload_n 2, 1) := by decide +kernel
theorem dX5_readA_10 : decode cX5_readA 10 = .ok (.aload_n 0, 1) := by decide +kernel
theorem dX5_readA_11 : decode cX5_readA 11 = .ok (.getfield 54, 3) := by decide +kernel
theorem dX5_readA_14 : decode cX5_readA 14 = .ok (.iload_n 3, 1) := by decide +kernel
theorem dX5_readA_15 : decode cX5_readA 15 = .ok (.iaload, 1) := by decide +kernel
theorem dX5_readA_16 : decode cX5_readA 16 = .ok (.iadd, 1) := by decide +kernel
theorem dX5_readA_17 : decode cX5_readA 17 = .ok (.istore_n 2, 1) := by decide +kernel
theorem dX5_readA_18 : decode cX5_readA 18 = .ok (.iinc 3 1, 3) := by decide +kernel
theorem dX5_readA_21 : decode cX5_readA 21 = .ok (.goto (-17), 3) := by decide +kernel
theorem dX5_readA_24 : decode cX5_readA 24 = .ok (.iload_n 2, 1) := by decide +kernel
theorem dX5_readA_25 : decode cX5_readA 25 = .ok (.ireturn, 1) := by decide +kernel
theorem dX5_isFit_0 : decode cX5_isFit 0 = .ok (.iload_n 1, 1) := by decide +kernel
theorem dX5_isFit_1 : decode cX5_isFit 1 = .ok (.aload_n 0, 1) := by decide +kernel
theorem dX5_isFit_2 : decode cX5_isFit 2 = .ok (.getfield 137, 3) := by decide +kernel
theorem dX5_isFit_5 : decode cX5_isFit 5 = .ok (.if_icmp .gt 12, 3) := by decide +kernel
theorem dX5_isFit_8 : decode cX5_isFit 8 = .ok (.iload_n 2, 1) := by decide +kernel
theorem dX5_isFit_9 : decode cX5_isFit 9 = .ok (.aload_n 0, 1) := by decide +kernel
theorem dX5_isFit_10 : decode cX5_isFit 10 = .ok (.iload_n 1, 1) := by decide +kernel
theorem dX5_isFit_11 : decode cX5_isFit 11 = .ok (.invokevirtual 257, 3) := by decide +kernel
theorem dX5_isFit_14 : decode cX5_isFit 14 = .ok (.if_icmp .ne 7, 3) := by decide +kernel
theorem dX5_isFit_17 : decode cX5_isFit 17 = .ok (.iconst 1, 1) := by decide +kernel
theorem dX5_isFit_18 : decode cX5_isFit 18 = .ok (.goto 4, 3) := by decide +kernel
theorem dX5_isFit_21 : decode cX5_isFit 21 = .ok (.iconst 0, 1) := by decide +kernel
theorem dX5_isFit_22 : decode cX5_isFit 22 = .ok (.istore_n 3, 1) := by decide +kernel
theorem dX5_isFit_23 : decode cX5_isFit 23 = .ok (.iconst 0, 1) := by decide +kernel
theorem dX5_isFit_24 : decode cX5_isFit 24 = .ok (.istore 4, 2) := by decide +kernel
theorem dX5_isFit_26 : decode cX5_isFit 26 = .ok (.iload 4, 2) := by decide +kernel
theorem dX5_isFit_28 : decode cX5_isFit 28 = .ok (.aload_n 0, 1) := by decide +kernel
theorem dX5_isFit_29 : decode cX5_isFit 29 = .ok (.getfield 151, 3) := by decide +kernel
theorem dX5_isFit_32 : decode cX5_isFit 32 = .ok (.if_icmp .ge 20, 3) := by decide +kernel
theorem dX5_isFit_35 : decode cX5_isFit 35 = .ok (.iload_n 3, 1) := by decide +kernel
theorem dX5_isFit_36 : decode cX5_isFit 36 = .ok (.aload_n 0, 1) := by decide +kernel
theorem dX5_isFit_37 : decode cX5_isFit 37 = .ok (.iload 4, 2) := by decide +kernel
theorem dX5_isFit_39 : decode cX5_isFit 39 = .ok (.iload_n 1, 1) := by decide +kernel
theorem dX5_isFit_40 : decode cX5_isFit 40 = .ok (.iload_n 2, 1) := by decide +kernel
theorem dX5_isFit_41 : decode cX5_isFit 41 = .ok (.invokevirtual 260, 3) := by decide +kernel
theorem dX5_isFit_44 : decode cX5_isFit 44 = .ok (.iand, 1) := by decide +kernel
theorem dX5_isFit_45 : decode cX5_isFit 45 = .ok (.istore_n 3, 1) := by decide +kernel
theorem dX5_isFit_46 : decode cX5_isFit 46 = .ok (.iinc 4 1, 3) := by decide +kernel
theorem dX5_isFit_49 : decode cX5_isFit 49 = .ok (.goto (-23), 3) := by decide +kernel
theorem dX5_isFit_52 : decode cX5_isFit 52 = .ok (.iload_n 3, 1) := by decide +kernel
theorem dX5_isFit_53 : decode cX5_isFit 53 = .ok (.ireturn, 1) := by decide +kernel
theorem dX5_seeAll_0 : decode cX5_seeAll 0 = .ok (.aload_n 0, 1) := by decide +kernel
theorem dX5_seeAll_1 : decode cX5_seeAll 1 = .ok (.invokevirtual 263, 3) := by decide +kernel
theorem dX5_seeAll_4 : decode cX5_seeAll 4 = .ok (.iconst 0, 1) := by decide +kernel
theorem dX5_seeAll_5 : decode cX5_seeAll 5 = .ok (.istore_n 1, 1) := by decide +kernel
theorem dX5_seeAll_6 : decode cX5_seeAll 6 = .ok (.iload_n 1, 1) := by decide +kernel
theorem dX5_seeAll_7 : decode cX5_seeAll 7 = .ok (.aload_n 0, 1) := by decide +kernel
theorem dX5_seeAll_8 : decode cX5_seeAll 8 = .ok (.getfield 254, 3) := by decide +kernel
theorem dX5_seeAll_11 : decode cX5_seeAll 11 = .ok (.if_icmp .gt 39, 3) := by decide +kernel
theorem dX5_seeAll_14 : decode cX5_seeAll 14 = .ok (.iconst 0, 1) := by decide +kernel
theorem dX5_seeAll_15 : decode cX5_seeAll 15 = .ok (.istore_n 2, 1) := by decide +kernel
theorem dX5_seeAll_16 : decode cX5_seeAll 16 = .ok (.iload_n 2, 1) := by decide +kernel
theorem dX5_seeAll_17 : decode cX5_seeAll 17 = .ok (.iload_n 1, 1) := by decide +kernel
theorem dX5_seeAll_18 : decode cX5_seeAll 18 = .ok (.if_icmp .gt 26, 3) := by decide +kernel
theorem dX5_seeAll_21 : decode cX5_seeAll 21 = .ok (.aload_n 0, 1) := by decide +kernel
theorem dX5_seeAll_22 : decode cX5_seeAll 22 = .ok (.getfield 66, 3) := by decide +kernel
theorem dX5_seeAll_25 : decode cX5_seeAll 25 = .ok (.iload_n 1, 1) := by decide +kernel
theorem dX5_seeAll_26 : decode cX5_seeAll 26 = .ok (.aaload, 1) := by decide +kernel
theorem dX5_seeAll_27 : decode cX5_seeAll 27 = .ok (.iload_n 2, 1) := by decide +kernel
theorem dX5_seeAll_28 : decode cX5_seeAll 28 = .ok (.dup2, 1) := by decide +kernel
theorem dX5_seeAll_29 : decode cX5_seeAll 29 = .ok (.baload, 1) := by decide +kernel
theorem dX5_seeAll_30 : decode cX5_seeAll 30 = .ok (.aload_n 0, 1) := by decide +kernel
theorem dX5_seeAll_31 : decode cX5_seeAll 31 = .ok (.iload_n 1, 1) := by decide +kernel
theorem dX5_seeAll_32 : decode cX5_seeAll 32 = .ok (.iload_n 2, 1) := by decide +kernel
theorem dX5_seeAll_33 : decode cX5_seeAll 33 = .ok (.invokevirtual 266, 3) := by decide +kernel
theorem dX5_seeAll_36 : decode cX5_seeAll 36 = .ok (.iand, 1) := by decide +kernel
theorem dX5_seeAll_37 : decode cX5_seeAll 37 = .ok (.bastore, 1) := by decide +kernel
theorem dX5_seeAll_38 : decode cX5_seeAll 38 = .ok (.iinc 2 1, 3) := by decide +kernel
theorem dX5_seeAll_41 : decode cX5_seeAll 41 = .ok (.goto (-25), 3) := by decide +kernel
theorem dX5_seeAll_44 : decode cX5_seeAll 44 = .ok (.iinc 1 1, 3) := by decide +kernel
theorem dX5_seeAll_47 : decode cX5_seeAll 47 = .ok (.goto (-41), 3) := by decide +kernel
theorem dX5_seeAll_50 : decode cX5_seeAll 50 = .ok (.return_, 1) := by decide +kernel
theorem dX5_isSureAt_0 : decode cX5_isSureAt 0 = .ok (.iconst 2, 1) := by decide +kernel
theorem dX5_isSureAt_1 : decode cX5_isSureAt 1 = .ok (.iload_n 2, 1) := by decide +kernel
theorem dX5_isSureAt_2 : decode cX5_isSureAt 2 = .ok (.imul, 1) := by decide +kernel
theorem dX5_isSureAt_3 : decode cX5_isSureAt 3 = .ok (.iload_n 1, 1) := by decide +kernel
theorem dX5_isSureAt_4 : decode cX5_isSureAt 4 = .ok (.isub, 1) := by decide +kernel
theorem dX5_isSureAt_5 : decode cX5_isSureAt 5 = .ok (.istore_n 3, 1) := by decide +kernel
theorem dX5_isSureAt_6 : decode cX5_isSureAt 6 = .ok (.iload_n 3, 1) := by decide +kernel
theorem dX5_isSureAt_7 : decode cX5_isSureAt 7 = .ok (.aload_n 0, 1) := by decide +kernel
theorem dX5_isSureAt_8 : decode cX5_isSureAt 8 = .ok (.getfield 254, 3) := by decide +kernel
theorem dX5_isSureAt_11 : decode cX5_isSureAt 11 = .ok (.iload_n 1, 1) := by decide +kernel
theorem dX5_isSureAt_12 : decode cX5_isSureAt 12 = .ok (.isub, 1) := by decide +kernel
theorem dX5_isSureAt_13 : decode cX5_isSureAt 13 = .ok (.if_icmp .gt 14, 3) := by decide +kernel
theorem dX5_isSureAt_16 : decode cX5_isSureAt 16 = .ok (.iload_n 3, 1) := by decide +kernel
theorem dX5_isSureAt_17 : decode cX5_isSureAt 17 = .ok (.ineg, 1) := by decide +kernel
theorem dX5_isSureAt_18 : decode cX5_isSureAt 18 = .ok (.aload_n 0, 1) := by decide +kernel
theorem dX5_isSureAt_19 : decode cX5_isSureAt 19 = .ok (.getfield 254, 3) := by decide +kernel
theorem dX5_isSureAt_22 : decode cX5_isSureAt 22 = .ok (.iload_n 1, 1) := by decide +kernel
theorem dX5_isSureAt_23 : decode cX5_isSureAt 23 = .ok (.isub, 1) := by decide +kernel
theorem dX5_isSureAt_24 : decode cX5_isSureAt 24 = .ok (.if_icmp .le 7, 3) := by decide +kernel
theorem dX5_isSureAt_27 : decode cX5_isSureAt 27 = .ok (.iconst 1, 1) := by decide +kernel
theorem dX5_isSureAt_28 : decode cX5_isSureAt 28 = .ok (.goto 4, 3) := by decide +kernel
theorem dX5_isSureAt_31 : decode cX5_isSureAt 31 = .ok (.iconst 0, 1) := by decide +kernel
theorem dX5_isSureAt_32 : decode cX5_isSureAt 32 = .ok (.ireturn, 1) := by decide +kernel
theorem dX5_isSo_0 : decode cX5_isSo 0 = .ok (.iconst 2, 1) := by decide +kernel
theorem dX5_isSo_1 : decode cX5_isSo 1 = .ok (.iload 4, 2) := by decide +kernel
theorem dX5_isSo_3 : decode cX5_isSo 3 = .ok (.imul, 1) := by decide +kernel
theorem dX5_isSo_4 : decode cX5_isSo 4 = .ok (.iload_n 3, 1) := by decide +kernel
theorem dX5_isSo_5 : decode cX5_isSo 5 = .ok (.isub, 1) := by decide +kernel
theorem dX5_isSo_6 : decode cX5_isSo 6 = .ok (.istore 5, 2) := by decide +kernel
theorem dX5_isSo_8 : decode cX5_isSo 8 = .ok (.iload_n 1, 1) := by decide +kernel
theorem dX5_isSo_9 : decode cX5_isSo 9 = .ok (.tableswitch 144 1 6 #[39, 56, 67, 79, 95, 127], 39) := by decide +kernel
theorem dX5_isSo_48 : decode cX5_isSo 48 = .ok (.iload 4, 2) := by decide +kernel
theorem dX5_isSo_50 : decode cX5_isSo 50 = .ok (.iload_n 2, 1) := by decide +kernel
theorem dX5_isSo_51 : decode cX5_isSo 51 = .ok (.iload_n 3, 1) := by decide +kernel
theorem dX5_isSo_52 : decode cX5_isSo 52 = .ok (.iload 4, 2) := by decide +kernel
theorem dX5_isSo_54 : decode cX5_isSo 54 = .ok (.isub, 1) := by decide +kernel
theorem dX5_isSo_55 : decode cX5_isSo 55 = .ok (.imul, 1) := by decide +kernel
theorem dX5_isSo_56 : decode cX5_isSo 56 = .ok (.if_icmp .le 7, 3) := by decide +kernel
theorem dX5_isSo_59 : decode cX5_isSo 59 = .ok (.iconst 1, 1) := by decide +kernel
theorem dX5_isSo_60 : decode cX5_isSo 60 = .ok (.goto 4, 3) := by decide +kernel
theorem dX5_isSo_63 : decode cX5_isSo 63 = .ok (.iconst 0, 1) := by decide +kernel
theorem dX5_isSo_64 : decode cX5_isSo 64 = .ok (.ireturn, 1) := by decide +kernel
theorem dX5_isSo_65 : decode cX5_isSo 65 = .ok (.iload 5, 2) := by decide +kernel
theorem dX5_isSo_67 : decode cX5_isSo 67 = .ok (.ifCond .lt 7, 3) := by decide +kernel
theorem dX5_isSo_70 : decode cX5_isSo 70 = .ok (.iconst 1, 1) := by decide +kernel
theorem dX5_isSo_71 : decode cX5_isSo 71 = .ok (.goto 4, 3) := by decide +kernel
theorem dX5_isSo_74 : decode cX5_isSo 74 = .ok (.iconst 0, 1) := by decide +kernel
theorem dX5_isSo_75 : decode cX5_isSo 75 = .ok (.ireturn, 1) := by decide +kernel
theorem dX5_isSo_76 : decode cX5_isSo 76 = .ok (.iload 5, 2) := by decide +kernel
theorem dX5_isSo_78 : decode cX5_isSo 78 = .ok (.iload_n 2, 1) := by decide +kernel
theorem dX5_isSo_79 : decode cX5_isSo 79 = .ok (.if_icmp .gt 7, 3) := by decide +kernel
theorem dX5_isSo_82 : decode cX5_isSo 82 = .ok (.iconst 1, 1) := by decide +kernel
theorem dX5_isSo_83 : decode cX5_isSo 83 = .ok (.goto 4, 3) := by decide +kernel
theorem dX5_isSo_86 : decode cX5_isSo 86 = .ok (.iconst 0, 1) := by decide +kernel
theorem dX5_isSo_87 : decode cX5_isSo 87 = .ok (.ireturn, 1) := by decide +kernel
theorem dX5_isSo_88 : decode cX5_isSo 88 = .ok (.iload_n 3, 1) := by decide +kernel
theorem dX5_isSo_89 : decode cX5_isSo 89 = .ok (.iload_n 2, 1) := by decide +kernel
theorem dX5_isSo_90 : decode cX5_isSo 90 = .ok (.if_icmp .le 8, 3) := by decide +kernel
theorem dX5_isSo_93 : decode cX5_isSo 93 = .ok (.iload 5, 2) := by decide +kernel
theorem dX5_isSo_95 : decode cX5_isSo 95 = .ok (.ifCond .eq 7, 3) := by decide +kernel
theorem dX5_isSo_98 : decode cX5_isSo 98 = .ok (.iconst 1, 1) := by decide +kernel
theorem dX5_isSo_99 : decode cX5_isSo 99 = .ok (.goto 4, 3) := by decide +kernel
theorem dX5_isSo_102 : decode cX5_isSo 102 = .ok (.iconst 0, 1) := by decide +kernel
theorem dX5_isSo_103 : decode cX5_isSo 103 = .ok (.ireturn, 1) := by decide +kernel
theorem dX5_isSo_104 : decode cX5_isSo 104 = .ok (.iload_n 3, 1) := by decide +kernel
theorem dX5_isSo_105 : decode cX5_isSo 105 = .ok (.iconst 2, 1) := by decide +kernel
theorem dX5_isSo_106 : decode cX5_isSo 106 = .ok (.irem, 1) := by decide +kernel
theorem dX5_isSo_107 : decode cX5_isSo 107 = .ok (.iconst 1, 1) := by decide +kernel
theorem dX5_isSo_108 : decode cX5_isSo 108 = .ok (.if_icmp .ne 11, 3) := by decide +kernel
theorem dX5_isSo_111 : decode cX5_isSo 111 = .ok (.iload_n 3, 1) := by decide +kernel
theorem dX5_isSo_112 : decode cX5_isSo 112 = .ok (.aload_n 0, 1) := by decide +kernel
theorem dX5_isSo_113 : decode cX5_isSo 113 = .ok (.getfield 254, 3) := by decide +kernel
theorem dX5_isSo_116 : decode cX5_isSo 116 = .ok (.if_icmp .lt 14, 3) := by decide +kernel
theorem dX5_isSo_119 : decode cX5_isSo 119 = .ok (.iload 4, 2) := by decide +kernel
theorem dX5_isSo_121 : decode cX5_isSo 121 = .ok (.iload_n 2, 1) := by decide +kernel
theorem dX5_isSo_122 : decode cX5_isSo 122 = .ok (.iload_n 3, 1) := by decide +kernel
theorem dX5_isSo_123 : decode cX5_isSo 123 = .ok (.iload 4, 2) := by decide +kernel
theorem dX5_isSo_125 : decode cX5_isSo 125 = .ok (.isub, 1) := by decide +kernel
theorem dX5_isSo_126 : decode cX5_isSo 126 = .ok (.imul, 1) := by decide +kernel
theorem dX5_isSo_127 : decode cX5_isSo 127 = .ok (.if_icmp .le 7, 3) := by decide +kernel
theorem dX5_isSo_130 : decode cX5_isSo 130 = .ok (.iconst 1, 1) := by decide +kernel
theorem dX5_isSo_131 : decode cX5_isSo 131 = .ok (.goto 4, 3) := by decide +kernel
theorem dX5_isSo_134 : decode cX5_isSo 134 = .ok (.iconst 0, 1) := by decide +kernel
theorem dX5_isSo_135 : decode cX5_isSo 135 = .ok (.ireturn, 1) := by decide +kernel
theorem dX5_isSo_136 : decode cX5_isSo 136 = .ok (.iload 4, 2) := by decide +kernel
theorem dX5_isSo_138 : decode cX5_isSo 138 = .ok (.iload_n 2, 1) := by decide +kernel
theorem dX5_isSo_139 : decode cX5_isSo 139 = .ok (.iload_n 3, 1) := by decide +kernel
theorem dX5_isSo_140 : decode cX5_isSo 140 = .ok (.iload 4, 2) := by decide +kernel
theorem dX5_isSo_142 : decode cX5_isSo 142 = .ok (.isub, 1) := by decide +kernel
theorem dX5_isSo_143 : decode cX5_isSo 143 = .ok (.imul, 1) := by decide +kernel
theorem dX5_isSo_144 : decode cX5_isSo 144 = .ok (.if_icmp .gt 7, 3) := by decide +kernel
theorem dX5_isSo_147 : decode cX5_isSo 147 = .ok (.iconst 1, 1) := by decide +kernel
theorem dX5_isSo_148 : decode cX5_isSo 148 = .ok (.goto 4, 3) := by decide +kernel
theorem dX5_isSo_151 : decode cX5_isSo 151 = .ok (.iconst 0, 1) := by decide +kernel
theorem dX5_isSo_152 : decode cX5_isSo 152 = .ok (.ireturn, 1) := by decide +kernel
theorem dX5_isSo_153 : decode cX5_isSo 153 = .ok (.iconst 1, 1) := by decide +kernel
theorem dX5_isSo_154 : decode cX5_isSo 154 = .ok (.ireturn, 1) := by decide +kernel
theorem dX5_count_0 : decode cX5_count 0 = .ok (.iconst 0, 1) := by decide +kernel
theorem dX5_count_1 : decode cX5_count 1 = .ok (.istore_n 3, 1) := by decide +kernel
theorem dX5_count_2 : decode cX5_count 2 = .ok (.iload_n 3, 1) := by decide +kernel
theorem dX5_count_3 : decode cX5_count 3 = .ok (.aload_n 0, 1) := by decide +kernel
theorem dX5_count_4 : decode cX5_count 4 = .ok (.getfield 254, 3) := by decide +kernel
theorem dX5_count_7 : decode cX5_count 7 = .ok (.if_icmp .gt 121, 3) := by decide +kernel
theorem dX5_count_10 : decode cX5_count 10 = .ok (.iconst 0, 1) := by decide +kernel
theorem dX5_count_11 : decode cX5_count 11 = .ok (.istore 4, 2) := by decide +kernel
theorem dX5_count_13 : decode cX5_count 13 = .ok (.iload 4, 2) := by decide +kernel
theorem dX5_count_15 : decode cX5_count 15 = .ok (.iload_n 3, 1) := by decide +kernel
theorem dX5_count_16 : decode cX5_count 16 = .ok (.if_icmp .gt 106, 3) := by decide +kernel
theorem dX5_count_19 : decode cX5_count 19 = .ok (.iload_n 3, 1) := by decide +kernel
theorem dX5_count_20 : decode cX5_count 20 = .ok (.ifCond .ne 7, 3) := by decide +kernel
theorem dX5_count_23 : decode cX5_count 23 = .ok (.lconst 1, 1) := by decide +kernel
theorem dX5_count_24 : decode cX5_count 24 = .ok (.goto 47, 3) := by decide +kernel
theorem dX5_count_27 : decode cX5_count 27 = .ok (.iload 4, 2) := by decide +kernel
theorem dX5_count_29 : decode cX5_count 29 = .ok (.ifCond .le 19, 3) := by decide +kernel
theorem dX5_count_32 : decode cX5_count 32 = .ok (.aload_n 0, 1) := by decide +kernel
theorem dX5_count_33 : decode cX5_count 33 = .ok (.getfield 69, 3) := by decide +kernel
theorem dX5_count_36 : decode cX5_count 36 = .ok (.iload_n 3, 1) := by decide +kernel
theorem dX5_count_37 : decode cX5_count 37 = .ok (.iconst 1, 1) := by decide +kernel
theorem dX5_count_38 : decode cX5_count 38 = .ok (.isub, 1) := by decide +kernel
theorem dX5_count_39 : decode cX5_count 39 = .ok (.aaload, 1) := by decide +kernel
theorem dX5_count_40 : decode cX5_count 40 = .ok (.iload 4, 2) := by decide +kernel
theorem dX5_count_42 : decode cX5_count 42 = .ok (.iconst 1, 1) := by decide +kernel
theorem dX5_count_43 : decode cX5_count 43 = .ok (.isub, 1) := by decide +kernel
theorem dX5_count_44 : decode cX5_count 44 = .ok (.laload, 1) := by decide +kernel
theorem dX5_count_45 : decode cX5_count 45 = .ok (.goto 4, 3) := by decide +kernel
theorem dX5_count_48 : decode cX5_count 48 = .ok (.lconst 0, 1) := by decide +kernel
theorem dX5_count_49 : decode cX5_count 49 = .ok (.iload 4, 2) := by decide +kernel
theorem dX5_count_51 : decode cX5_count 51 = .ok (.iload_n 3, 1) := by decide +kernel
theorem dX5_count_52 : decode cX5_count 52 = .ok (.if_icmp .ge 17, 3) := by decide +kernel
theorem dX5_count_55 : decode cX5_count 55 = .ok (.aload_n 0, 1) := by decide +kernel
theorem dX5_count_56 : decode cX5_count 56 = .ok (.getfield 69, 3) := by decide +kernel
theorem dX5_count_59 : decode cX5_count 59 = .ok (.iload_n 3, 1) := by decide +kernel
theorem dX5_count_60 : decode cX5_count 60 = .ok (.iconst 1, 1) := by decide +kernel
theorem dX5_count_61 : decode cX5_count 61 = .ok (.isub, 1) := by decide +kernel
theorem dX5_count_62 : decode cX5_count 62 = .ok (.aaload, 1) := by decide +kernel
theorem dX5_count_63 : decode cX5_count 63 = .ok (.iload 4, 2) := by decide +kernel
theorem dX5_count_65 : decode cX5_count 65 = .ok (.laload, 1) := by decide +kernel
theorem dX5_count_66 : decode cX5_count 66 = .ok (.goto 4, 3) := by decide +kernel
theorem dX5_count_69 : decode cX5_count 69 = .ok (.lconst 0, 1) := by decide +kernel
theorem dX5_count_70 : decode cX5_count 70 = .ok (.ladd, 1) := by decide +kernel
theorem dX5_count_71 : decode cX5_count 71 = .ok (.lstore 5, 2) := by decide +kernel
theorem dX5_count_73 : decode cX5_count 73 = .ok (.aload_n 0, 1) := by decide +kernel
theorem dX5_count_74 : decode cX5_count 74 = .ok (.getfield 69, 3) := by decide +kernel
theorem dX5_count_77 : decode cX5_count 77 = .ok (.iload_n 3, 1) := by decide +kernel
theorem dX5_count_78 : decode cX5_count 78 = .ok (.aaload, 1) := by decide +kernel
theorem dX5_count_79 : decode cX5_count 79 = .ok (.iload 4, 2) := by decide +kernel
theorem dX5_count_81 : decode cX5_count 81 = .ok (.aload_n 0, 1) := by decide +kernel
theorem dX5_count_82 : decode cX5_count 82 = .ok (.getfield 66, 3) := by decide +kernel
theorem dX5_count_85 : decode cX5_count 85 = .ok (.iload_n 3, 1) := by decide +kernel
theorem dX5_count_86 : decode cX5_count 86 = .ok (.aaload, 1) := by decide +kernel
theorem dX5_count_87 : decode cX5_count 87 = .ok (.iload 4, 2) := by decide +kernel
theorem dX5_count_89 : decode cX5_count 89 = .ok (.baload, 1) := by decide +kernel
theorem dX5_count_90 : decode cX5_count 90 = .ok (.ifCond .eq 24, 3) := by decide +kernel
theorem dX5_count_93 : decode cX5_count 93 = .ok (.iload_n 3, 1) := by decide +kernel
theorem dX5_count_94 : decode cX5_count 94 = .ok (.ifCond .eq 15, 3) := by decide +kernel
theorem dX5_count_97 : decode cX5_count 97 = .ok (.aload_n 0, 1) := by decide +kernel
theorem dX5_count_98 : decode cX5_count 98 = .ok (.iload_n 1, 1) := by decide +kernel
theorem dX5_count_99 : decode cX5_count 99 = .ok (.iload_n 2, 1) := by decide +kernel
theorem dX5_count_100 : decode cX5_count 100 = .ok (.iload_n 3, 1) := by decide +kernel
theorem dX5_count_101 : decode cX5_count 101 = .ok (.iload 4, 2) := by decide +kernel
theorem dX5_count_103 : decode cX5_count 103 = .ok (.invokevirtual 269, 3) := by decide +kernel
theorem dX5_count_106 : decode cX5_count 106 = .ok (.ifCond .eq 8, 3) := by decide +kernel
theorem dX5_count_109 : decode cX5_count 109 = .ok (.lload 5, 2) := by decide +kernel
theorem dX5_count_111 : decode cX5_count 111 = .ok (.goto 4, 3) := by decide +kernel
theorem dX5_count_114 : decode cX5_count 114 = .ok (.lconst 0, 1) := by decide +kernel
theorem dX5_count_115 : decode cX5_count 115 = .ok (.lastore, 1) := by decide +kernel
theorem dX5_count_116 : decode cX5_count 116 = .ok (.iinc 4 1, 3) := by decide +kernel
theorem dX5_count_119 : decode cX5_count 119 = .ok (.goto (-106), 3) := by decide +kernel
theorem dX5_count_122 : decode cX5_count 122 = .ok (.iinc 3 1, 3) := by decide +kernel
theorem dX5_count_125 : decode cX5_count 125 = .ok (.goto (-123), 3) := by decide +kernel
theorem dX5_count_128 : decode cX5_count 128 = .ok (.lconst 0, 1) := by decide +kernel
theorem dX5_count_129 : decode cX5_count 129 = .ok (.lstore_n 3, 1) := by decide +kernel
theorem dX5_count_130 : decode cX5_count 130 = .ok (.iconst 0, 1) := by decide +kernel
theorem dX5_count_131 : decode cX5_count 131 = .ok (.istore 5, 2) := by decide +kernel
theorem dX5_count_133 : decode cX5_count 133 = .ok (.iload 5, 2) := by decide +kernel
theorem dX5_count_135 : decode cX5_count 135 = .ok (.aload_n 0, 1) := by decide +kernel
theorem dX5_count_136 : decode cX5_count 136 = .ok (.getfield 254, 3) := by decide +kernel
theorem dX5_count_139 : decode cX5_count 139 = .ok (.if_icmp .gt 24, 3) := by decide +kernel
theorem dX5_count_142 : decode cX5_count 142 = .ok (.lload_n 3, 1) := by decide +kernel
theorem dX5_count_143 : decode cX5_count 143 = .ok (.aload_n 0, 1) := by decide +kernel
theorem dX5_count_144 : decode cX5_count 144 = .ok (.getfield 69, 3) := by decide +kernel
theorem dX5_count_147 : decode cX5_count 147 = .ok (.aload_n 0, 1) := by decide +kernel
theorem dX5_count_148 : decode cX5_count 148 = .ok (.getfield 254, 3) := by decide +kernel
theorem dX5_count_151 : decode cX5_count 151 = .ok (.aaload, 1) := by decide +kernel
theorem dX5_count_152 : decode cX5_count 152 = .ok (.iload 5, 2) := by decide +kernel
theorem dX5_count_154 : decode cX5_count 154 = .ok (.laload, 1) := by decide +kernel
theorem dX5_count_155 : decode cX5_count 155 = .ok (.ladd, 1) := by decide +kernel
theorem dX5_count_156 : decode cX5_count 156 = .ok (.lstore_n 3, 1) := by decide +kernel
theorem dX5_count_157 : decode cX5_count 157 = .ok (.iinc 5 1, 3) := by decide +kernel
theorem dX5_count_160 : decode cX5_count 160 = .ok (.goto (-27), 3) := by decide +kernel
theorem dX5_count_163 : decode cX5_count 163 = .ok (.lload_n 3, 1) := by decide +kernel
theorem dX5_count_164 : decode cX5_count 164 = .ok (.lreturn, 1) := by decide +kernel
theorem dX5_countBack_0 : decode cX5_countBack 0 = .ok (.aload_n 0, 1) := by decide +kernel
theorem dX5_countBack_1 : decode cX5_countBack 1 = .ok (.getfield 254, 3) := by decide +kernel
theorem dX5_countBack_4 : decode cX5_countBack 4 = .ok (.istore_n 1, 1) := by decide +kernel
theorem dX5_countBack_5 : decode cX5_countBack 5 = .ok (.iload_n 1, 1) := by decide +kernel
theorem dX5_countBack_6 : decode cX5_countBack 6 = .ok (.ifCond .lt 82, 3) := by decide +kernel
theorem dX5_countBack_9 : decode cX5_countBack 9 = .ok (.iconst 0, 1) := by decide +kernel
theorem dX5_countBack_10 : decode cX5_countBack 10 = .ok (.istore_n 2, 1) := by decide +kernel
theorem dX5_countBack_11 : decode cX5_countBack 11 = .ok (.iload_n 2, 1) := by decide +kernel
theorem dX5_countBack_12 : decode cX5_countBack 12 = .ok (.iload_n 1, 1) := by decide +kernel
theorem dX5_countBack_13 : decode cX5_countBack 13 = .ok (.if_icmp .gt 69, 3) := by decide +kernel
theorem dX5_countBack_16 : decode cX5_countBack 16 = .ok (.iload_n 1, 1) := by decide +kernel
theorem dX5_countBack_17 : decode cX5_countBack 17 = .ok (.aload_n 0, 1) := by decide +kernel
theorem dX5_countBack_18 : decode cX5_countBack 18 = .ok (.getfield 254, 3) := by decide +kernel
theorem dX5_countBack_21 : decode cX5_countBack 21 = .ok (.if_icmp .ne 7, 3) := by decide +kernel
theorem dX5_countBack_24 : decode cX5_countBack 24 = .ok (.lconst 1, 1) := by decide +kernel
theorem dX5_countBack_25 : decode cX5_countBack 25 = .ok (.goto 26, 3) := by decide +kernel
theorem dX5_countBack_28 : decode cX5_countBack 28 = .ok (.aload_n 0, 1) := by decide +kernel
theorem dX5_countBack_29 : decode cX5_countBack 29 = .ok (.getfield 72, 3) := by decide +kernel
theorem dX5_countBack_32 : decode cX5_countBack 32 = .ok (.iload_n 1, 1) := by decide +kernel
theorem dX5_countBack_33 : decode cX5_countBack 33 = .ok (.iconst 1, 1) := by decide +kernel
theorem dX5_countBack_34 : decode cX5_countBack 34 = .ok (.iadd, 1) := by decide +kernel
theorem dX5_countBack_35 : decode cX5_countBack 35 = .ok (.aaload, 1) := by decide +kernel
theorem dX5_countBack_36 : decode cX5_countBack 36 = .ok (.iload_n 2, 1) := by decide +kernel
theorem dX5_countBack_37 : decode cX5_countBack 37 = .ok (.laload, 1) := by decide +kernel
theorem dX5_countBack_38 : decode cX5_countBack 38 = .ok (.aload_n 0, 1) := by decide +kernel
theorem dX5_countBack_39 : decode cX5_countBack 39 = .ok (.getfield 72, 3) := by decide +kernel
theorem dX5_countBack_42 : decode cX5_countBack 42 = .ok (.iload_n 1, 1) := by decide +kernel
theorem dX5_countBack_43 : decode cX5_countBack 43 = .ok (.iconst 1, 1) := by decide +kernel
theorem dX5_countBack_44 : decode cX5_countBack 44 = .ok (.iadd, 1) := by decide +kernel
theorem dX5_countBack_45 : decode cX5_countBack 45 = .ok (.aaload, 1) := by decide +kernel
theorem dX5_countBack_46 : decode cX5_countBack 46 = .ok (.iload_n 2, 1) := by decide +kernel
theorem dX5_countBack_47 : decode cX5_countBack 47 = .ok (.iconst 1, 1) := by decide +kernel
theorem dX5_countBack_48 : decode cX5_countBack 48 = .ok (.iadd, 1) := by decide +kernel
theorem dX5_countBack_49 : decode cX5_countBack 49 = .ok (.laload, 1) := by decide +kernel
theorem dX5_countBack_50 : decode cX5_countBack 50 = .ok (.ladd, 1) := by decide +kernel
theorem dX5_countBack_51 : decode cX5_countBack 51 = .ok (.lstore_n 3, 1) := by decide +kernel
theorem dX5_countBack_52 : decode cX5_countBack 52 = .ok (.aload_n 0, 1) := by decide +kernel
theorem dX5_countBack_53 : decode cX5_countBack 53 = .ok (.getfield 72, 3) := by decide +kernel
theorem dX5_countBack_56 : decode cX5_countBack 56 = .ok (.iload_n 1, 1) := by decide +kernel
theorem dX5_countBack_57 : decode cX5_countBack 57 = .ok (.aaload, 1) := by decide +kernel
theorem dX5_countBack_58 : decode cX5_countBack 58 = .ok (.iload_n 2, 1) := by decide +kernel
theorem dX5_countBack_59 : decode cX5_countBack 59 = .ok (.aload_n 0, 1) := by decide +kernel
theorem dX5_countBack_60 : decode cX5_countBack 60 = .ok (.getfield 66, 3) := by decide +kernel
theorem dX5_countBack_63 : decode cX5_countBack 63 = .ok (.iload_n 1, 1) := by decide +kernel
theorem dX5_countBack_64 : decode cX5_countBack 64 = .ok (.aaload, 1) := by decide +kernel
theorem dX5_countBack_65 : decode cX5_countBack 65 = .ok (.iload_n 2, 1) := by decide +kernel
theorem dX5_countBack_66 : decode cX5_countBack 66 = .ok (.baload, 1) := by decide +kernel
theorem dX5_countBack_67 : decode cX5_countBack 67 = .ok (.ifCond .eq 7, 3) := by decide +kernel
theorem dX5_countBack_70 : decode cX5_countBack 70 = .ok (.lload_n 3, 1) := by decide +kernel
theorem dX5_countBack_71 : decode cX5_countBack 71 = .ok (.goto 4, 3) := by decide +kernel
theorem dX5_countBack_74 : decode cX5_countBack 74 = .ok (.lconst 0, 1) := by decide +kernel
theorem dX5_countBack_75 : decode cX5_countBack 75 = .ok (.lastore, 1) := by decide +kernel
theorem dX5_countBack_76 : decode cX5_countBack 76 = .ok (.iinc 2 1, 3) := by decide +kernel
theorem dX5_countBack_79 : decode cX5_countBack 79 = .ok (.goto (-68), 3) := by decide +kernel
theorem dX5_countBack_82 : decode cX5_countBack 82 = .ok (.iinc 1 (-1), 3) := by decide +kernel
theorem dX5_countBack_85 : decode cX5_countBack 85 = .ok (.goto (-80), 3) := by decide +kernel
theorem dX5_countBack_88 : decode cX5_countBack 88 = .ok (.return_, 1) := by decide +kernel
theorem dX5_through_0 : decode cX5_through 0 = .ok (.aload_n 0, 1) := by decide +kernel
theorem dX5_through_1 : decode cX5_through 1 = .ok (.getfield 69, 3) := by decide +kernel
theorem dX5_through_4 : decode cX5_through 4 = .ok (.iload_n 1, 1) := by decide +kernel
theorem dX5_through_5 : decode cX5_through 5 = .ok (.aaload, 1) := by decide +kernel
theorem dX5_through_6 : decode cX5_through 6 = .ok (.iload_n 2, 1) := by decide +kernel
theorem dX5_through_7 : decode cX5_through 7 = .ok (.laload, 1) := by decide +kernel
theorem dX5_through_8 : decode cX5_through 8 = .ok (.aload_n 0, 1) := by decide +kernel
theorem dX5_through_9 : decode cX5_through 9 = .ok (.getfield 72, 3) := by decide +kernel
theorem dX5_through_12 : decode cX5_through 12 = .ok (.iload_n 1, 1) := by decide +kernel
theorem dX5_through_13 : decode cX5_through 13 = .ok (.aaload, 1) := by decide +kernel
theorem dX5_through_14 : decode cX5_through 14 = .ok (.iload_n 2, 1) := by decide +kernel
theorem dX5_through_15 : decode cX5_through 15 = .ok (.laload, 1) := by decide +kernel
theorem dX5_through_16 : decode cX5_through 16 = .ok (.lmul, 1) := by decide +kernel
theorem dX5_through_17 : decode cX5_through 17 = .ok (.lreturn, 1) := by decide +kernel
theorem dX5_rows_0 : decode cX5_rows 0 = .ok (.aload_n 0, 1) := by decide +kernel
theorem dX5_rows_1 : decode cX5_rows 1 = .ok (.invokevirtual 263, 3) := by decide +kernel
theorem dX5_rows_4 : decode cX5_rows 4 = .ok (.aload_n 0, 1) := by decide +kernel
theorem dX5_rows_5 : decode cX5_rows 5 = .ok (.iconst 0, 1) := by decide +kernel
theorem dX5_rows_6 : decode cX5_rows 6 = .ok (.iconst 0, 1) := by decide +kernel
theorem dX5_rows_7 : decode cX5_rows 7 = .ok (.invokevirtual 273, 3) := by decide +kernel
theorem dX5_rows_10 : decode cX5_rows 10 = .ok (.l2i, 1) := by decide +kernel
theorem dX5_rows_11 : decode cX5_rows 11 = .ok (.ireturn, 1) := by decide +kernel
theorem dX5_waysOf_0 : decode cX5_waysOf 0 = .ok (.aload_n 0, 1) := by decide +kernel
theorem dX5_waysOf_1 : decode cX5_waysOf 1 = .ok (.invokevirtual 276, 3) := by decide +kernel
theorem dX5_waysOf_4 : decode cX5_waysOf 4 = .ok (.aload_n 0, 1) := by decide +kernel
theorem dX5_waysOf_5 : decode cX5_waysOf 5 = .ok (.iconst 0, 1) := by decide +kernel
theorem dX5_waysOf_6 : decode cX5_waysOf 6 = .ok (.iconst 0, 1) := by decide +kernel
theorem dX5_waysOf_7 : decode cX5_waysOf 7 = .ok (.invokevirtual 273, 3) := by decide +kernel
theorem dX5_waysOf_10 : decode cX5_waysOf 10 = .ok (.lreturn, 1) := by decide +kernel
theorem dX5_ways_0 : decode cX5_ways 0 = .ok (.aload_n 0, 1) := by decide +kernel
theorem dX5_ways_1 : decode cX5_ways 1 = .ok (.invokevirtual 279, 3) := by decide +kernel
theorem dX5_ways_4 : decode cX5_ways 4 = .ok (.l2i, 1) := by decide +kernel
theorem dX5_ways_5 : decode cX5_ways 5 = .ok (.ireturn, 1) := by decide +kernel
theorem dX5_heapAt_0 : decode cX5_heapAt 0 = .ok (.iload_n 1, 1) := by decide +kernel
theorem dX5_heapAt_1 : decode cX5_heapAt 1 = .ok (.istore_n 2, 1) := by decide +kernel
theorem dX5_heapAt_2 : decode cX5_heapAt 2 = .ok (.iconst 0, 1) := by decide +kernel
theorem dX5_heapAt_3 : decode cX5_heapAt 3 = .ok (.istore_n 3, 1) := by decide +kernel
theorem dX5_heapAt_4 : decode cX5_heapAt 4 = .ok (.iload_n 3, 1) := by decide +kernel
theorem dX5_heapAt_5 : decode cX5_heapAt 5 = .ok (.aload_n 0, 1) := by decide +kernel
theorem dX5_heapAt_6 : decode cX5_heapAt 6 = .ok (.getfield 130, 3) := by decide +kernel
theorem dX5_heapAt_9 : decode cX5_heapAt 9 = .ok (.if_icmp .ge 52, 3) := by decide +kernel
theorem dX5_heapAt_12 : decode cX5_heapAt 12 = .ok (.aload_n 0, 1) := by decide +kernel
theorem dX5_heapAt_13 : decode cX5_heapAt 13 = .ok (.getfield 40, 3) := by decide +kernel
theorem dX5_heapAt_16 : decode cX5_heapAt 16 = .ok (.aload_n 0, 1) := by decide +kernel
theorem dX5_heapAt_17 : decode cX5_heapAt 17 = .ok (.getfield 46, 3) := by decide +kernel
theorem dX5_heapAt_20 : decode cX5_heapAt 20 = .ok (.iload_n 3, 1) := by decide +kernel
theorem dX5_heapAt_21 : decode cX5_heapAt 21 = .ok (.iaload, 1) := by decide +kernel
theorem dX5_heapAt_22 : decode cX5_heapAt 22 = .ok (.iaload, 1) := by decide +kernel
theorem dX5_heapAt_23 : decode cX5_heapAt 23 = .ok (.aload_n 0, 1) := by decide +kernel
theorem dX5_heapAt_24 : decode cX5_heapAt 24 = .ok (.getfield 43, 3) := by decide +kernel
theorem dX5_heapAt_27 : decode cX5_heapAt 27 = .ok (.aload_n 0, 1) := by decide +kernel
theorem dX5_heapAt_28 : decode cX5_heapAt 28 = .ok (.getfield 46, 3) := by decide +kernel
theorem dX5_heapAt_31 : decode cX5_heapAt 31 = .ok (.iload_n 3, 1) := by decide +kernel
theorem dX5_heapAt_32 : decode cX5_heapAt 32 = .ok (.iaload, 1) := by decide +kernel
theorem dX5_heapAt_33 : decode cX5_heapAt 33 = .ok (.iaload, 1) := by decide +kernel
theorem dX5_heapAt_34 : decode cX5_heapAt 34 = .ok (.iadd, 1) := by decide +kernel
theorem dX5_heapAt_35 : decode cX5_heapAt 35 = .ok (.istore 4, 2) := by decide +kernel
theorem dX5_heapAt_37 : decode cX5_heapAt 37 = .ok (.iload_n 2, 1) := by decide +kernel
theorem dX5_heapAt_38 : decode cX5_heapAt 38 = .ok (.iload 4, 2) := by decide +kernel
theorem dX5_heapAt_40 : decode cX5_heapAt 40 = .ok (.if_icmp .ge 10, 3) := by decide +kernel
theorem dX5_heapAt_43 : decode cX5_heapAt 43 = .ok (.aload_n 0, 1) := by decide +kernel
theorem dX5_heapAt_44 : decode cX5_heapAt 44 = .ok (.getfield 46, 3) := by decide +kernel
theorem dX5_heapAt_47 : decode cX5_heapAt 47 = .ok (.iload_n 3, 1) := by decide +kernel
theorem dX5_heapAt_48 : decode cX5_heapAt 48 = .ok (.iaload, 1) := by decide +kernel
theorem dX5_heapAt_49 : decode cX5_heapAt 49 = .ok (.ireturn, 1) := by decide +kernel
theorem dX5_heapAt_50 : decode cX5_heapAt 50 = .ok (.iload_n 2, 1) := by decide +kernel
theorem dX5_heapAt_51 : decode cX5_heapAt 51 = .ok (.iload 4, 2) := by decide +kernel
theorem dX5_heapAt_53 : decode cX5_heapAt 53 = .ok (.isub, 1) := by decide +kernel
theorem dX5_heapAt_54 : decode cX5_heapAt 54 = .ok (.istore_n 2, 1) := by decide +kernel
theorem dX5_heapAt_55 : decode cX5_heapAt 55 = .ok (.iinc 3 1, 3) := by decide +kernel
theorem dX5_heapAt_58 : decode cX5_heapAt 58 = .ok (.goto (-54), 3) := by decide +kernel
theorem dX5_heapAt_61 : decode cX5_heapAt 61 = .ok (.iconst (-1), 1) := by decide +kernel
theorem dX5_heapAt_62 : decode cX5_heapAt 62 = .ok (.ireturn, 1) := by decide +kernel
theorem dX5_startOf_0 : decode cX5_startOf 0 = .ok (.iconst 0, 1) := by decide +kernel
theorem dX5_startOf_1 : decode cX5_startOf 1 = .ok (.istore_n 2, 1) := by decide +kernel
theorem dX5_startOf_2 : decode cX5_startOf 2 = .ok (.iconst 0, 1) := by decide +kernel
theorem dX5_startOf_3 : decode cX5_startOf 3 = .ok (.istore_n 3, 1) := by decide +kernel
theorem dX5_startOf_4 : decode cX5_startOf 4 = .ok (.aload_n 0, 1) := by decide +kernel
theorem dX5_startOf_5 : decode cX5_startOf 5 = .ok (.getfield 46, 3) := by decide +kernel
theorem dX5_startOf_8 : decode cX5_startOf 8 = .ok (.iload_n 3, 1) := by decide +kernel
theorem dX5_startOf_9 : decode cX5_startOf 9 = .ok (.iaload, 1) := by decide +kernel
theorem dX5_startOf_10 : decode cX5_startOf 10 = .ok (.iload_n 1, 1) := by decide +kernel
theorem dX5_startOf_11 : decode cX5_startOf 11 = .ok (.if_icmp .eq 35, 3) := by decide +kernel
theorem dX5_startOf_14 : decode cX5_startOf 14 = .ok (.iload_n 2, 1) := by decide +kernel
theorem dX5_startOf_15 : decode cX5_startOf 15 = .ok (.aload_n 0, 1) := by decide +kernel
theorem dX5_startOf_16 : decode cX5_startOf 16 = .ok (.getfield 40, 3) := by decide +kernel
theorem dX5_startOf_19 : decode cX5_startOf 19 = .ok (.aload_n 0, 1) := by decide +kernel
theorem dX5_startOf_20 : decode cX5_startOf 20 = .ok (.getfield 46, 3) := by decide +kernel
theorem dX5_startOf_23 : decode cX5_startOf 23 = .ok (.iload_n 3, 1) := by decide +kernel
theorem dX5_startOf_24 : decode cX5_startOf 24 = .ok (.iaload, 1) := by decide +kernel
theorem dX5_startOf_25 : decode cX5_startOf 25 = .ok (.iaload, 1) := by decide +kernel
theorem dX5_startOf_26 : decode cX5_startOf 26 = .ok (.aload_n 0, 1) := by decide +kernel
theorem dX5_startOf_27 : decode cX5_startOf 27 = .ok (.getfield 43, 3) := by decide +kernel
theorem dX5_startOf_30 : decode cX5_startOf 30 = .ok (.aload_n 0, 1) := by decide +kernel
theorem dX5_startOf_31 : decode cX5_startOf 31 = .ok (.getfield 46, 3) := by decide +kernel
theorem dX5_startOf_34 : decode cX5_startOf 34 = .ok (.iload_n 3, 1) := by decide +kernel
theorem dX5_startOf_35 : decode cX5_startOf 35 = .ok (.iaload, 1) := by decide +kernel
theorem dX5_startOf_36 : decode cX5_startOf 36 = .ok (.iaload, 1) := by decide +kernel
theorem dX5_startOf_37 : decode cX5_startOf 37 = .ok (.iadd, 1) := by decide +kernel
theorem dX5_startOf_38 : decode cX5_startOf 38 = .ok (.iadd, 1) := by decide +kernel
theorem dX5_startOf_39 : decode cX5_startOf 39 = .ok (.istore_n 2, 1) := by decide +kernel
theorem dX5_startOf_40 : decode cX5_startOf 40 = .ok (.iinc 3 1, 3) := by decide +kernel
theorem dX5_startOf_43 : decode cX5_startOf 43 = .ok (.goto (-39), 3) := by decide +kernel
theorem dX5_startOf_46 : decode cX5_startOf 46 = .ok (.iload_n 2, 1) := by decide +kernel
theorem dX5_startOf_47 : decode cX5_startOf 47 = .ok (.ireturn, 1) := by decide +kernel
