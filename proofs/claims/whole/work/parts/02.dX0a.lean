theorem dX0_init_0 : decode cX0_init 0 = .ok (.aload_n 0, 1) := by decide +kernel
theorem dX0_init_1 : decode cX0_init 1 = .ok (.invokespecial 3, 3) := by decide +kernel
theorem dX0_init_4 : decode cX0_init 4 = .ok (.aload_n 0, 1) := by decide +kernel
theorem dX0_init_5 : decode cX0_init 5 = .ok (.bipush 25, 2) := by decide +kernel
theorem dX0_init_7 : decode cX0_init 7 = .ok (.newarray .int, 2) := by decide +kernel
theorem dX0_init_9 : decode cX0_init 9 = .ok (.putfield 9, 3) := by decide +kernel
theorem dX0_init_12 : decode cX0_init 12 = .ok (.aload_n 0, 1) := by decide +kernel
theorem dX0_init_13 : decode cX0_init 13 = .ok (.bipush 25, 2) := by decide +kernel
theorem dX0_init_15 : decode cX0_init 15 = .ok (.newarray .int, 2) := by decide +kernel
theorem dX0_init_17 : decode cX0_init 17 = .ok (.putfield 15, 3) := by decide +kernel
theorem dX0_init_20 : decode cX0_init 20 = .ok (.aload_n 0, 1) := by decide +kernel
theorem dX0_init_21 : decode cX0_init 21 = .ok (.bipush 25, 2) := by decide +kernel
theorem dX0_init_23 : decode cX0_init 23 = .ok (.newarray .int, 2) := by decide +kernel
theorem dX0_init_25 : decode cX0_init 25 = .ok (.putfield 18, 3) := by decide +kernel
theorem dX0_init_28 : decode cX0_init 28 = .ok (.aload_n 0, 1) := by decide +kernel
theorem dX0_init_29 : decode cX0_init 29 = .ok (.bipush 25, 2) := by decide +kernel
theorem dX0_init_31 : decode cX0_init 31 = .ok (.newarray .int, 2) := by decide +kernel
theorem dX0_init_33 : decode cX0_init 33 = .ok (.putfield 21, 3) := by decide +kernel
theorem dX0_init_36 : decode cX0_init 36 = .ok (.aload_n 0, 1) := by decide +kernel
theorem dX0_init_37 : decode cX0_init 37 = .ok (.bipush 25, 2) := by decide +kernel
theorem dX0_init_39 : decode cX0_init 39 = .ok (.newarray .long, 2) := by decide +kernel
theorem dX0_init_41 : decode cX0_init 41 = .ok (.putfield 24, 3) := by decide +kernel
theorem dX0_init_44 : decode cX0_init 44 = .ok (.aload_n 0, 1) := by decide +kernel
theorem dX0_init_45 : decode cX0_init 45 = .ok (.sipush 625, 3) := by decide +kernel
theorem dX0_init_48 : decode cX0_init 48 = .ok (.newarray .int, 2) := by decide +kernel
theorem dX0_init_50 : decode cX0_init 50 = .ok (.putfield 28, 3) := by decide +kernel
theorem dX0_init_53 : decode cX0_init 53 = .ok (.return_, 1) := by decide +kernel
theorem dX0_layHeaps_0 : decode cX0_layHeaps 0 = .ok (.aload_n 0, 1) := by decide +kernel
theorem dX0_layHeaps_1 : decode cX0_layHeaps 1 = .ok (.invokevirtual 31, 3) := by decide +kernel
theorem dX0_layHeaps_4 : decode cX0_layHeaps 4 = .ok (.iconst 0, 1) := by decide +kernel
theorem dX0_layHeaps_5 : decode cX0_layHeaps 5 = .ok (.istore_n 3, 1) := by decide +kernel
theorem dX0_layHeaps_6 : decode cX0_layHeaps 6 = .ok (.iload_n 3, 1) := by decide +kernel
theorem dX0_layHeaps_7 : decode cX0_layHeaps 7 = .ok (.aload_n 1, 1) := by decide +kernel
theorem dX0_layHeaps_8 : decode cX0_layHeaps 8 = .ok (.getfield 34, 3) := by decide +kernel
theorem dX0_layHeaps_11 : decode cX0_layHeaps 11 = .ok (.if_icmp .ge 35, 3) := by decide +kernel
theorem dX0_layHeaps_14 : decode cX0_layHeaps 14 = .ok (.iload_n 3, 1) := by decide +kernel
theorem dX0_layHeaps_15 : decode cX0_layHeaps 15 = .ok (.aload_n 2, 1) := by decide +kernel
theorem dX0_layHeaps_16 : decode cX0_layHeaps 16 = .ok (.arraylength, 1) := by decide +kernel
theorem dX0_layHeaps_17 : decode cX0_layHeaps 17 = .ok (.if_icmp .ge 29, 3) := by decide +kernel
theorem dX0_layHeaps_20 : decode cX0_layHeaps 20 = .ok (.aload_n 0, 1) := by decide +kernel
theorem dX0_layHeaps_21 : decode cX0_layHeaps 21 = .ok (.aload_n 1, 1) := by decide +kernel
theorem dX0_layHeaps_22 : decode cX0_layHeaps 22 = .ok (.getfield 40, 3) := by decide +kernel
theorem dX0_layHeaps_25 : decode cX0_layHeaps 25 = .ok (.aload_n 2, 1) := by decide +kernel
theorem dX0_layHeaps_26 : decode cX0_layHeaps 26 = .ok (.iload_n 3, 1) := by decide +kernel
theorem dX0_layHeaps_27 : decode cX0_layHeaps 27 = .ok (.iaload, 1) := by decide +kernel
theorem dX0_layHeaps_28 : decode cX0_layHeaps 28 = .ok (.iaload, 1) := by decide +kernel
theorem dX0_layHeaps_29 : decode cX0_layHeaps 29 = .ok (.aload_n 1, 1) := by decide +kernel
theorem dX0_layHeaps_30 : decode cX0_layHeaps 30 = .ok (.getfield 43, 3) := by decide +kernel
theorem dX0_layHeaps_33 : decode cX0_layHeaps 33 = .ok (.aload_n 2, 1) := by decide +kernel
theorem dX0_layHeaps_34 : decode cX0_layHeaps 34 = .ok (.iload_n 3, 1) := by decide +kernel
theorem dX0_layHeaps_35 : decode cX0_layHeaps 35 = .ok (.iaload, 1) := by decide +kernel
theorem dX0_layHeaps_36 : decode cX0_layHeaps 36 = .ok (.iaload, 1) := by decide +kernel
theorem dX0_layHeaps_37 : decode cX0_layHeaps 37 = .ok (.invokevirtual 46, 3) := by decide +kernel
theorem dX0_layHeaps_40 : decode cX0_layHeaps 40 = .ok (.iinc 3 1, 3) := by decide +kernel
theorem dX0_layHeaps_43 : decode cX0_layHeaps 43 = .ok (.goto (-37), 3) := by decide +kernel
theorem dX0_layHeaps_46 : decode cX0_layHeaps 46 = .ok (.return_, 1) := by decide +kernel
theorem dX0_layShaken_0 : decode cX0_layShaken 0 = .ok (.aload_n 0, 1) := by decide +kernel
theorem dX0_layShaken_1 : decode cX0_layShaken 1 = .ok (.invokevirtual 31, 3) := by decide +kernel
theorem dX0_layShaken_4 : decode cX0_layShaken 4 = .ok (.aload_n 0, 1) := by decide +kernel
theorem dX0_layShaken_5 : decode cX0_layShaken 5 = .ok (.aload_n 1, 1) := by decide +kernel
theorem dX0_layShaken_6 : decode cX0_layShaken 6 = .ok (.getfield 50, 3) := by decide +kernel
theorem dX0_layShaken_9 : decode cX0_layShaken 9 = .ok (.aload_n 1, 1) := by decide +kernel
theorem dX0_layShaken_10 : decode cX0_layShaken 10 = .ok (.getfield 53, 3) := by decide +kernel
theorem dX0_layShaken_13 : decode cX0_layShaken 13 = .ok (.aload_n 1, 1) := by decide +kernel
theorem dX0_layShaken_14 : decode cX0_layShaken 14 = .ok (.getfield 50, 3) := by decide +kernel
theorem dX0_layShaken_17 : decode cX0_layShaken 17 = .ok (.isub, 1) := by decide +kernel
theorem dX0_layShaken_18 : decode cX0_layShaken 18 = .ok (.invokevirtual 46, 3) := by decide +kernel
theorem dX0_layShaken_21 : decode cX0_layShaken 21 = .ok (.return_, 1) := by decide +kernel
theorem dX0_layFitting_0 : decode cX0_layFitting 0 = .ok (.aload_n 0, 1) := by decide +kernel
theorem dX0_layFitting_1 : decode cX0_layFitting 1 = .ok (.aload_n 1, 1) := by decide +kernel
theorem dX0_layFitting_2 : decode cX0_layFitting 2 = .ok (.aload_n 1, 1) := by decide +kernel
theorem dX0_layFitting_3 : decode cX0_layFitting 3 = .ok (.getfield 56, 3) := by decide +kernel
theorem dX0_layFitting_6 : decode cX0_layFitting 6 = .ok (.invokevirtual 59, 3) := by decide +kernel
theorem dX0_layFitting_9 : decode cX0_layFitting 9 = .ok (.iconst 0, 1) := by decide +kernel
theorem dX0_layFitting_10 : decode cX0_layFitting 10 = .ok (.istore_n 2, 1) := by decide +kernel
theorem dX0_layFitting_11 : decode cX0_layFitting 11 = .ok (.iconst 0, 1) := by decide +kernel
theorem dX0_layFitting_12 : decode cX0_layFitting 12 = .ok (.istore_n 3, 1) := by decide +kernel
theorem dX0_layFitting_13 : decode cX0_layFitting 13 = .ok (.iload_n 3, 1) := by decide +kernel
theorem dX0_layFitting_14 : decode cX0_layFitting 14 = .ok (.aload_n 1, 1) := by decide +kernel
theorem dX0_layFitting_15 : decode cX0_layFitting 15 = .ok (.getfield 63, 3) := by decide +kernel
theorem dX0_layFitting_18 : decode cX0_layFitting 18 = .ok (.if_icmp .ge 26, 3) := by decide +kernel
theorem dX0_layFitting_21 : decode cX0_layFitting 21 = .ok (.iload_n 2, 1) := by decide +kernel
theorem dX0_layFitting_22 : decode cX0_layFitting 22 = .ok (.aload_n 1, 1) := by decide +kernel
theorem dX0_layFitting_23 : decode cX0_layFitting 23 = .ok (.getfield 66, 3) := by decide +kernel
theorem dX0_layFitting_26 : decode cX0_layFitting 26 = .ok (.iload_n 3, 1) := by decide +kernel
theorem dX0_layFitting_27 : decode cX0_layFitting 27 = .ok (.iaload, 1) := by decide +kernel
theorem dX0_layFitting_28 : decode cX0_layFitting 28 = .ok (.iadd, 1) := by decide +kernel
theorem dX0_layFitting_29 : decode cX0_layFitting 29 = .ok (.istore_n 2, 1) := by decide +kernel
theorem dX0_layFitting_30 : decode cX0_layFitting 30 = .ok (.aload_n 0, 1) := by decide +kernel
theorem dX0_layFitting_31 : decode cX0_layFitting 31 = .ok (.iload_n 3, 1) := by decide +kernel
theorem dX0_layFitting_32 : decode cX0_layFitting 32 = .ok (.iconst 1, 1) := by decide +kernel
theorem dX0_layFitting_33 : decode cX0_layFitting 33 = .ok (.iadd, 1) := by decide +kernel
theorem dX0_layFitting_34 : decode cX0_layFitting 34 = .ok (.iload_n 2, 1) := by decide +kernel
theorem dX0_layFitting_35 : decode cX0_layFitting 35 = .ok (.invokevirtual 69, 3) := by decide +kernel
theorem dX0_layFitting_38 : decode cX0_layFitting 38 = .ok (.iinc 3 1, 3) := by decide +kernel
theorem dX0_layFitting_41 : decode cX0_layFitting 41 = .ok (.goto (-28), 3) := by decide +kernel
theorem dX0_layFitting_44 : decode cX0_layFitting 44 = .ok (.iconst 0, 1) := by decide +kernel
theorem dX0_layFitting_45 : decode cX0_layFitting 45 = .ok (.istore_n 3, 1) := by decide +kernel
theorem dX0_layFitting_46 : decode cX0_layFitting 46 = .ok (.iload_n 3, 1) := by decide +kernel
theorem dX0_layFitting_47 : decode cX0_layFitting 47 = .ok (.aload_n 1, 1) := by decide +kernel
theorem dX0_layFitting_48 : decode cX0_layFitting 48 = .ok (.getfield 72, 3) := by decide +kernel
theorem dX0_layFitting_51 : decode cX0_layFitting 51 = .ok (.if_icmp .ge 31, 3) := by decide +kernel
theorem dX0_layFitting_54 : decode cX0_layFitting 54 = .ok (.aload_n 0, 1) := by decide +kernel
theorem dX0_layFitting_55 : decode cX0_layFitting 55 = .ok (.aload_n 1, 1) := by decide +kernel
theorem dX0_layFitting_56 : decode cX0_layFitting 56 = .ok (.getfield 75, 3) := by decide +kernel
theorem dX0_layFitting_59 : decode cX0_layFitting 59 = .ok (.iload_n 3, 1) := by decide +kernel
theorem dX0_layFitting_60 : decode cX0_layFitting 60 = .ok (.iaload, 1) := by decide +kernel
theorem dX0_layFitting_61 : decode cX0_layFitting 61 = .ok (.aload_n 1, 1) := by decide +kernel
theorem dX0_layFitting_62 : decode cX0_layFitting 62 = .ok (.getfield 78, 3) := by decide +kernel
theorem dX0_layFitting_65 : decode cX0_layFitting 65 = .ok (.iload_n 3, 1) := by decide +kernel
theorem dX0_layFitting_66 : decode cX0_layFitting 66 = .ok (.iaload, 1) := by decide +kernel
theorem dX0_layFitting_67 : decode cX0_layFitting 67 = .ok (.aload_n 1, 1) := by decide +kernel
theorem dX0_layFitting_68 : decode cX0_layFitting 68 = .ok (.getfield 81, 3) := by decide +kernel
theorem dX0_layFitting_71 : decode cX0_layFitting 71 = .ok (.iload_n 3, 1) := by decide +kernel
theorem dX0_layFitting_72 : decode cX0_layFitting 72 = .ok (.iaload, 1) := by decide +kernel
theorem dX0_layFitting_73 : decode cX0_layFitting 73 = .ok (.invokevirtual 84, 3) := by decide +kernel
theorem dX0_layFitting_76 : decode cX0_layFitting 76 = .ok (.iinc 3 1, 3) := by decide +kernel
theorem dX0_layFitting_79 : decode cX0_layFitting 79 = .ok (.goto (-33), 3) := by decide +kernel
theorem dX0_layFitting_82 : decode cX0_layFitting 82 = .ok (.return_, 1) := by decide +kernel
theorem dX0_layNothing_0 : decode cX0_layNothing 0 = .ok (.aload_n 0, 1) := by decide +kernel
theorem dX0_layNothing_1 : decode cX0_layNothing 1 = .ok (.iconst 0, 1) := by decide +kernel
theorem dX0_layNothing_2 : decode cX0_layNothing 2 = .ok (.putfield 88, 3) := by decide +kernel
theorem dX0_layNothing_5 : decode cX0_layNothing 5 = .ok (.aload_n 0, 1) := by decide +kernel
theorem dX0_layNothing_6 : decode cX0_layNothing 6 = .ok (.iconst 0, 1) := by decide +kernel
theorem dX0_layNothing_7 : decode cX0_layNothing 7 = .ok (.putfield 91, 3) := by decide +kernel
theorem dX0_layNothing_10 : decode cX0_layNothing 10 = .ok (.aload_n 0, 1) := by decide +kernel
theorem dX0_layNothing_11 : decode cX0_layNothing 11 = .ok (.getfield 15, 3) := by decide +kernel
theorem dX0_layNothing_14 : decode cX0_layNothing 14 = .ok (.iconst 0, 1) := by decide +kernel
theorem dX0_layNothing_15 : decode cX0_layNothing 15 = .ok (.iconst 1, 1) := by decide +kernel
theorem dX0_layNothing_16 : decode cX0_layNothing 16 = .ok (.iastore, 1) := by decide +kernel
theorem dX0_layNothing_17 : decode cX0_layNothing 17 = .ok (.return_, 1) := by decide +kernel
theorem dX0_layHeap_0 : decode cX0_layHeap 0 = .ok (.iconst 1, 1) := by decide +kernel
theorem dX0_layHeap_1 : decode cX0_layHeap 1 = .ok (.istore_n 3, 1) := by decide +kernel
theorem dX0_layHeap_2 : decode cX0_layHeap 2 = .ok (.iload_n 3, 1) := by decide +kernel
theorem dX0_layHeap_3 : decode cX0_layHeap 3 = .ok (.iload_n 1, 1) := by decide +kernel
theorem dX0_layHeap_4 : decode cX0_layHeap 4 = .ok (.iload_n 2, 1) := by decide +kernel
theorem dX0_layHeap_5 : decode cX0_layHeap 5 = .ok (.iadd, 1) := by decide +kernel
theorem dX0_layHeap_6 : decode cX0_layHeap 6 = .ok (.if_icmp .gt 56, 3) := by decide +kernel
theorem dX0_layHeap_9 : decode cX0_layHeap 9 = .ok (.aload_n 0, 1) := by decide +kernel
theorem dX0_layHeap_10 : decode cX0_layHeap 10 = .ok (.getfield 88, 3) := by decide +kernel
theorem dX0_layHeap_13 : decode cX0_layHeap 13 = .ok (.iload_n 3, 1) := by decide +kernel
theorem dX0_layHeap_14 : decode cX0_layHeap 14 = .ok (.iadd, 1) := by decide +kernel
theorem dX0_layHeap_15 : decode cX0_layHeap 15 = .ok (.bipush 25, 2) := by decide +kernel
theorem dX0_layHeap_17 : decode cX0_layHeap 17 = .ok (.if_icmp .ge 45, 3) := by decide +kernel
theorem dX0_layHeap_20 : decode cX0_layHeap 20 = .ok (.aload_n 0, 1) := by decide +kernel
theorem dX0_layHeap_21 : decode cX0_layHeap 21 = .ok (.getfield 15, 3) := by decide +kernel
theorem dX0_layHeap_24 : decode cX0_layHeap 24 = .ok (.aload_n 0, 1) := by decide +kernel
theorem dX0_layHeap_25 : decode cX0_layHeap 25 = .ok (.getfield 88, 3) := by decide +kernel
theorem dX0_layHeap_28 : decode cX0_layHeap 28 = .ok (.iload_n 3, 1) := by decide +kernel
theorem dX0_layHeap_29 : decode cX0_layHeap 29 = .ok (.iadd, 1) := by decide +kernel
theorem dX0_layHeap_30 : decode cX0_layHeap 30 = .ok (.aload_n 0, 1) := by decide +kernel
theorem dX0_layHeap_31 : decode cX0_layHeap 31 = .ok (.getfield 91, 3) := by decide +kernel
theorem dX0_layHeap_34 : decode cX0_layHeap 34 = .ok (.iconst 0, 1) := by decide +kernel
theorem dX0_layHeap_35 : decode cX0_layHeap 35 = .ok (.iload_n 3, 1) := by decide +kernel
theorem dX0_layHeap_36 : decode cX0_layHeap 36 = .ok (.iload_n 2, 1) := by decide +kernel
theorem dX0_layHeap_37 : decode cX0_layHeap 37 = .ok (.isub, 1) := by decide +kernel
theorem dX0_layHeap_38 : decode cX0_layHeap 38 = .ok (.invokestatic 92, 3) := by decide +kernel
theorem dX0_layHeap_41 : decode cX0_layHeap 41 = .ok (.iadd, 1) := by decide +kernel
theorem dX0_layHeap_42 : decode cX0_layHeap 42 = .ok (.aload_n 0, 1) := by decide +kernel
theorem dX0_layHeap_43 : decode cX0_layHeap 43 = .ok (.getfield 91, 3) := by decide +kernel
theorem dX0_layHeap_46 : decode cX0_layHeap 46 = .ok (.iload_n 3, 1) := by decide +kernel
theorem dX0_layHeap_47 : decode cX0_layHeap 47 = .ok (.iload_n 1, 1) := by decide +kernel
theorem dX0_layHeap_48 : decode cX0_layHeap 48 = .ok (.invokestatic 98, 3) := by decide +kernel
theorem dX0_layHeap_51 : decode cX0_layHeap 51 = .ok (.iadd, 1) := by decide +kernel
theorem dX0_layHeap_52 : decode cX0_layHeap 52 = .ok (.invokestatic 101, 3) := by decide +kernel
theorem dX0_layHeap_55 : decode cX0_layHeap 55 = .ok (.iastore, 1) := by decide +kernel
theorem dX0_layHeap_56 : decode cX0_layHeap 56 = .ok (.iinc 3 1, 3) := by decide +kernel
theorem dX0_layHeap_59 : decode cX0_layHeap 59 = .ok (.goto (-57), 3) := by decide +kernel
theorem dX0_layHeap_62 : decode cX0_layHeap 62 = .ok (.aload_n 0, 1) := by decide +kernel
theorem dX0_layHeap_63 : decode cX0_layHeap 63 = .ok (.bipush 24, 2) := by decide +kernel
theorem dX0_layHeap_65 : decode cX0_layHeap 65 = .ok (.aload_n 0, 1) := by decide +kernel
theorem dX0_layHeap_66 : decode cX0_layHeap 66 = .ok (.getfield 88, 3) := by decide +kernel
theorem dX0_layHeap_69 : decode cX0_layHeap 69 = .ok (.iload_n 1, 1) := by decide +kernel
theorem dX0_layHeap_70 : decode cX0_layHeap 70 = .ok (.iadd, 1) := by decide +kernel
theorem dX0_layHeap_71 : decode cX0_layHeap 71 = .ok (.iload_n 2, 1) := by decide +kernel
theorem dX0_layHeap_72 : decode cX0_layHeap 72 = .ok (.iadd, 1) := by decide +kernel
theorem dX0_layHeap_73 : decode cX0_layHeap 73 = .ok (.invokestatic 98, 3) := by decide +kernel
theorem dX0_layHeap_76 : decode cX0_layHeap 76 = .ok (.putfield 88, 3) := by decide +kernel
theorem dX0_layHeap_79 : decode cX0_layHeap 79 = .ok (.aload_n 0, 1) := by decide +kernel
theorem dX0_layHeap_80 : decode cX0_layHeap 80 = .ok (.bipush 24, 2) := by decide +kernel
theorem dX0_layHeap_82 : decode cX0_layHeap 82 = .ok (.aload_n 0, 1) := by decide +kernel
theorem dX0_layHeap_83 : decode cX0_layHeap 83 = .ok (.getfield 91, 3) := by decide +kernel
theorem dX0_layHeap_86 : decode cX0_layHeap 86 = .ok (.iload_n 1, 1) := by decide +kernel
theorem dX0_layHeap_87 : decode cX0_layHeap 87 = .ok (.iadd, 1) := by decide +kernel
theorem dX0_layHeap_88 : decode cX0_layHeap 88 = .ok (.invokestatic 98, 3) := by decide +kernel
theorem dX0_layHeap_91 : decode cX0_layHeap 91 = .ok (.putfield 91, 3) := by decide +kernel
theorem dX0_layHeap_94 : decode cX0_layHeap 94 = .ok (.return_, 1) := by decide +kernel
theorem dX0_keepFact_0 : decode cX0_keepFact 0 = .ok (.iload_n 1, 1) := by decide +kernel
theorem dX0_keepFact_1 : decode cX0_keepFact 1 = .ok (.tableswitch 54 0 2 #[27, 36, 46], 27) := by decide +kernel
theorem dX0_keepFact_28 : decode cX0_keepFact 28 = .ok (.aload_n 0, 1) := by decide +kernel
theorem dX0_keepFact_29 : decode cX0_keepFact 29 = .ok (.iload_n 2, 1) := by decide +kernel
theorem dX0_keepFact_30 : decode cX0_keepFact 30 = .ok (.iload_n 3, 1) := by decide +kernel
theorem dX0_keepFact_31 : decode cX0_keepFact 31 = .ok (.invokevirtual 69, 3) := by decide +kernel
theorem dX0_keepFact_34 : decode cX0_keepFact 34 = .ok (.goto 27, 3) := by decide +kernel
theorem dX0_keepFact_37 : decode cX0_keepFact 37 = .ok (.aload_n 0, 1) := by decide +kernel
theorem dX0_keepFact_38 : decode cX0_keepFact 38 = .ok (.iconst 1, 1) := by decide +kernel
theorem dX0_keepFact_39 : decode cX0_keepFact 39 = .ok (.iload_n 2, 1) := by decide +kernel
theorem dX0_keepFact_40 : decode cX0_keepFact 40 = .ok (.iload_n 3, 1) := by decide +kernel
theorem dX0_keepFact_41 : decode cX0_keepFact 41 = .ok (.invokevirtual 104, 3) := by decide +kernel
theorem dX0_keepFact_44 : decode cX0_keepFact 44 = .ok (.goto 17, 3) := by decide +kernel
theorem dX0_keepFact_47 : decode cX0_keepFact 47 = .ok (.aload_n 0, 1) := by decide +kernel
theorem dX0_keepFact_48 : decode cX0_keepFact 48 = .ok (.iload_n 2, 1) := by decide +kernel
theorem dX0_keepFact_49 : decode cX0_keepFact 49 = .ok (.invokevirtual 107, 3) := by decide +kernel
theorem dX0_keepFact_52 : decode cX0_keepFact 52 = .ok (.goto 9, 3) := by decide +kernel
theorem dX0_keepFact_55 : decode cX0_keepFact 55 = .ok (.aload_n 0, 1) := by decide +kernel
theorem dX0_keepFact_56 : decode cX0_keepFact 56 = .ok (.iload_n 2, 1) := by decide +kernel
theorem dX0_keepFact_57 : decode cX0_keepFact 57 = .ok (.iload_n 3, 1) := by decide +kernel
theorem dX0_keepFact_58 : decode cX0_keepFact 58 = .ok (.invokevirtual 111, 3) := by decide +kernel
theorem dX0_keepFact_61 : decode cX0_keepFact 61 = .ok (.return_, 1) := by decide +kernel
theorem dX0_keepAt_0 : decode cX0_keepAt 0 = .ok (.iload_n 1, 1) := by decide +kernel
theorem dX0_keepAt_1 : decode cX0_keepAt 1 = .ok (.aload_n 0, 1) := by decide +kernel
theorem dX0_keepAt_2 : decode cX0_keepAt 2 = .ok (.getfield 88, 3) := by decide +kernel
theorem dX0_keepAt_5 : decode cX0_keepAt 5 = .ok (.if_icmp .gt 17, 3) := by decide +kernel
theorem dX0_keepAt_8 : decode cX0_keepAt 8 = .ok (.aload_n 0, 1) := by decide +kernel
theorem dX0_keepAt_9 : decode cX0_keepAt 9 = .ok (.getfield 15, 3) := by decide +kernel
theorem dX0_keepAt_12 : decode cX0_keepAt 12 = .ok (.iload_n 1, 1) := by decide +kernel
theorem dX0_keepAt_13 : decode cX0_keepAt 13 = .ok (.dup2, 1) := by decide +kernel
theorem dX0_keepAt_14 : decode cX0_keepAt 14 = .ok (.iaload, 1) := by decide +kernel
theorem dX0_keepAt_15 : decode cX0_keepAt 15 = .ok (.iload_n 2, 1) := by decide +kernel
theorem dX0_keepAt_16 : decode cX0_keepAt 16 = .ok (.iload_n 2, 1) := by decide +kernel
theorem dX0_keepAt_17 : decode cX0_keepAt 17 = .ok (.invokestatic 101, 3) := by decide +kernel
theorem dX0_keepAt_20 : decode cX0_keepAt 20 = .ok (.iand, 1) := by decide +kernel
theorem dX0_keepAt_21 : decode cX0_keepAt 21 = .ok (.iastore, 1) := by decide +kernel
theorem dX0_keepAt_22 : decode cX0_keepAt 22 = .ok (.return_, 1) := by decide +kernel
theorem dX0_keepAhead_0 : decode cX0_keepAhead 0 = .ok (.iload_n 2, 1) := by decide +kernel
theorem dX0_keepAhead_1 : decode cX0_keepAhead 1 = .ok (.istore 4, 2) := by decide +kernel
theorem dX0_keepAhead_3 : decode cX0_keepAhead 3 = .ok (.iload 4, 2) := by decide +kernel
theorem dX0_keepAhead_5 : decode cX0_keepAhead 5 = .ok (.iload_n 3, 1) := by decide +kernel
theorem dX0_keepAhead_6 : decode cX0_keepAhead 6 = .ok (.if_icmp .gt 34, 3) := by decide +kernel
theorem dX0_keepAhead_9 : decode cX0_keepAhead 9 = .ok (.iload 4, 2) := by decide +kernel
theorem dX0_keepAhead_11 : decode cX0_keepAhead 11 = .ok (.aload_n 0, 1) := by decide +kernel
theorem dX0_keepAhead_12 : decode cX0_keepAhead 12 = .ok (.getfield 88, 3) := by decide +kernel
theorem dX0_keepAhead_15 : decode cX0_keepAhead 15 = .ok (.if_icmp .gt 25, 3) := by decide +kernel
theorem dX0_keepAhead_18 : decode cX0_keepAhead 18 = .ok (.aload_n 0, 1) := by decide +kernel
theorem dX0_keepAhead_19 : decode cX0_keepAhead 19 = .ok (.getfield 15, 3) := by decide +kernel
theorem dX0_keepAhead_22 : decode cX0_keepAhead 22 = .ok (.iload 4, 2) := by decide +kernel
theorem dX0_keepAhead_24 : decode cX0_keepAhead 24 = .ok (.dup2, 1) := by decide +kernel
theorem dX0_keepAhead_25 : decode cX0_keepAhead 25 = .ok (.iaload, 1) := by decide +kernel
theorem dX0_keepAhead_26 : decode cX0_keepAhead 26 = .ok (.iload_n 1, 1) := by decide +kernel
theorem dX0_keepAhead_27 : decode cX0_keepAhead 27 = .ok (.iload 4, 2) := by decide +kernel
theorem dX0_keepAhead_29 : decode cX0_keepAhead 29 = .ok (.invokestatic 114, 3) := by decide +kernel
theorem dX0_keepAhead_32 : decode cX0_keepAhead 32 = .ok (.iand, 1) := by decide +kernel
theorem dX0_keepAhead_33 : decode cX0_keepAhead 33 = .ok (.iastore, 1) := by decide +kernel
theorem dX0_keepAhead_34 : decode cX0_keepAhead 34 = .ok (.iinc 4 1, 3) := by decide +kernel
theorem dX0_keepAhead_37 : decode cX0_keepAhead 37 = .ok (.goto (-34), 3) := by decide +kernel
theorem dX0_keepAhead_40 : decode cX0_keepAhead 40 = .ok (.return_, 1) := by decide +kernel
theorem dX0_keepNotBehind_0 : decode cX0_keepNotBehind 0 = .ok (.iload_n 1, 1) := by decide +kernel
theorem dX0_keepNotBehind_1 : decode cX0_keepNotBehind 1 = .ok (.istore_n 3, 1) := by decide +kernel
theorem dX0_keepNotBehind_2 : decode cX0_keepNotBehind 2 = .ok (.iload_n 3, 1) := by decide +kernel
theorem dX0_keepNotBehind_3 : decode cX0_keepNotBehind 3 = .ok (.iload_n 2, 1) := by decide +kernel
theorem dX0_keepNotBehind_4 : decode cX0_keepNotBehind 4 = .ok (.if_icmp .gt 36, 3) := by decide +kernel
theorem dX0_keepNotBehind_7 : decode cX0_keepNotBehind 7 = .ok (.iload_n 3, 1) := by decide +kernel
theorem dX0_keepNotBehind_8 : decode cX0_keepNotBehind 8 = .ok (.aload_n 0, 1) := by decide +kernel
theorem dX0_keepNotBehind_9 : decode cX0_keepNotBehind 9 = .ok (.getfield 88, 3) := by decide +kernel
theorem dX0_keepNotBehind_12 : decode cX0_keepNotBehind 12 = .ok (.if_icmp .gt 28, 3) := by decide +kernel
theorem dX0_keepNotBehind_15 : decode cX0_keepNotBehind 15 = .ok (.aload_n 0, 1) := by decide +kernel
theorem dX0_keepNotBehind_16 : decode cX0_keepNotBehind 16 = .ok (.getfield 15, 3) := by decide +kernel
theorem dX0_keepNotBehind_19 : decode cX0_keepNotBehind 19 = .ok (.iload_n 3, 1) := by decide +kernel
theorem dX0_keepNotBehind_20 : decode cX0_keepNotBehind 20 = .ok (.dup2, 1) := by decide +kernel
theorem dX0_keepNotBehind_21 : decode cX0_keepNotBehind 21 = .ok (.iaload, 1) := by decide +kernel
theorem dX0_keepNotBehind_22 : decode cX0_keepNotBehind 22 = .ok (.iload_n 3, 1) := by decide +kernel
theorem dX0_keepNotBehind_23 : decode cX0_keepNotBehind 23 = .ok (.iconst 1, 1) := by decide +kernel
theorem dX0_keepNotBehind_24 : decode cX0_keepNotBehind 24 = .ok (.iadd, 1) := by decide +kernel
theorem dX0_keepNotBehind_25 : decode cX0_keepNotBehind 25 = .ok (.iconst 2, 1) := by decide +kernel
theorem dX0_keepNotBehind_26 : decode cX0_keepNotBehind 26 = .ok (.idiv, 1) := by decide +kernel
theorem dX0_keepNotBehind_27 : decode cX0_keepNotBehind 27 = .ok (.bipush 24, 2) := by decide +kernel
theorem dX0_keepNotBehind_29 : decode cX0_keepNotBehind 29 = .ok (.invokestatic 101, 3) := by decide +kernel
theorem dX0_keepNotBehind_32 : decode cX0_keepNotBehind 32 = .ok (.iand, 1) := by decide +kernel
theorem dX0_keepNotBehind_33 : decode cX0_keepNotBehind 33 = .ok (.iastore, 1) := by decide +kernel
theorem dX0_keepNotBehind_34 : decode cX0_keepNotBehind 34 = .ok (.iinc 3 1, 3) := by decide +kernel
theorem dX0_keepNotBehind_37 : decode cX0_keepNotBehind 37 = .ok (.goto (-35), 3) := by decide +kernel
theorem dX0_keepNotBehind_40 : decode cX0_keepNotBehind 40 = .ok (.return_, 1) := by decide +kernel
theorem dX0_keepNotAbove_0 : decode cX0_keepNotAbove 0 = .ok (.iconst 0, 1) := by decide +kernel
theorem dX0_keepNotAbove_1 : decode cX0_keepNotAbove 1 = .ok (.istore_n 2, 1) := by decide +kernel
theorem dX0_keepNotAbove_2 : decode cX0_keepNotAbove 2 = .ok (.iload_n 2, 1) := by decide +kernel
theorem dX0_keepNotAbove_3 : decode cX0_keepNotAbove 3 = .ok (.aload_n 0, 1) := by decide +kernel
theorem dX0_keepNotAbove_4 : decode cX0_keepNotAbove 4 = .ok (.getfield 88, 3) := by decide +kernel
theorem dX0_keepNotAbove_7 : decode cX0_keepNotAbove 7 = .ok (.if_icmp .gt 29, 3) := by decide +kernel
theorem dX0_keepNotAbove_10 : decode cX0_keepNotAbove 10 = .ok (.aload_n 0, 1) := by decide +kernel
theorem dX0_keepNotAbove_11 : decode cX0_keepNotAbove 11 = .ok (.getfield 15, 3) := by decide +kernel
theorem dX0_keepNotAbove_14 : decode cX0_keepNotAbove 14 = .ok (.iload_n 2, 1) := by decide +kernel
theorem dX0_keepNotAbove_15 : decode cX0_keepNotAbove 15 = .ok (.dup2, 1) := by decide +kernel
theorem dX0_keepNotAbove_16 : decode cX0_keepNotAbove 16 = .ok (.iaload, 1) := by decide +kernel
theorem dX0_keepNotAbove_17 : decode cX0_keepNotAbove 17 = .ok (.iconst 0, 1) := by decide +kernel
theorem dX0_keepNotAbove_18 : decode cX0_keepNotAbove 18 = .ok (.iload_n 1, 1) := by decide +kernel
theorem dX0_keepNotAbove_19 : decode cX0_keepNotAbove 19 = .ok (.iload_n 2, 1) := by decide +kernel
theorem dX0_keepNotAbove_20 : decode cX0_keepNotAbove 20 = .ok (.iadd, 1) := by decide +kernel
theorem dX0_keepNotAbove_21 : decode cX0_keepNotAbove 21 = .ok (.iconst 2, 1) := by decide +kernel
theorem dX0_keepNotAbove_22 : decode cX0_keepNotAbove 22 = .ok (.invokestatic 117, 3) := by decide +kernel
theorem dX0_keepNotAbove_25 : decode cX0_keepNotAbove 25 = .ok (.invokestatic 101, 3) := by decide +kernel
theorem dX0_keepNotAbove_28 : decode cX0_keepNotAbove 28 = .ok (.iand, 1) := by decide +kernel
theorem dX0_keepNotAbove_29 : decode cX0_keepNotAbove 29 = .ok (.iastore, 1) := by decide +kernel
theorem dX0_keepNotAbove_30 : decode cX0_keepNotAbove 30 = .ok (.iinc 2 1, 3) := by decide +kernel
theorem dX0_keepNotAbove_33 : decode cX0_keepNotAbove 33 = .ok (.goto (-31), 3) := by decide +kernel
theorem dX0_keepNotAbove_36 : decode cX0_keepNotAbove 36 = .ok (.return_, 1) := by decide +kernel
theorem dX0_keepLevel_0 : decode cX0_keepLevel 0 = .ok (.iload_n 1, 1) := by decide +kernel
theorem dX0_keepLevel_1 : decode cX0_keepLevel 1 = .ok (.aload_n 0, 1) := by decide +kernel
theorem dX0_keepLevel_2 : decode cX0_keepLevel 2 = .ok (.getfield 88, 3) := by decide +kernel
theorem dX0_keepLevel_5 : decode cX0_keepLevel 5 = .ok (.if_icmp .gt 16, 3) := by decide +kernel
theorem dX0_keepLevel_8 : decode cX0_keepLevel 8 = .ok (.aload_n 0, 1) := by decide +kernel
theorem dX0_keepLevel_9 : decode cX0_keepLevel 9 = .ok (.getfield 15, 3) := by decide +kernel
theorem dX0_keepLevel_12 : decode cX0_keepLevel 12 = .ok (.iload_n 1, 1) := by decide +kernel
theorem dX0_keepLevel_13 : decode cX0_keepLevel 13 = .ok (.dup2, 1) := by decide +kernel
theorem dX0_keepLevel_14 : decode cX0_keepLevel 14 = .ok (.iaload, 1) := by decide +kernel
theorem dX0_keepLevel_15 : decode cX0_keepLevel 15 = .ok (.iload_n 1, 1) := by decide +kernel
theorem dX0_keepLevel_16 : decode cX0_keepLevel 16 = .ok (.invokestatic 120, 3) := by decide +kernel
theorem dX0_keepLevel_19 : decode cX0_keepLevel 19 = .ok (.iand, 1) := by decide +kernel
theorem dX0_keepLevel_20 : decode cX0_keepLevel 20 = .ok (.iastore, 1) := by decide +kernel
theorem dX0_keepLevel_21 : decode cX0_keepLevel 21 = .ok (.return_, 1) := by decide +kernel
theorem dX0_closeLevel_0 : decode cX0_closeLevel 0 = .ok (.iload_n 1, 1) := by decide +kernel
theorem dX0_closeLevel_1 : decode cX0_closeLevel 1 = .ok (.istore_n 3, 1) := by decide +kernel
theorem dX0_closeLevel_2 : decode cX0_closeLevel 2 = .ok (.iload_n 3, 1) := by decide +kernel
theorem dX0_closeLevel_3 : decode cX0_closeLevel 3 = .ok (.iload_n 2, 1) := by decide +kernel
theorem dX0_closeLevel_4 : decode cX0_closeLevel 4 = .ok (.if_icmp .gt 32, 3) := by decide +kernel
theorem dX0_closeLevel_7 : decode cX0_closeLevel 7 = .ok (.iload_n 3, 1) := by decide +kernel
theorem dX0_closeLevel_8 : decode cX0_closeLevel 8 = .ok (.aload_n 0, 1) := by decide +kernel
theorem dX0_closeLevel_9 : decode cX0_closeLevel 9 = .ok (.getfield 88, 3) := by decide +kernel
theorem dX0_closeLevel_12 : decode cX0_closeLevel 12 = .ok (.if_icmp .gt 24, 3) := by decide +kernel
theorem dX0_closeLevel_15 : decode cX0_closeLevel 15 = .ok (.aload_n 0, 1) := by decide +kernel
theorem dX0_closeLevel_16 : decode cX0_closeLevel 16 = .ok (.getfield 15, 3) := by decide +kernel
theorem dX0_closeLevel_19 : decode cX0_closeLevel 19 = .ok (.iload_n 3, 1) := by decide +kernel
theorem dX0_closeLevel_20 : decode cX0_closeLevel 20 = .ok (.dup2, 1) := by decide +kernel
theorem dX0_closeLevel_21 : decode cX0_closeLevel 21 = .ok (.iaload, 1) := by decide +kernel
theorem dX0_closeLevel_22 : decode cX0_closeLevel 22 = .ok (.iload_n 3, 1) := by decide +kernel
theorem dX0_closeLevel_23 : decode cX0_closeLevel 23 = .ok (.invokestatic 120, 3) := by decide +kernel
theorem dX0_closeLevel_26 : decode cX0_closeLevel 26 = .ok (.iconst (-1), 1) := by decide +kernel
theorem dX0_closeLevel_27 : decode cX0_closeLevel 27 = .ok (.ixor, 1) := by decide +kernel
theorem dX0_closeLevel_28 : decode cX0_closeLevel 28 = .ok (.iand, 1) := by decide +kernel
theorem dX0_closeLevel_29 : decode cX0_closeLevel 29 = .ok (.iastore, 1) := by decide +kernel
theorem dX0_closeLevel_30 : decode cX0_closeLevel 30 = .ok (.iinc 3 1, 3) := by decide +kernel
theorem dX0_closeLevel_33 : decode cX0_closeLevel 33 = .ok (.goto (-31), 3) := by decide +kernel
theorem dX0_closeLevel_36 : decode cX0_closeLevel 36 = .ok (.return_, 1) := by decide +kernel
theorem dX0_closeAhead_0 : decode cX0_closeAhead 0 = .ok (.iconst 1, 1) := by decide +kernel
theorem dX0_closeAhead_1 : decode cX0_closeAhead 1 = .ok (.istore_n 2, 1) := by decide +kernel
theorem dX0_closeAhead_2 : decode cX0_closeAhead 2 = .ok (.iload_n 2, 1) := by decide +kernel
theorem dX0_closeAhead_3 : decode cX0_closeAhead 3 = .ok (.aload_n 0, 1) := by decide +kernel
theorem dX0_closeAhead_4 : decode cX0_closeAhead 4 = .ok (.getfield 88, 3) := by decide +kernel
theorem dX0_closeAhead_7 : decode cX0_closeAhead 7 = .ok (.if_icmp .gt 25, 3) := by decide +kernel
theorem dX0_closeAhead_10 : decode cX0_closeAhead 10 = .ok (.aload_n 0, 1) := by decide +kernel
theorem dX0_closeAhead_11 : decode cX0_closeAhead 11 = .ok (.getfield 15, 3) := by decide +kernel
theorem dX0_closeAhead_14 : decode cX0_closeAhead 14 = .ok (.iload_n 2, 1) := by decide +kernel
theorem dX0_closeAhead_15 : decode cX0_closeAhead 15 = .ok (.dup2, 1) := by decide +kernel
theorem dX0_closeAhead_16 : decode cX0_closeAhead 16 = .ok (.iaload, 1) := by decide +kernel
theorem dX0_closeAhead_17 : decode cX0_closeAhead 17 = .ok (.iload_n 1, 1) := by decide +kernel
theorem dX0_closeAhead_18 : decode cX0_closeAhead 18 = .ok (.iload_n 2, 1) := by decide +kernel
theorem dX0_closeAhead_19 : decode cX0_closeAhead 19 = .ok (.invokestatic 114, 3) := by decide +kernel
theorem dX0_closeAhead_22 : decode cX0_closeAhead 22 = .ok (.iconst (-1), 1) := by decide +kernel
theorem dX0_closeAhead_23 : decode cX0_closeAhead 23 = .ok (.ixor, 1) := by decide +kernel
theorem dX0_closeAhead_24 : decode cX0_closeAhead 24 = .ok (.iand, 1) := by decide +kernel
theorem dX0_closeAhead_25 : decode cX0_closeAhead 25 = .ok (.iastore, 1) := by decide +kernel
theorem dX0_closeAhead_26 : decode cX0_closeAhead 26 = .ok (.iinc 2 1, 3) := by decide +kernel
theorem dX0_closeAhead_29 : decode cX0_closeAhead 29 = .ok (.goto (-27), 3) := by decide +kernel
theorem dX0_closeAhead_32 : decode cX0_closeAhead 32 = .ok (.return_, 1) := by decide +kernel
theorem dX0_keepAheadByTwos_0 : decode cX0_keepAheadByTwos 0 = .ok (.iconst 2, 1) := by decide +kernel
theorem dX0_keepAheadByTwos_1 : decode cX0_keepAheadByTwos 1 = .ok (.istore_n 2, 1) := by decide +kernel
theorem dX0_keepAheadByTwos_2 : decode cX0_keepAheadByTwos 2 = .ok (.iload_n 2, 1) := by decide +kernel
theorem dX0_keepAheadByTwos_3 : decode cX0_keepAheadByTwos 3 = .ok (.aload_n 0, 1) := by decide +kernel
theorem dX0_keepAheadByTwos_4 : decode cX0_keepAheadByTwos 4 = .ok (.getfield 88, 3) := by decide +kernel
theorem dX0_keepAheadByTwos_7 : decode cX0_keepAheadByTwos 7 = .ok (.if_icmp .gt 16, 3) := by decide +kernel
theorem dX0_keepAheadByTwos_10 : decode cX0_keepAheadByTwos 10 = .ok (.aload_n 0, 1) := by decide +kernel
theorem dX0_keepAheadByTwos_11 : decode cX0_keepAheadByTwos 11 = .ok (.iload_n 1, 1) := by decide +kernel
theorem dX0_keepAheadByTwos_12 : decode cX0_keepAheadByTwos 12 = .ok (.iload_n 2, 1) := by decide +kernel
theorem dX0_keepAheadByTwos_13 : decode cX0_keepAheadByTwos 13 = .ok (.iload_n 2, 1) := by decide +kernel
theorem dX0_keepAheadByTwos_14 : decode cX0_keepAheadByTwos 14 = .ok (.invokevirtual 104, 3) := by decide +kernel
theorem dX0_keepAheadByTwos_17 : decode cX0_keepAheadByTwos 17 = .ok (.iinc 2 2, 3) := by decide +kernel
theorem dX0_keepAheadByTwos_20 : decode cX0_keepAheadByTwos 20 = .ok (.goto (-18), 3) := by decide +kernel
theorem dX0_keepAheadByTwos_23 : decode cX0_keepAheadByTwos 23 = .ok (.aload_n 0, 1) := by decide +kernel
theorem dX0_keepAheadByTwos_24 : decode cX0_keepAheadByTwos 24 = .ok (.iload_n 1, 1) := by decide +kernel
theorem dX0_keepAheadByTwos_25 : decode cX0_keepAheadByTwos 25 = .ok (.iconst 1, 1) := by decide +kernel
theorem dX0_keepAheadByTwos_26 : decode cX0_keepAheadByTwos 26 = .ok (.aload_n 0, 1) := by decide +kernel
theorem dX0_keepAheadByTwos_27 : decode cX0_keepAheadByTwos 27 = .ok (.getfield 88, 3) := by decide +kernel
theorem dX0_keepAheadByTwos_30 : decode cX0_keepAheadByTwos 30 = .ok (.invokestatic 92, 3) := by decide +kernel
theorem dX0_keepAheadByTwos_33 : decode cX0_keepAheadByTwos 33 = .ok (.aload_n 0, 1) := by decide +kernel
theorem dX0_keepAheadByTwos_34 : decode cX0_keepAheadByTwos 34 = .ok (.getfield 88, 3) := by decide +kernel
theorem dX0_keepAheadByTwos_37 : decode cX0_keepAheadByTwos 37 = .ok (.invokevirtual 104, 3) := by decide +kernel
theorem dX0_keepAheadByTwos_40 : decode cX0_keepAheadByTwos 40 = .ok (.return_, 1) := by decide +kernel
theorem dX0_keepAheadFromBehind_0 : decode cX0_keepAheadFromBehind 0 = .ok (.iconst 0, 1) := by decide +kernel
theorem dX0_keepAheadFromBehind_1 : decode cX0_keepAheadFromBehind 1 = .ok (.istore_n 2, 1) := by decide +kernel
theorem dX0_keepAheadFromBehind_2 : decode cX0_keepAheadFromBehind 2 = .ok (.iload_n 2, 1) := by decide +kernel
theorem dX0_keepAheadFromBehind_3 : decode cX0_keepAheadFromBehind 3 = .ok (.aload_n 0, 1) := by decide +kernel
theorem dX0_keepAheadFromBehind_4 : decode cX0_keepAheadFromBehind 4 = .ok (.getfield 88, 3) := by decide +kernel
theorem dX0_keepAheadFromBehind_7 : decode cX0_keepAheadFromBehind 7 = .ok (.if_icmp .ge 37, 3) := by decide +kernel
theorem dX0_keepAheadFromBehind_10 : decode cX0_keepAheadFromBehind 10 = .ok (.aload_n 0, 1) := by decide +kernel
theorem dX0_keepAheadFromBehind_11 : decode cX0_keepAheadFromBehind 11 = .ok (.getfield 15, 3) := by decide +kernel
theorem dX0_keepAheadFromBehind_14 : decode cX0_keepAheadFromBehind 14 = .ok (.iload_n 2, 1) := by decide +kernel
theorem dX0_keepAheadFromBehind_15 : decode cX0_keepAheadFromBehind 15 = .ok (.dup2, 1) := by decide +kernel
theorem dX0_keepAheadFromBehind_16 : decode cX0_keepAheadFromBehind 16 = .ok (.iaload, 1) := by decide +kernel
theorem dX0_keepAheadFromBehind_17 : decode cX0_keepAheadFromBehind 17 = .ok (.iconst 0, 1) := by decide +kernel
theorem dX0_keepAheadFromBehind_18 : decode cX0_keepAheadFromBehind 18 = .ok (.aload_n 0, 1) := by decide +kernel
theorem dX0_keepAheadFromBehind_19 : decode cX0_keepAheadFromBehind 19 = .ok (.getfield 91, 3) := by decide +kernel
theorem dX0_keepAheadFromBehind_22 : decode cX0_keepAheadFromBehind 22 = .ok (.iload_n 1, 1) := by decide +kernel
theorem dX0_keepAheadFromBehind_23 : decode cX0_keepAheadFromBehind 23 = .ok (.aload_n 0, 1) := by decide +kernel
theorem dX0_keepAheadFromBehind_24 : decode cX0_keepAheadFromBehind 24 = .ok (.getfield 88, 3) := by decide +kernel
theorem dX0_keepAheadFromBehind_27 : decode cX0_keepAheadFromBehind 27 = .ok (.iload_n 2, 1) := by decide +kernel
theorem dX0_keepAheadFromBehind_28 : decode cX0_keepAheadFromBehind 28 = .ok (.isub, 1) := by decide +kernel
theorem dX0_keepAheadFromBehind_29 : decode cX0_keepAheadFromBehind 29 = .ok (.invokestatic 124, 3) := by decide +kernel
theorem dX0_keepAheadFromBehind_32 : decode cX0_keepAheadFromBehind 32 = .ok (.isub, 1) := by decide +kernel
theorem dX0_keepAheadFromBehind_33 : decode cX0_keepAheadFromBehind 33 = .ok (.invokestatic 101, 3) := by decide +kernel
theorem dX0_keepAheadFromBehind_36 : decode cX0_keepAheadFromBehind 36 = .ok (.iand, 1) := by decide +kernel
theorem dX0_keepAheadFromBehind_37 : decode cX0_keepAheadFromBehind 37 = .ok (.iastore, 1) := by decide +kernel
theorem dX0_keepAheadFromBehind_38 : decode cX0_keepAheadFromBehind 38 = .ok (.iinc 2 1, 3) := by decide +kernel
theorem dX0_keepAheadFromBehind_41 : decode cX0_keepAheadFromBehind 41 = .ok (.goto (-39), 3) := by decide +kernel
theorem dX0_keepAheadFromBehind_44 : decode cX0_keepAheadFromBehind 44 = .ok (.return_, 1) := by decide +kernel
theorem dX0_keepAheadUntilSure_0 : decode cX0_keepAheadUntilSure 0 = .ok (.iconst 1, 1) := by decide +kernel
theorem dX0_keepAheadUntilSure_1 : decode cX0_keepAheadUntilSure 1 = .ok (.istore_n 2, 1) := by decide +kernel
theorem dX0_keepAheadUntilSure_2 : decode cX0_keepAheadUntilSure 2 = .ok (.iload_n 2, 1) := by decide +kernel
theorem dX0_keepAheadUntilSure_3 : decode cX0_keepAheadUntilSure 3 = .ok (.aload_n 0, 1) := by decide +kernel
theorem dX0_keepAheadUntilSure_4 : decode cX0_keepAheadUntilSure 4 = .ok (.getfield 88, 3) := by decide +kernel
theorem dX0_keepAheadUntilSure_7 : decode cX0_keepAheadUntilSure 7 = .ok (.if_icmp .gt 37, 3) := by decide +kernel
theorem dX0_keepAheadUntilSure_10 : decode cX0_keepAheadUntilSure 10 = .ok (.aload_n 0, 1) := by decide +kernel
theorem dX0_keepAheadUntilSure_11 : decode cX0_keepAheadUntilSure 11 = .ok (.getfield 15, 3) := by decide +kernel
theorem dX0_keepAheadUntilSure_14 : decode cX0_keepAheadUntilSure 14 = .ok (.iload_n 2, 1) := by decide +kernel
theorem dX0_keepAheadUntilSure_15 : decode cX0_keepAheadUntilSure 15 = .ok (.dup2, 1) := by decide +kernel
theorem dX0_keepAheadUntilSure_16 : decode cX0_keepAheadUntilSure 16 = .ok (.iaload, 1) := by decide +kernel
theorem dX0_keepAheadUntilSure_17 : decode cX0_keepAheadUntilSure 17 = .ok (.iload_n 1, 1) := by decide +kernel
theorem dX0_keepAheadUntilSure_18 : decode cX0_keepAheadUntilSure 18 = .ok (.iload_n 2, 1) := by decide +kernel
theorem dX0_keepAheadUntilSure_19 : decode cX0_keepAheadUntilSure 19 = .ok (.invokestatic 114, 3) := by decide +kernel
theorem dX0_keepAheadUntilSure_22 : decode cX0_keepAheadUntilSure 22 = .ok (.aload_n 0, 1) := by decide +kernel
theorem dX0_keepAheadUntilSure_23 : decode cX0_keepAheadUntilSure 23 = .ok (.getfield 88, 3) := by decide +kernel
theorem dX0_keepAheadUntilSure_26 : decode cX0_keepAheadUntilSure 26 = .ok (.iconst 2, 1) := by decide +kernel
theorem dX0_keepAheadUntilSure_27 : decode cX0_keepAheadUntilSure 27 = .ok (.idiv, 1) := by decide +kernel
theorem dX0_keepAheadUntilSure_28 : decode cX0_keepAheadUntilSure 28 = .ok (.iconst 1, 1) := by decide +kernel
theorem dX0_keepAheadUntilSure_29 : decode cX0_keepAheadUntilSure 29 = .ok (.iadd, 1) := by decide +kernel
theorem dX0_keepAheadUntilSure_30 : decode cX0_keepAheadUntilSure 30 = .ok (.bipush 24, 2) := by decide +kernel
theorem dX0_keepAheadUntilSure_32 : decode cX0_keepAheadUntilSure 32 = .ok (.invokestatic 101, 3) := by decide +kernel
theorem dX0_keepAheadUntilSure_35 : decode cX0_keepAheadUntilSure 35 = .ok (.ior, 1) := by decide +kernel
theorem dX0_keepAheadUntilSure_36 : decode cX0_keepAheadUntilSure 36 = .ok (.iand, 1) := by decide +kernel
theorem dX0_keepAheadUntilSure_37 : decode cX0_keepAheadUntilSure 37 = .ok (.iastore, 1) := by decide +kernel
theorem dX0_keepAheadUntilSure_38 : decode cX0_keepAheadUntilSure 38 = .ok (.iinc 2 1, 3) := by decide +kernel
theorem dX0_keepAheadUntilSure_41 : decode cX0_keepAheadUntilSure 41 = .ok (.goto (-39), 3) := by decide +kernel
theorem dX0_keepAheadUntilSure_44 : decode cX0_keepAheadUntilSure 44 = .ok (.return_, 1) := by decide +kernel
theorem dX0_markAhead_0 : decode cX0_markAhead 0 = .ok (.iconst 0, 1) := by decide +kernel
theorem dX0_markAhead_1 : decode cX0_markAhead 1 = .ok (.istore_n 1, 1) := by decide +kernel
theorem dX0_markAhead_2 : decode cX0_markAhead 2 = .ok (.iload_n 1, 1) := by decide +kernel
theorem dX0_markAhead_3 : decode cX0_markAhead 3 = .ok (.aload_n 0, 1) := by decide +kernel
theorem dX0_markAhead_4 : decode cX0_markAhead 4 = .ok (.getfield 88, 3) := by decide +kernel
theorem dX0_markAhead_7 : decode cX0_markAhead 7 = .ok (.if_icmp .gt 20, 3) := by decide +kernel
theorem dX0_markAhead_10 : decode cX0_markAhead 10 = .ok (.aload_n 0, 1) := by decide +kernel
theorem dX0_markAhead_11 : decode cX0_markAhead 11 = .ok (.getfield 18, 3) := by decide +kernel
theorem dX0_markAhead_14 : decode cX0_markAhead 14 = .ok (.iload_n 1, 1) := by decide +kernel
theorem dX0_markAhead_15 : decode cX0_markAhead 15 = .ok (.iconst 1, 1) := by decide +kernel
theorem dX0_markAhead_16 : decode cX0_markAhead 16 = .ok (.iload_n 1, 1) := by decide +kernel
theorem dX0_markAhead_17 : decode cX0_markAhead 17 = .ok (.invokestatic 114, 3) := by decide +kernel
theorem dX0_markAhead_20 : decode cX0_markAhead 20 = .ok (.iastore, 1) := by decide +kernel
theorem dX0_markAhead_21 : decode cX0_markAhead 21 = .ok (.iinc 1 1, 3) := by decide +kernel
theorem dX0_markAhead_24 : decode cX0_markAhead 24 = .ok (.goto (-22), 3) := by decide +kernel
theorem dX0_markAhead_27 : decode cX0_markAhead 27 = .ok (.return_, 1) := by decide +kernel
theorem dX0_markLevel_0 : decode cX0_markLevel 0 = .ok (.aload_n 0, 1) := by decide +kernel
theorem dX0_markLevel_1 : decode cX0_markLevel 1 = .ok (.getfield 18, 3) := by decide +kernel
theorem dX0_markLevel_4 : decode cX0_markLevel 4 = .ok (.iconst 0, 1) := by decide +kernel
theorem dX0_markLevel_5 : decode cX0_markLevel 5 = .ok (.iconst 0, 1) := by decide +kernel
theorem dX0_markLevel_6 : decode cX0_markLevel 6 = .ok (.iastore, 1) := by decide +kernel
theorem dX0_markLevel_7 : decode cX0_markLevel 7 = .ok (.iconst 1, 1) := by decide +kernel
theorem dX0_markLevel_8 : decode cX0_markLevel 8 = .ok (.istore_n 1, 1) := by decide +kernel
theorem dX0_markLevel_9 : decode cX0_markLevel 9 = .ok (.iload_n 1, 1) := by decide +kernel
theorem dX0_markLevel_10 : decode cX0_markLevel 10 = .ok (.aload_n 0, 1) := by decide +kernel
theorem dX0_markLevel_11 : decode cX0_markLevel 11 = .ok (.getfield 88, 3) := by decide +kernel
theorem dX0_markLevel_14 : decode cX0_markLevel 14 = .ok (.if_icmp .gt 19, 3) := by decide +kernel
theorem dX0_markLevel_17 : decode cX0_markLevel 17 = .ok (.aload_n 0, 1) := by decide +kernel
theorem dX0_markLevel_18 : decode cX0_markLevel 18 = .ok (.getfield 18, 3) := by decide +kernel
theorem dX0_markLevel_21 : decode cX0_markLevel 21 = .ok (.iload_n 1, 1) := by decide +kernel
theorem dX0_markLevel_22 : decode cX0_markLevel 22 = .ok (.iload_n 1, 1) := by decide +kernel
theorem dX0_markLevel_23 : decode cX0_markLevel 23 = .ok (.invokestatic 120, 3) := by decide +kernel
theorem dX0_markLevel_26 : decode cX0_markLevel 26 = .ok (.iastore, 1) := by decide +kernel
theorem dX0_markLevel_27 : decode cX0_markLevel 27 = .ok (.iinc 1 1, 3) := by decide +kernel
theorem dX0_markLevel_30 : decode cX0_markLevel 30 = .ok (.goto (-21), 3) := by decide +kernel
theorem dX0_markLevel_33 : decode cX0_markLevel 33 = .ok (.return_, 1) := by decide +kernel
theorem dX0_markUnsure_0 : decode cX0_markUnsure 0 = .ok (.iconst 0, 1) := by decide +kernel
theorem dX0_markUnsure_1 : decode cX0_markUnsure 1 = .ok (.istore_n 1, 1) := by decide +kernel
theorem dX0_markUnsure_2 : decode cX0_markUnsure 2 = .ok (.iload_n 1, 1) := by decide +kernel
theorem dX0_markUnsure_3 : decode cX0_markUnsure 3 = .ok (.aload_n 0, 1) := by decide +kernel
theorem dX0_markUnsure_4 : decode cX0_markUnsure 4 = .ok (.getfield 88, 3) := by decide +kernel
theorem dX0_markUnsure_7 : decode cX0_markUnsure 7 = .ok (.if_icmp .ge 32, 3) := by decide +kernel
theorem dX0_markUnsure_10 : decode cX0_markUnsure 10 = .ok (.aload_n 0, 1) := by decide +kernel
theorem dX0_markUnsure_11 : decode cX0_markUnsure 11 = .ok (.getfield 18, 3) := by decide +kernel
theorem dX0_markUnsure_14 : decode cX0_markUnsure 14 = .ok (.iload_n 1, 1) := by decide +kernel
theorem dX0_markUnsure_15 : decode cX0_markUnsure 15 = .ok (.iload_n 1, 1) := by decide +kernel
theorem dX0_markUnsure_16 : decode cX0_markUnsure 16 = .ok (.aload_n 0, 1) := by decide +kernel
theorem dX0_markUnsure_17 : decode cX0_markUnsure 17 = .ok (.getfield 88, 3) := by decide +kernel
theorem dX0_markUnsure_20 : decode cX0_markUnsure 20 = .ok (.iconst 2, 1) := by decide +kernel
theorem dX0_markUnsure_21 : decode cX0_markUnsure 21 = .ok (.idiv, 1) := by decide +kernel
theorem dX0_markUnsure_22 : decode cX0_markUnsure 22 = .ok (.isub, 1) := by decide +kernel
theorem dX0_markUnsure_23 : decode cX0_markUnsure 23 = .ok (.aload_n 0, 1) := by decide +kernel
theorem dX0_markUnsure_24 : decode cX0_markUnsure 24 = .ok (.getfield 88, 3) := by decide +kernel
theorem dX0_markUnsure_27 : decode cX0_markUnsure 27 = .ok (.iconst 2, 1) := by decide +kernel
theorem dX0_markUnsure_28 : decode cX0_markUnsure 28 = .ok (.idiv, 1) := by decide +kernel
theorem dX0_markUnsure_29 : decode cX0_markUnsure 29 = .ok (.invokestatic 101, 3) := by decide +kernel
theorem dX0_markUnsure_32 : decode cX0_markUnsure 32 = .ok (.iastore, 1) := by decide +kernel
theorem dX0_markUnsure_33 : decode cX0_markUnsure 33 = .ok (.iinc 1 1, 3) := by decide +kernel
theorem dX0_markUnsure_36 : decode cX0_markUnsure 36 = .ok (.goto (-34), 3) := by decide +kernel
theorem dX0_markUnsure_39 : decode cX0_markUnsure 39 = .ok (.aload_n 0, 1) := by decide +kernel
theorem dX0_markUnsure_40 : decode cX0_markUnsure 40 = .ok (.getfield 18, 3) := by decide +kernel
theorem dX0_markUnsure_43 : decode cX0_markUnsure 43 = .ok (.aload_n 0, 1) := by decide +kernel
theorem dX0_markUnsure_44 : decode cX0_markUnsure 44 = .ok (.getfield 88, 3) := by decide +kernel
theorem dX0_markUnsure_47 : decode cX0_markUnsure 47 = .ok (.iconst 0, 1) := by decide +kernel
theorem dX0_markUnsure_48 : decode cX0_markUnsure 48 = .ok (.iastore, 1) := by decide +kernel
theorem dX0_markUnsure_49 : decode cX0_markUnsure 49 = .ok (.return_, 1) := by decide +kernel
theorem dX0_isOpen_0 : decode cX0_isOpen 0 = .ok (.iload_n 1, 1) := by decide +kernel
theorem dX0_isOpen_1 : decode cX0_isOpen 1 = .ok (.aload_n 0, 1) := by decide +kernel
theorem dX0_isOpen_2 : decode cX0_isOpen 2 = .ok (.getfield 88, 3) := by decide +kernel
theorem dX0_isOpen_5 : decode cX0_isOpen 5 = .ok (.invokestatic 127, 3) := by decide +kernel
theorem dX0_isOpen_8 : decode cX0_isOpen 8 = .ok (.ifCond .eq 30, 3) := by decide +kernel
theorem dX0_isOpen_11 : decode cX0_isOpen 11 = .ok (.iload_n 2, 1) := by decide +kernel
theorem dX0_isOpen_12 : decode cX0_isOpen 12 = .ok (.bipush 24, 2) := by decide +kernel
theorem dX0_isOpen_14 : decode cX0_isOpen 14 = .ok (.invokestatic 127, 3) := by decide +kernel
theorem dX0_isOpen_17 : decode cX0_isOpen 17 = .ok (.ifCond .eq 21, 3) := by decide +kernel
theorem dX0_isOpen_20 : decode cX0_isOpen 20 = .ok (.aload_n 0, 1) := by decide +kernel
theorem dX0_isOpen_21 : decode cX0_isOpen 21 = .ok (.getfield 15, 3) := by decide +kernel
theorem dX0_isOpen_24 : decode cX0_isOpen 24 = .ok (.iload_n 1, 1) := by decide +kernel
theorem dX0_isOpen_25 : decode cX0_isOpen 25 = .ok (.iaload, 1) := by decide +kernel
theorem dX0_isOpen_26 : decode cX0_isOpen 26 = .ok (.iload_n 2, 1) := by decide +kernel
theorem dX0_isOpen_27 : decode cX0_isOpen 27 = .ok (.ishr, 1) := by decide +kernel
theorem dX0_isOpen_28 : decode cX0_isOpen 28 = .ok (.iconst 1, 1) := by decide +kernel
theorem dX0_isOpen_29 : decode cX0_isOpen 29 = .ok (.iand, 1) := by decide +kernel
theorem dX0_isOpen_30 : decode cX0_isOpen 30 = .ok (.iconst 1, 1) := by decide +kernel
theorem dX0_isOpen_31 : decode cX0_isOpen 31 = .ok (.if_icmp .ne 7, 3) := by decide +kernel
theorem dX0_isOpen_34 : decode cX0_isOpen 34 = .ok (.iconst 1, 1) := by decide +kernel
theorem dX0_isOpen_35 : decode cX0_isOpen 35 = .ok (.goto 4, 3) := by decide +kernel
theorem dX0_isOpen_38 : decode cX0_isOpen 38 = .ok (.iconst 0, 1) := by decide +kernel
theorem dX0_isOpen_39 : decode cX0_isOpen 39 = .ok (.ireturn, 1) := by decide +kernel
theorem dX0_isMarked_0 : decode cX0_isMarked 0 = .ok (.iload_n 1, 1) := by decide +kernel
theorem dX0_isMarked_1 : decode cX0_isMarked 1 = .ok (.aload_n 0, 1) := by decide +kernel
theorem dX0_isMarked_2 : decode cX0_isMarked 2 = .ok (.getfield 88, 3) := by decide +kernel
theorem dX0_isMarked_5 : decode cX0_isMarked 5 = .ok (.invokestatic 127, 3) := by decide +kernel
theorem dX0_isMarked_8 : decode cX0_isMarked 8 = .ok (.ifCond .eq 30, 3) := by decide +kernel
theorem dX0_isMarked_11 : decode cX0_isMarked 11 = .ok (.iload_n 2, 1) := by decide +kernel
theorem dX0_isMarked_12 : decode cX0_isMarked 12 = .ok (.bipush 24, 2) := by decide +kernel
theorem dX0_isMarked_14 : decode cX0_isMarked 14 = .ok (.invokestatic 127, 3) := by decide +kernel
theorem dX0_isMarked_17 : decode cX0_isMarked 17 = .ok (.ifCond .eq 21, 3) := by decide +kernel
theorem dX0_isMarked_20 : decode cX0_isMarked 20 = .ok (.aload_n 0, 1) := by decide +kernel
theorem dX0_isMarked_21 : decode cX0_isMarked 21 = .ok (.getfield 18, 3) := by decide +kernel
theorem dX0_isMarked_24 : decode cX0_isMarked 24 = .ok (.iload_n 1, 1) := by decide +kernel
theorem dX0_isMarked_25 : decode cX0_isMarked 25 = .ok (.iaload, 1) := by decide +kernel
theorem dX0_isMarked_26 : decode cX0_isMarked 26 = .ok (.iload_n 2, 1) := by decide +kernel
theorem dX0_isMarked_27 : decode cX0_isMarked 27 = .ok (.ishr, 1) := by decide +kernel
theorem dX0_isMarked_28 : decode cX0_isMarked 28 = .ok (.iconst 1, 1) := by decide +kernel
theorem dX0_isMarked_29 : decode cX0_isMarked 29 = .ok (.iand, 1) := by decide +kernel
theorem dX0_isMarked_30 : decode cX0_isMarked 30 = .ok (.iconst 1, 1) := by decide +kernel
theorem dX0_isMarked_31 : decode cX0_isMarked 31 = .ok (.if_icmp .ne 7, 3) := by decide +kernel
theorem dX0_isMarked_34 : decode cX0_isMarked 34 = .ok (.iconst 1, 1) := by decide +kernel
theorem dX0_isMarked_35 : decode cX0_isMarked 35 = .ok (.goto 4, 3) := by decide +kernel
theorem dX0_isMarked_38 : decode cX0_isMarked 38 = .ok (.iconst 0, 1) := by decide +kernel
theorem dX0_isMarked_39 : decode cX0_isMarked 39 = .ok (.ireturn, 1) := by decide +kernel
theorem dX0_countRows_0 : decode cX0_countRows 0 = .ok (.aload_n 0, 1) := by decide +kernel
theorem dX0_countRows_1 : decode cX0_countRows 1 = .ok (.invokevirtual 131, 3) := by decide +kernel
theorem dX0_countRows_4 : decode cX0_countRows 4 = .ok (.aload_n 0, 1) := by decide +kernel
theorem dX0_countRows_5 : decode cX0_countRows 5 = .ok (.getfield 21, 3) := by decide +kernel
theorem dX0_countRows_8 : decode cX0_countRows 8 = .ok (.aload_n 0, 1) := by decide +kernel
theorem dX0_countRows_9 : decode cX0_countRows 9 = .ok (.getfield 91, 3) := by decide +kernel
theorem dX0_countRows_12 : decode cX0_countRows 12 = .ok (.iaload, 1) := by decide +kernel
theorem dX0_countRows_13 : decode cX0_countRows 13 = .ok (.ireturn, 1) := by decide +kernel
theorem dX0_sumMarks_0 : decode cX0_sumMarks 0 = .ok (.aload_n 0, 1) := by decide +kernel
theorem dX0_sumMarks_1 : decode cX0_sumMarks 1 = .ok (.invokevirtual 131, 3) := by decide +kernel
theorem dX0_sumMarks_4 : decode cX0_sumMarks 4 = .ok (.aload_n 0, 1) := by decide +kernel
theorem dX0_sumMarks_5 : decode cX0_sumMarks 5 = .ok (.getfield 24, 3) := by decide +kernel
theorem dX0_sumMarks_8 : decode cX0_sumMarks 8 = .ok (.aload_n 0, 1) := by decide +kernel
theorem dX0_sumMarks_9 : decode cX0_sumMarks 9 = .ok (.getfield 91, 3) := by decide +kernel
theorem dX0_sumMarks_12 : decode cX0_sumMarks 12 = .ok (.laload, 1) := by decide +kernel
theorem dX0_sumMarks_13 : decode cX0_sumMarks 13 = .ok (.lreturn, 1) := by decide +kernel
theorem dX0_walk_0 : decode cX0_walk 0 = .ok (.aload_n 0, 1) := by decide +kernel
theorem dX0_walk_1 : decode cX0_walk 1 = .ok (.getfield 21, 3) := by decide +kernel
theorem dX0_walk_4 : decode cX0_walk 4 = .ok (.iconst 0, 1) := by decide +kernel
theorem dX0_walk_5 : decode cX0_walk 5 = .ok (.invokestatic 134, 3) := by decide +kernel
theorem dX0_walk_8 : decode cX0_walk 8 = .ok (.aload_n 0, 1) := by decide +kernel
theorem dX0_walk_9 : decode cX0_walk 9 = .ok (.getfield 24, 3) := by decide +kernel
theorem dX0_walk_12 : decode cX0_walk 12 = .ok (.lconst 0, 1) := by decide +kernel
theorem dX0_walk_13 : decode cX0_walk 13 = .ok (.invokestatic 140, 3) := by decide +kernel
theorem dX0_walk_16 : decode cX0_walk 16 = .ok (.aload_n 0, 1) := by decide +kernel
theorem dX0_walk_17 : decode cX0_walk 17 = .ok (.getfield 21, 3) := by decide +kernel
theorem dX0_walk_20 : decode cX0_walk 20 = .ok (.iconst 0, 1) := by decide +kernel
theorem dX0_walk_21 : decode cX0_walk 21 = .ok (.aload_n 0, 1) := by decide +kernel
theorem dX0_walk_22 : decode cX0_walk 22 = .ok (.getfield 15, 3) := by decide +kernel
theorem dX0_walk_25 : decode cX0_walk 25 = .ok (.iconst 0, 1) := by decide +kernel
theorem dX0_walk_26 : decode cX0_walk 26 = .ok (.iaload, 1) := by decide +kernel
theorem dX0_walk_27 : decode cX0_walk 27 = .ok (.iconst 1, 1) := by decide +kernel
theorem dX0_walk_28 : decode cX0_walk 28 = .ok (.iand, 1) := by decide +kernel
theorem dX0_walk_29 : decode cX0_walk 29 = .ok (.iastore, 1) := by decide +kernel
theorem dX0_walk_30 : decode cX0_walk 30 = .ok (.aload_n 0, 1) := by decide +kernel
theorem dX0_walk_31 : decode cX0_walk 31 = .ok (.getfield 24, 3) := by decide +kernel
theorem dX0_walk_34 : decode cX0_walk 34 = .ok (.iconst 0, 1) := by decide +kernel
theorem dX0_walk_35 : decode cX0_walk 35 = .ok (.aload_n 0, 1) := by decide +kernel
theorem dX0_walk_36 : decode cX0_walk 36 = .ok (.getfield 15, 3) := by decide +kernel
theorem dX0_walk_39 : decode cX0_walk 39 = .ok (.iconst 0, 1) := by decide +kernel
theorem dX0_walk_40 : decode cX0_walk 40 = .ok (.iaload, 1) := by decide +kernel
theorem dX0_walk_41 : decode cX0_walk 41 = .ok (.aload_n 0, 1) := by decide +kernel
theorem dX0_walk_42 : decode cX0_walk 42 = .ok (.getfield 18, 3) := by decide +kernel
theorem dX0_walk_45 : decode cX0_walk 45 = .ok (.iconst 0, 1) := by decide +kernel
theorem dX0_walk_46 : decode cX0_walk 46 = .ok (.iaload, 1) := by decide +kernel
theorem dX0_walk_47 : decode cX0_walk 47 = .ok (.iand, 1) := by decide +kernel
theorem dX0_walk_48 : decode cX0_walk 48 = .ok (.iconst 1, 1) := by decide +kernel
theorem dX0_walk_49 : decode cX0_walk 49 = .ok (.iand, 1) := by decide +kernel
theorem dX0_walk_50 : decode cX0_walk 50 = .ok (.i2l, 1) := by decide +kernel
theorem dX0_walk_51 : decode cX0_walk 51 = .ok (.lastore, 1) := by decide +kernel
theorem dX0_walk_52 : decode cX0_walk 52 = .ok (.iconst 1, 1) := by decide +kernel
theorem dX0_walk_53 : decode cX0_walk 53 = .ok (.istore_n 1, 1) := by decide +kernel
theorem dX0_walk_54 : decode cX0_walk 54 = .ok (.iload_n 1, 1) := by decide +kernel
theorem dX0_walk_55 : decode cX0_walk 55 = .ok (.aload_n 0, 1) := by decide +kernel
theorem dX0_walk_56 : decode cX0_walk 56 = .ok (.getfield 88, 3) := by decide +kernel
theorem dX0_walk_59 : decode cX0_walk 59 = .ok (.if_icmp .gt 52, 3) := by decide +kernel
theorem dX0_walk_62 : decode cX0_walk 62 = .ok (.aload_n 0, 1) := by decide +kernel
theorem dX0_walk_63 : decode cX0_walk 63 = .ok (.getfield 15, 3) := by decide +kernel
theorem dX0_walk_66 : decode cX0_walk 66 = .ok (.iload_n 1, 1) := by decide +kernel
theorem dX0_walk_67 : decode cX0_walk 67 = .ok (.iconst 1, 1) := by decide +kernel
theorem dX0_walk_68 : decode cX0_walk 68 = .ok (.isub, 1) := by decide +kernel
theorem dX0_walk_69 : decode cX0_walk 69 = .ok (.iaload, 1) := by decide +kernel
theorem dX0_walk_70 : decode cX0_walk 70 = .ok (.aload_n 0, 1) := by decide +kernel
theorem dX0_walk_71 : decode cX0_walk 71 = .ok (.getfield 15, 3) := by decide +kernel
theorem dX0_walk_74 : decode cX0_walk 74 = .ok (.iload_n 1, 1) := by decide +kernel
theorem dX0_walk_75 : decode cX0_walk 75 = .ok (.iaload, 1) := by decide +kernel
theorem dX0_walk_76 : decode cX0_walk 76 = .ok (.ior, 1) := by decide +kernel
theorem dX0_walk_77 : decode cX0_walk 77 = .ok (.istore_n 2, 1) := by decide +kernel
theorem dX0_walk_78 : decode cX0_walk 78 = .ok (.iload_n 1, 1) := by decide +kernel
theorem dX0_walk_79 : decode cX0_walk 79 = .ok (.istore_n 3, 1) := by decide +kernel
theorem dX0_walk_80 : decode cX0_walk 80 = .ok (.iload_n 3, 1) := by decide +kernel
theorem dX0_walk_81 : decode cX0_walk 81 = .ok (.ifCond .lt 24, 3) := by decide +kernel
theorem dX0_walk_84 : decode cX0_walk 84 = .ok (.iload_n 2, 1) := by decide +kernel
theorem dX0_walk_85 : decode cX0_walk 85 = .ok (.iload_n 3, 1) := by decide +kernel
theorem dX0_walk_86 : decode cX0_walk 86 = .ok (.ishr, 1) := by decide +kernel
theorem dX0_walk_87 : decode cX0_walk 87 = .ok (.iconst 1, 1) := by decide +kernel
theorem dX0_walk_88 : decode cX0_walk 88 = .ok (.iand, 1) := by decide +kernel
theorem dX0_walk_89 : decode cX0_walk 89 = .ok (.iconst 1, 1) := by decide +kernel
theorem dX0_walk_90 : decode cX0_walk 90 = .ok (.if_icmp .ne 9, 3) := by decide +kernel
theorem dX0_walk_93 : decode cX0_walk 93 = .ok (.aload_n 0, 1) := by decide +kernel
theorem dX0_walk_94 : decode cX0_walk 94 = .ok (.iload_n 1, 1) := by decide +kernel
theorem dX0_walk_95 : decode cX0_walk 95 = .ok (.iload_n 3, 1) := by decide +kernel
theorem dX0_walk_96 : decode cX0_walk 96 = .ok (.invokevirtual 143, 3) := by decide +kernel
theorem dX0_walk_99 : decode cX0_walk 99 = .ok (.iinc 3 (-1), 3) := by decide +kernel
theorem dX0_walk_102 : decode cX0_walk 102 = .ok (.goto (-22), 3) := by decide +kernel
theorem dX0_walk_105 : decode cX0_walk 105 = .ok (.iinc 1 1, 3) := by decide +kernel
theorem dX0_walk_108 : decode cX0_walk 108 = .ok (.goto (-54), 3) := by decide +kernel
theorem dX0_walk_111 : decode cX0_walk 111 = .ok (.return_, 1) := by decide +kernel
theorem dX0_walkInto_0 : decode cX0_walkInto 0 = .ok (.aload_n 0, 1) := by decide +kernel
theorem dX0_walkInto_1 : decode cX0_walkInto 1 = .ok (.getfield 15, 3) := by decide +kernel
theorem dX0_walkInto_4 : decode cX0_walkInto 4 = .ok (.iload_n 1, 1) := by decide +kernel
theorem dX0_walkInto_5 : decode cX0_walkInto 5 = .ok (.iaload, 1) := by decide +kernel
theorem dX0_walkInto_6 : decode cX0_walkInto 6 = .ok (.iload_n 2, 1) := by decide +kernel
theorem dX0_walkInto_7 : decode cX0_walkInto 7 = .ok (.ishr, 1) := by decide +kernel
theorem dX0_walkInto_8 : decode cX0_walkInto 8 = .ok (.iconst 1, 1) := by decide +kernel
theorem dX0_walkInto_9 : decode cX0_walkInto 9 = .ok (.iand, 1) := by decide +kernel
theorem dX0_walkInto_10 : decode cX0_walkInto 10 = .ok (.ifCond .ne 18, 3) := by decide +kernel
theorem dX0_walkInto_13 : decode cX0_walkInto 13 = .ok (.aload_n 0, 1) := by decide +kernel
theorem dX0_walkInto_14 : decode cX0_walkInto 14 = .ok (.getfield 21, 3) := by decide +kernel
theorem dX0_walkInto_17 : decode cX0_walkInto 17 = .ok (.iload_n 2, 1) := by decide +kernel
theorem dX0_walkInto_18 : decode cX0_walkInto 18 = .ok (.iconst 0, 1) := by decide +kernel
theorem dX0_walkInto_19 : decode cX0_walkInto 19 = .ok (.iastore, 1) := by decide +kernel
theorem dX0_walkInto_20 : decode cX0_walkInto 20 = .ok (.aload_n 0, 1) := by decide +kernel
theorem dX0_walkInto_21 : decode cX0_walkInto 21 = .ok (.getfield 24, 3) := by decide +kernel
theorem dX0_walkInto_24 : decode cX0_walkInto 24 = .ok (.iload_n 2, 1) := by decide +kernel
theorem dX0_walkInto_25 : decode cX0_walkInto 25 = .ok (.lconst 0, 1) := by decide +kernel
theorem dX0_walkInto_26 : decode cX0_walkInto 26 = .ok (.lastore, 1) := by decide +kernel
theorem dX0_walkInto_27 : decode cX0_walkInto 27 = .ok (.return_, 1) := by decide +kernel
theorem dX0_walkInto_28 : decode cX0_walkInto 28 = .ok (.iload_n 2, 1) := by decide +kernel
theorem dX0_walkInto_29 : decode cX0_walkInto 29 = .ok (.ifCond .le 37, 3) := by decide +kernel
theorem dX0_walkInto_32 : decode cX0_walkInto 32 = .ok (.aload_n 0, 1) := by decide +kernel
theorem dX0_walkInto_33 : decode cX0_walkInto 33 = .ok (.getfield 21, 3) := by decide +kernel
theorem dX0_walkInto_36 : decode cX0_walkInto 36 = .ok (.iload_n 2, 1) := by decide +kernel
theorem dX0_walkInto_37 : decode cX0_walkInto 37 = .ok (.dup2, 1) := by decide +kernel
theorem dX0_walkInto_38 : decode cX0_walkInto 38 = .ok (.iaload, 1) := by decide +kernel
theorem dX0_walkInto_39 : decode cX0_walkInto 39 = .ok (.aload_n 0, 1) := by decide +kernel
theorem dX0_walkInto_40 : decode cX0_walkInto 40 = .ok (.getfield 21, 3) := by decide +kernel
theorem dX0_walkInto_43 : decode cX0_walkInto 43 = .ok (.iload_n 2, 1) := by decide +kernel
theorem dX0_walkInto_44 : decode cX0_walkInto 44 = .ok (.iconst 1, 1) := by decide +kernel
theorem dX0_walkInto_45 : decode cX0_walkInto 45 = .ok (.isub, 1) := by decide +kernel
theorem dX0_walkInto_46 : decode cX0_walkInto 46 = .ok (.iaload, 1) := by decide +kernel
theorem dX0_walkInto_47 : decode cX0_walkInto 47 = .ok (.iadd, 1) := by decide +kernel
theorem dX0_walkInto_48 : decode cX0_walkInto 48 = .ok (.iastore, 1) := by decide +kernel
theorem dX0_walkInto_49 : decode cX0_walkInto 49 = .ok (.aload_n 0, 1) := by decide +kernel
theorem dX0_walkInto_50 : decode cX0_walkInto 50 = .ok (.getfield 24, 3) := by decide +kernel
theorem dX0_walkInto_53 : decode cX0_walkInto 53 = .ok (.iload_n 2, 1) := by decide +kernel
theorem dX0_walkInto_54 : decode cX0_walkInto 54 = .ok (.dup2, 1) := by decide +kernel
theorem dX0_walkInto_55 : decode cX0_walkInto 55 = .ok (.laload, 1) := by decide +kernel
theorem dX0_walkInto_56 : decode cX0_walkInto 56 = .ok (.aload_n 0, 1) := by decide +kernel
theorem dX0_walkInto_57 : decode cX0_walkInto 57 = .ok (.getfield 24, 3) := by decide +kernel
theorem dX0_walkInto_60 : decode cX0_walkInto 60 = .ok (.iload_n 2, 1) := by decide +kernel
theorem dX0_walkInto_61 : decode cX0_walkInto 61 = .ok (.iconst 1, 1) := by decide +kernel
theorem dX0_walkInto_62 : decode cX0_walkInto 62 = .ok (.isub, 1) := by decide +kernel
theorem dX0_walkInto_63 : decode cX0_walkInto 63 = .ok (.laload, 1) := by decide +kernel
theorem dX0_walkInto_64 : decode cX0_walkInto 64 = .ok (.ladd, 1) := by decide +kernel
theorem dX0_walkInto_65 : decode cX0_walkInto 65 = .ok (.lastore, 1) := by decide +kernel
theorem dX0_walkInto_66 : decode cX0_walkInto 66 = .ok (.aload_n 0, 1) := by decide +kernel
theorem dX0_walkInto_67 : decode cX0_walkInto 67 = .ok (.getfield 18, 3) := by decide +kernel
theorem dX0_walkInto_70 : decode cX0_walkInto 70 = .ok (.iload_n 1, 1) := by decide +kernel
theorem dX0_walkInto_71 : decode cX0_walkInto 71 = .ok (.iaload, 1) := by decide +kernel
theorem dX0_walkInto_72 : decode cX0_walkInto 72 = .ok (.iload_n 2, 1) := by decide +kernel
theorem dX0_walkInto_73 : decode cX0_walkInto 73 = .ok (.ishr, 1) := by decide +kernel
theorem dX0_walkInto_74 : decode cX0_walkInto 74 = .ok (.iconst 1, 1) := by decide +kernel
theorem dX0_walkInto_75 : decode cX0_walkInto 75 = .ok (.iand, 1) := by decide +kernel
theorem dX0_walkInto_76 : decode cX0_walkInto 76 = .ok (.iconst 1, 1) := by decide +kernel
theorem dX0_walkInto_77 : decode cX0_walkInto 77 = .ok (.if_icmp .ne 19, 3) := by decide +kernel
theorem dX0_walkInto_80 : decode cX0_walkInto 80 = .ok (.aload_n 0, 1) := by decide +kernel
theorem dX0_walkInto_81 : decode cX0_walkInto 81 = .ok (.getfield 24, 3) := by decide +kernel
theorem dX0_walkInto_84 : decode cX0_walkInto 84 = .ok (.iload_n 2, 1) := by decide +kernel
theorem dX0_walkInto_85 : decode cX0_walkInto 85 = .ok (.dup2, 1) := by decide +kernel
theorem dX0_walkInto_86 : decode cX0_walkInto 86 = .ok (.laload, 1) := by decide +kernel
theorem dX0_walkInto_87 : decode cX0_walkInto 87 = .ok (.aload_n 0, 1) := by decide +kernel
theorem dX0_walkInto_88 : decode cX0_walkInto 88 = .ok (.getfield 21, 3) := by decide +kernel
theorem dX0_walkInto_91 : decode cX0_walkInto 91 = .ok (.iload_n 2, 1) := by decide +kernel
theorem dX0_walkInto_92 : decode cX0_walkInto 92 = .ok (.iaload, 1) := by decide +kernel
theorem dX0_walkInto_93 : decode cX0_walkInto 93 = .ok (.i2l, 1) := by decide +kernel
theorem dX0_walkInto_94 : decode cX0_walkInto 94 = .ok (.ladd, 1) := by decide +kernel
theorem dX0_walkInto_95 : decode cX0_walkInto 95 = .ok (.lastore, 1) := by decide +kernel
theorem dX0_walkInto_96 : decode cX0_walkInto 96 = .ok (.return_, 1) := by decide +kernel
theorem dX0_tallyMarks_0 : decode cX0_tallyMarks 0 = .ok (.aload_n 0, 1) := by decide +kernel
theorem dX0_tallyMarks_1 : decode cX0_tallyMarks 1 = .ok (.getfield 28, 3) := by decide +kernel
theorem dX0_tallyMarks_4 : decode cX0_tallyMarks 4 = .ok (.iconst 0, 1) := by decide +kernel
theorem dX0_tallyMarks_5 : decode cX0_tallyMarks 5 = .ok (.invokestatic 134, 3) := by decide +kernel
theorem dX0_tallyMarks_8 : decode cX0_tallyMarks 8 = .ok (.aload_n 0, 1) := by decide +kernel
theorem dX0_tallyMarks_9 : decode cX0_tallyMarks 9 = .ok (.getfield 18, 3) := by decide +kernel
theorem dX0_tallyMarks_12 : decode cX0_tallyMarks 12 = .ok (.iconst 0, 1) := by decide +kernel
theorem dX0_tallyMarks_13 : decode cX0_tallyMarks 13 = .ok (.iaload, 1) := by decide +kernel
theorem dX0_tallyMarks_14 : decode cX0_tallyMarks 14 = .ok (.iconst 1, 1) := by decide +kernel
theorem dX0_tallyMarks_15 : decode cX0_tallyMarks 15 = .ok (.iand, 1) := by decide +kernel
theorem dX0_tallyMarks_16 : decode cX0_tallyMarks 16 = .ok (.istore_n 1, 1) := by decide +kernel
theorem dX0_tallyMarks_17 : decode cX0_tallyMarks 17 = .ok (.aload_n 0, 1) := by decide +kernel
theorem dX0_tallyMarks_18 : decode cX0_tallyMarks 18 = .ok (.getfield 28, 3) := by decide +kernel
theorem dX0_tallyMarks_21 : decode cX0_tallyMarks 21 = .ok (.iload_n 1, 1) := by decide +kernel
theorem dX0_tallyMarks_22 : decode cX0_tallyMarks 22 = .ok (.aload_n 0, 1) := by decide +kernel
theorem dX0_tallyMarks_23 : decode cX0_tallyMarks 23 = .ok (.getfield 15, 3) := by decide +kernel
theorem dX0_tallyMarks_26 : decode cX0_tallyMarks 26 = .ok (.iconst 0, 1) := by decide +kernel
theorem dX0_tallyMarks_27 : decode cX0_tallyMarks 27 = .ok (.iaload, 1) := by decide +kernel
theorem dX0_tallyMarks_28 : decode cX0_tallyMarks 28 = .ok (.iconst 1, 1) := by decide +kernel
theorem dX0_tallyMarks_29 : decode cX0_tallyMarks 29 = .ok (.iand, 1) := by decide +kernel
theorem dX0_tallyMarks_30 : decode cX0_tallyMarks 30 = .ok (.iastore, 1) := by decide +kernel
theorem dX0_tallyMarks_31 : decode cX0_tallyMarks 31 = .ok (.iconst 1, 1) := by decide +kernel
theorem dX0_tallyMarks_32 : decode cX0_tallyMarks 32 = .ok (.istore_n 2, 1) := by decide +kernel
theorem dX0_tallyMarks_33 : decode cX0_tallyMarks 33 = .ok (.iload_n 2, 1) := by decide +kernel
theorem dX0_tallyMarks_34 : decode cX0_tallyMarks 34 = .ok (.aload_n 0, 1) := by decide +kernel
theorem dX0_tallyMarks_35 : decode cX0_tallyMarks 35 = .ok (.getfield 88, 3) := by decide +kernel
theorem dX0_tallyMarks_38 : decode cX0_tallyMarks 38 = .ok (.if_icmp .gt 80, 3) := by decide +kernel
theorem dX0_tallyMarks_41 : decode cX0_tallyMarks 41 = .ok (.aload_n 0, 1) := by decide +kernel
theorem dX0_tallyMarks_42 : decode cX0_tallyMarks 42 = .ok (.getfield 15, 3) := by decide +kernel
theorem dX0_tallyMarks_45 : decode cX0_tallyMarks 45 = .ok (.iload_n 2, 1) := by decide +kernel
theorem dX0_tallyMarks_46 : decode cX0_tallyMarks 46 = .ok (.iconst 1, 1) := by decide +kernel
theorem dX0_tallyMarks_47 : decode cX0_tallyMarks 47 = .ok (.isub, 1) := by decide +kernel
theorem dX0_tallyMarks_48 : decode cX0_tallyMarks 48 = .ok (.iaload, 1) := by decide +kernel
theorem dX0_tallyMarks_49 : decode cX0_tallyMarks 49 = .ok (.aload_n 0, 1) := by decide +kernel
theorem dX0_tallyMarks_50 : decode cX0_tallyMarks 50 = .ok (.getfield 15, 3) := by decide +kernel
theorem dX0_tallyMarks_53 : decode cX0_tallyMarks 53 = .ok (.iload_n 2, 1) := by decide +kernel
theorem dX0_tallyMarks_54 : decode cX0_tallyMarks 54 = .ok (.iaload, 1) := by decide +kernel
theorem dX0_tallyMarks_55 : decode cX0_tallyMarks 55 = .ok (.ior, 1) := by decide +kernel
theorem dX0_tallyMarks_56 : decode cX0_tallyMarks 56 = .ok (.istore_n 3, 1) := by decide +kernel
theorem dX0_tallyMarks_57 : decode cX0_tallyMarks 57 = .ok (.iload_n 2, 1) := by decide +kernel
theorem dX0_tallyMarks_58 : decode cX0_tallyMarks 58 = .ok (.istore 4, 2) := by decide +kernel
theorem dX0_tallyMarks_60 : decode cX0_tallyMarks 60 = .ok (.iload 4, 2) := by decide +kernel
theorem dX0_tallyMarks_62 : decode cX0_tallyMarks 62 = .ok (.ifCond .lt 27, 3) := by decide +kernel
theorem dX0_tallyMarks_65 : decode cX0_tallyMarks 65 = .ok (.iload_n 3, 1) := by decide +kernel
theorem dX0_tallyMarks_66 : decode cX0_tallyMarks 66 = .ok (.iload 4, 2) := by decide +kernel
theorem dX0_tallyMarks_68 : decode cX0_tallyMarks 68 = .ok (.ishr, 1) := by decide +kernel
theorem dX0_tallyMarks_69 : decode cX0_tallyMarks 69 = .ok (.iconst 1, 1) := by decide +kernel
theorem dX0_tallyMarks_70 : decode cX0_tallyMarks 70 = .ok (.iand, 1) := by decide +kernel
theorem dX0_tallyMarks_71 : decode cX0_tallyMarks 71 = .ok (.iconst 1, 1) := by decide +kernel
theorem dX0_tallyMarks_72 : decode cX0_tallyMarks 72 = .ok (.if_icmp .ne 11, 3) := by decide +kernel
theorem dX0_tallyMarks_75 : decode cX0_tallyMarks 75 = .ok (.aload_n 0, 1) := by decide +kernel
theorem dX0_tallyMarks_76 : decode cX0_tallyMarks 76 = .ok (.iload_n 2, 1) := by decide +kernel
theorem dX0_tallyMarks_77 : decode cX0_tallyMarks 77 = .ok (.iload 4, 2) := by decide +kernel
theorem dX0_tallyMarks_79 : decode cX0_tallyMarks 79 = .ok (.iload_n 1, 1) := by decide +kernel
theorem dX0_tallyMarks_80 : decode cX0_tallyMarks 80 = .ok (.invokevirtual 146, 3) := by decide +kernel
theorem dX0_tallyMarks_83 : decode cX0_tallyMarks 83 = .ok (.iinc 4 (-1), 3) := by decide +kernel
theorem dX0_tallyMarks_86 : decode cX0_tallyMarks 86 = .ok (.goto (-26), 3) := by decide +kernel
theorem dX0_tallyMarks_89 : decode cX0_tallyMarks 89 = .ok (.iload_n 1, 1) := by decide +kernel
theorem dX0_tallyMarks_90 : decode cX0_tallyMarks 90 = .ok (.aload_n 0, 1) := by decide +kernel
theorem dX0_tallyMarks_91 : decode cX0_tallyMarks 91 = .ok (.getfield 18, 3) := by decide +kernel
theorem dX0_tallyMarks_94 : decode cX0_tallyMarks 94 = .ok (.iload_n 2, 1) := by decide +kernel
theorem dX0_tallyMarks_95 : decode cX0_tallyMarks 95 = .ok (.iaload, 1) := by decide +kernel
theorem dX0_tallyMarks_96 : decode cX0_tallyMarks 96 = .ok (.ifCond .eq 13, 3) := by decide +kernel
theorem dX0_tallyMarks_99 : decode cX0_tallyMarks 99 = .ok (.iload_n 1, 1) := by decide +kernel
theorem dX0_tallyMarks_100 : decode cX0_tallyMarks 100 = .ok (.bipush 24, 2) := by decide +kernel
theorem dX0_tallyMarks_102 : decode cX0_tallyMarks 102 = .ok (.if_icmp .ge 7, 3) := by decide +kernel
theorem dX0_tallyMarks_105 : decode cX0_tallyMarks 105 = .ok (.iconst 1, 1) := by decide +kernel
theorem dX0_tallyMarks_106 : decode cX0_tallyMarks 106 = .ok (.goto 4, 3) := by decide +kernel
theorem dX0_tallyMarks_109 : decode cX0_tallyMarks 109 = .ok (.iconst 0, 1) := by decide +kernel
theorem dX0_tallyMarks_110 : decode cX0_tallyMarks 110 = .ok (.iadd, 1) := by decide +kernel
theorem dX0_tallyMarks_111 : decode cX0_tallyMarks 111 = .ok (.istore_n 1, 1) := by decide +kernel
theorem dX0_tallyMarks_112 : decode cX0_tallyMarks 112 = .ok (.iinc 2 1, 3) := by decide +kernel
theorem dX0_tallyMarks_115 : decode cX0_tallyMarks 115 = .ok (.goto (-82), 3) := by decide +kernel
theorem dX0_tallyMarks_118 : decode cX0_tallyMarks 118 = .ok (.aload_n 0, 1) := by decide +kernel
theorem dX0_tallyMarks_119 : decode cX0_tallyMarks 119 = .ok (.getfield 28, 3) := by decide +kernel
theorem dX0_tallyMarks_122 : decode cX0_tallyMarks 122 = .ok (.aload_n 0, 1) := by decide +kernel
theorem dX0_tallyMarks_123 : decode cX0_tallyMarks 123 = .ok (.getfield 91, 3) := by decide +kernel
theorem dX0_tallyMarks_126 : decode cX0_tallyMarks 126 = .ok (.bipush 25, 2) := by decide +kernel
theorem dX0_tallyMarks_128 : decode cX0_tallyMarks 128 = .ok (.imul, 1) := by decide +kernel
theorem dX0_tallyMarks_129 : decode cX0_tallyMarks 129 = .ok (.aload_n 0, 1) := by decide +kernel
theorem dX0_tallyMarks_130 : decode cX0_tallyMarks 130 = .ok (.getfield 9, 3) := by decide +kernel
theorem dX0_tallyMarks_133 : decode cX0_tallyMarks 133 = .ok (.iconst 0, 1) := by decide +kernel
theorem dX0_tallyMarks_134 : decode cX0_tallyMarks 134 = .ok (.bipush 25, 2) := by decide +kernel
theorem dX0_tallyMarks_136 : decode cX0_tallyMarks 136 = .ok (.invokestatic 149, 3) := by decide +kernel
theorem dX0_tallyMarks_139 : decode cX0_tallyMarks 139 = .ok (.return_, 1) := by decide +kernel
theorem dX0_tallyInto_0 : decode cX0_tallyInto 0 = .ok (.iload_n 2, 1) := by decide +kernel
theorem dX0_tallyInto_1 : decode cX0_tallyInto 1 = .ok (.bipush 25, 2) := by decide +kernel
theorem dX0_tallyInto_3 : decode cX0_tallyInto 3 = .ok (.imul, 1) := by decide +kernel
theorem dX0_tallyInto_4 : decode cX0_tallyInto 4 = .ok (.istore 4, 2) := by decide +kernel
theorem dX0_tallyInto_6 : decode cX0_tallyInto 6 = .ok (.aload_n 0, 1) := by decide +kernel
theorem dX0_tallyInto_7 : decode cX0_tallyInto 7 = .ok (.getfield 15, 3) := by decide +kernel
theorem dX0_tallyInto_10 : decode cX0_tallyInto 10 = .ok (.iload_n 1, 1) := by decide +kernel
theorem dX0_tallyInto_11 : decode cX0_tallyInto 11 = .ok (.iaload, 1) := by decide +kernel
theorem dX0_tallyInto_12 : decode cX0_tallyInto 12 = .ok (.iload_n 2, 1) := by decide +kernel
theorem dX0_tallyInto_13 : decode cX0_tallyInto 13 = .ok (.ishr, 1) := by decide +kernel
theorem dX0_tallyInto_14 : decode cX0_tallyInto 14 = .ok (.iconst 1, 1) := by decide +kernel
theorem dX0_tallyInto_15 : decode cX0_tallyInto 15 = .ok (.iand, 1) := by decide +kernel
theorem dX0_tallyInto_16 : decode cX0_tallyInto 16 = .ok (.iconst 1, 1) := by decide +kernel
theorem dX0_tallyInto_17 : decode cX0_tallyInto 17 = .ok (.if_icmp .ne 7, 3) := by decide +kernel
theorem dX0_tallyInto_20 : decode cX0_tallyInto 20 = .ok (.iconst 1, 1) := by decide +kernel
theorem dX0_tallyInto_21 : decode cX0_tallyInto 21 = .ok (.goto 4, 3) := by decide +kernel
theorem dX0_tallyInto_24 : decode cX0_tallyInto 24 = .ok (.iconst 0, 1) := by decide +kernel
theorem dX0_tallyInto_25 : decode cX0_tallyInto 25 = .ok (.istore 5, 2) := by decide +kernel
theorem dX0_tallyInto_27 : decode cX0_tallyInto 27 = .ok (.aload_n 0, 1) := by decide +kernel
theorem dX0_tallyInto_28 : decode cX0_tallyInto 28 = .ok (.getfield 18, 3) := by decide +kernel
theorem dX0_tallyInto_31 : decode cX0_tallyInto 31 = .ok (.iload_n 1, 1) := by decide +kernel
theorem dX0_tallyInto_32 : decode cX0_tallyInto 32 = .ok (.iaload, 1) := by decide +kernel
theorem dX0_tallyInto_33 : decode cX0_tallyInto 33 = .ok (.iload_n 2, 1) := by decide +kernel
theorem dX0_tallyInto_34 : decode cX0_tallyInto 34 = .ok (.ishr, 1) := by decide +kernel
theorem dX0_tallyInto_35 : decode cX0_tallyInto 35 = .ok (.iconst 1, 1) := by decide +kernel
theorem dX0_tallyInto_36 : decode cX0_tallyInto 36 = .ok (.iand, 1) := by decide +kernel
theorem dX0_tallyInto_37 : decode cX0_tallyInto 37 = .ok (.istore 6, 2) := by decide +kernel
theorem dX0_tallyInto_39 : decode cX0_tallyInto 39 = .ok (.iload_n 3, 1) := by decide +kernel
theorem dX0_tallyInto_40 : decode cX0_tallyInto 40 = .ok (.istore 7, 2) := by decide +kernel
theorem dX0_tallyInto_42 : decode cX0_tallyInto 42 = .ok (.iload 7, 2) := by decide +kernel
theorem dX0_tallyInto_44 : decode cX0_tallyInto 44 = .ok (.ifCond .lt 87, 3) := by decide +kernel
theorem dX0_tallyInto_47 : decode cX0_tallyInto 47 = .ok (.iconst 0, 1) := by decide +kernel
theorem dX0_tallyInto_48 : decode cX0_tallyInto 48 = .ok (.istore 8, 2) := by decide +kernel
theorem dX0_tallyInto_50 : decode cX0_tallyInto 50 = .ok (.iload 5, 2) := by decide +kernel
theorem dX0_tallyInto_52 : decode cX0_tallyInto 52 = .ok (.ifCond .eq 37, 3) := by decide +kernel
theorem dX0_tallyInto_55 : decode cX0_tallyInto 55 = .ok (.aload_n 0, 1) := by decide +kernel
theorem dX0_tallyInto_56 : decode cX0_tallyInto 56 = .ok (.getfield 28, 3) := by decide +kernel
theorem dX0_tallyInto_59 : decode cX0_tallyInto 59 = .ok (.iload 4, 2) := by decide +kernel
theorem dX0_tallyInto_61 : decode cX0_tallyInto 61 = .ok (.iload 7, 2) := by decide +kernel
theorem dX0_tallyInto_63 : decode cX0_tallyInto 63 = .ok (.iadd, 1) := by decide +kernel
theorem dX0_tallyInto_64 : decode cX0_tallyInto 64 = .ok (.iaload, 1) := by decide +kernel
theorem dX0_tallyInto_65 : decode cX0_tallyInto 65 = .ok (.iload_n 2, 1) := by decide +kernel
theorem dX0_tallyInto_66 : decode cX0_tallyInto 66 = .ok (.ifCond .le 19, 3) := by decide +kernel
theorem dX0_tallyInto_69 : decode cX0_tallyInto 69 = .ok (.aload_n 0, 1) := by decide +kernel
theorem dX0_tallyInto_70 : decode cX0_tallyInto 70 = .ok (.getfield 28, 3) := by decide +kernel
theorem dX0_tallyInto_73 : decode cX0_tallyInto 73 = .ok (.iload 4, 2) := by decide +kernel
theorem dX0_tallyInto_75 : decode cX0_tallyInto 75 = .ok (.bipush 25, 2) := by decide +kernel
theorem dX0_tallyInto_77 : decode cX0_tallyInto 77 = .ok (.isub, 1) := by decide +kernel
theorem dX0_tallyInto_78 : decode cX0_tallyInto 78 = .ok (.iload 7, 2) := by decide +kernel
theorem dX0_tallyInto_80 : decode cX0_tallyInto 80 = .ok (.iadd, 1) := by decide +kernel
theorem dX0_tallyInto_81 : decode cX0_tallyInto 81 = .ok (.iaload, 1) := by decide +kernel
theorem dX0_tallyInto_82 : decode cX0_tallyInto 82 = .ok (.goto 4, 3) := by decide +kernel
theorem dX0_tallyInto_85 : decode cX0_tallyInto 85 = .ok (.iconst 0, 1) := by decide +kernel
theorem dX0_tallyInto_86 : decode cX0_tallyInto 86 = .ok (.iadd, 1) := by decide +kernel
theorem dX0_tallyInto_87 : decode cX0_tallyInto 87 = .ok (.istore 8, 2) := by decide +kernel
theorem dX0_tallyInto_89 : decode cX0_tallyInto 89 = .ok (.aload_n 0, 1) := by decide +kernel
theorem dX0_tallyInto_90 : decode cX0_tallyInto 90 = .ok (.getfield 28, 3) := by decide +kernel
theorem dX0_tallyInto_93 : decode cX0_tallyInto 93 = .ok (.iload 4, 2) := by decide +kernel
theorem dX0_tallyInto_95 : decode cX0_tallyInto 95 = .ok (.iload 7, 2) := by decide +kernel
theorem dX0_tallyInto_97 : decode cX0_tallyInto 97 = .ok (.iadd, 1) := by decide +kernel
theorem dX0_tallyInto_98 : decode cX0_tallyInto 98 = .ok (.iconst 0, 1) := by decide +kernel
theorem dX0_tallyInto_99 : decode cX0_tallyInto 99 = .ok (.iastore, 1) := by decide +kernel
theorem dX0_tallyInto_100 : decode cX0_tallyInto 100 = .ok (.iload 7, 2) := by decide +kernel
theorem dX0_tallyInto_102 : decode cX0_tallyInto 102 = .ok (.iload 6, 2) := by decide +kernel
theorem dX0_tallyInto_104 : decode cX0_tallyInto 104 = .ok (.iadd, 1) := by decide +kernel
theorem dX0_tallyInto_105 : decode cX0_tallyInto 105 = .ok (.bipush 25, 2) := by decide +kernel
theorem dX0_tallyInto_107 : decode cX0_tallyInto 107 = .ok (.if_icmp .ge 18, 3) := by decide +kernel
theorem dX0_tallyInto_110 : decode cX0_tallyInto 110 = .ok (.aload_n 0, 1) := by decide +kernel
theorem dX0_tallyInto_111 : decode cX0_tallyInto 111 = .ok (.getfield 28, 3) := by decide +kernel
theorem dX0_tallyInto_114 : decode cX0_tallyInto 114 = .ok (.iload 4, 2) := by decide +kernel
theorem dX0_tallyInto_116 : decode cX0_tallyInto 116 = .ok (.iload 7, 2) := by decide +kernel
theorem dX0_tallyInto_118 : decode cX0_tallyInto 118 = .ok (.iadd, 1) := by decide +kernel
theorem dX0_tallyInto_119 : decode cX0_tallyInto 119 = .ok (.iload 6, 2) := by decide +kernel
theorem dX0_tallyInto_121 : decode cX0_tallyInto 121 = .ok (.iadd, 1) := by decide +kernel
theorem dX0_tallyInto_122 : decode cX0_tallyInto 122 = .ok (.iload 8, 2) := by decide +kernel
theorem dX0_tallyInto_124 : decode cX0_tallyInto 124 = .ok (.iastore, 1) := by decide +kernel
theorem dX0_tallyInto_125 : decode cX0_tallyInto 125 = .ok (.iinc 7 (-1), 3) := by decide +kernel
theorem dX0_tallyInto_128 : decode cX0_tallyInto 128 = .ok (.goto (-86), 3) := by decide +kernel
theorem dX0_tallyInto_131 : decode cX0_tallyInto 131 = .ok (.return_, 1) := by decide +kernel
theorem dX0_tallyFrom_0 : decode cX0_tallyFrom 0 = .ok (.iconst 0, 1) := by decide +kernel
theorem dX0_tallyFrom_1 : decode cX0_tallyFrom 1 = .ok (.istore_n 2, 1) := by decide +kernel
theorem dX0_tallyFrom_2 : decode cX0_tallyFrom 2 = .ok (.iconst 0, 1) := by decide +kernel
theorem dX0_tallyFrom_3 : decode cX0_tallyFrom 3 = .ok (.iload_n 1, 1) := by decide +kernel
theorem dX0_tallyFrom_4 : decode cX0_tallyFrom 4 = .ok (.invokestatic 92, 3) := by decide +kernel
theorem dX0_tallyFrom_7 : decode cX0_tallyFrom 7 = .ok (.istore_n 3, 1) := by decide +kernel
theorem dX0_tallyFrom_8 : decode cX0_tallyFrom 8 = .ok (.iload_n 3, 1) := by decide +kernel
theorem dX0_tallyFrom_9 : decode cX0_tallyFrom 9 = .ok (.bipush 25, 2) := by decide +kernel
theorem dX0_tallyFrom_11 : decode cX0_tallyFrom 11 = .ok (.if_icmp .ge 18, 3) := by decide +kernel
theorem dX0_tallyFrom_14 : decode cX0_tallyFrom 14 = .ok (.iload_n 2, 1) := by decide +kernel
theorem dX0_tallyFrom_15 : decode cX0_tallyFrom 15 = .ok (.aload_n 0, 1) := by decide +kernel
theorem dX0_tallyFrom_16 : decode cX0_tallyFrom 16 = .ok (.getfield 9, 3) := by decide +kernel
theorem dX0_tallyFrom_19 : decode cX0_tallyFrom 19 = .ok (.iload_n 3, 1) := by decide +kernel
theorem dX0_tallyFrom_20 : decode cX0_tallyFrom 20 = .ok (.iaload, 1) := by decide +kernel
theorem dX0_tallyFrom_21 : decode cX0_tallyFrom 21 = .ok (.iadd, 1) := by decide +kernel
theorem dX0_tallyFrom_22 : decode cX0_tallyFrom 22 = .ok (.istore_n 2, 1) := by decide +kernel
theorem dX0_tallyFrom_23 : decode cX0_tallyFrom 23 = .ok (.iinc 3 1, 3) := by decide +kernel
theorem dX0_tallyFrom_26 : decode cX0_tallyFrom 26 = .ok (.goto (-18), 3) := by decide +kernel
theorem dX0_tallyFrom_29 : decode cX0_tallyFrom 29 = .ok (.iload_n 2, 1) := by decide +kernel
theorem dX0_tallyFrom_30 : decode cX0_tallyFrom 30 = .ok (.ireturn, 1) := by decide +kernel
theorem dX0_leastAhead_0 : decode cX0_leastAhead 0 = .ok (.iload_n 0, 1) := by decide +kernel
theorem dX0_leastAhead_1 : decode cX0_leastAhead 1 = .ok (.ifCond .ge 7, 3) := by decide +kernel
theorem dX0_leastAhead_4 : decode cX0_leastAhead 4 = .ok (.iconst 0, 1) := by decide +kernel
theorem dX0_leastAhead_5 : decode cX0_leastAhead 5 = .ok (.goto 12, 3) := by decide +kernel
theorem dX0_leastAhead_8 : decode cX0_leastAhead 8 = .ok (.iload_n 0, 1) := by decide +kernel
theorem dX0_leastAhead_9 : decode cX0_leastAhead 9 = .ok (.iload_n 1, 1) := by decide +kernel
theorem dX0_leastAhead_10 : decode cX0_leastAhead 10 = .ok (.imul, 1) := by decide +kernel
theorem dX0_leastAhead_11 : decode cX0_leastAhead 11 = .ok (.iload_n 0, 1) := by decide +kernel
theorem dX0_leastAhead_12 : decode cX0_leastAhead 12 = .ok (.iconst 1, 1) := by decide +kernel
theorem dX0_leastAhead_13 : decode cX0_leastAhead 13 = .ok (.iadd, 1) := by decide +kernel
theorem dX0_leastAhead_14 : decode cX0_leastAhead 14 = .ok (.idiv, 1) := by decide +kernel
theorem dX0_leastAhead_15 : decode cX0_leastAhead 15 = .ok (.iconst 1, 1) := by decide +kernel
theorem dX0_leastAhead_16 : decode cX0_leastAhead 16 = .ok (.iadd, 1) := by decide +kernel
theorem dX0_leastAhead_17 : decode cX0_leastAhead 17 = .ok (.ireturn, 1) := by decide +kernel
theorem dX0_aheadBits_0 : decode cX0_aheadBits 0 = .ok (.iload_n 0, 1) := by decide +kernel
theorem dX0_aheadBits_1 : decode cX0_aheadBits 1 = .ok (.iload_n 1, 1) := by decide +kernel
theorem dX0_aheadBits_2 : decode cX0_aheadBits 2 = .ok (.invokestatic 124, 3) := by decide +kernel
theorem dX0_aheadBits_5 : decode cX0_aheadBits 5 = .ok (.bipush 24, 2) := by decide +kernel
theorem dX0_aheadBits_7 : decode cX0_aheadBits 7 = .ok (.invokestatic 101, 3) := by decide +kernel
theorem dX0_aheadBits_10 : decode cX0_aheadBits 10 = .ok (.ireturn, 1) := by decide +kernel
theorem dX0_levelBits_0 : decode cX0_levelBits 0 = .ok (.iload_n 0, 1) := by decide +kernel
theorem dX0_levelBits_1 : decode cX0_levelBits 1 = .ok (.iconst 2, 1) := by decide +kernel
theorem dX0_levelBits_2 : decode cX0_levelBits 2 = .ok (.irem, 1) := by decide +kernel
theorem dX0_levelBits_3 : decode cX0_levelBits 3 = .ok (.ifCond .ne 15, 3) := by decide +kernel
theorem dX0_levelBits_6 : decode cX0_levelBits 6 = .ok (.iload_n 0, 1) := by decide +kernel
theorem dX0_levelBits_7 : decode cX0_levelBits 7 = .ok (.iconst 2, 1) := by decide +kernel
theorem dX0_levelBits_8 : decode cX0_levelBits 8 = .ok (.idiv, 1) := by decide +kernel
theorem dX0_levelBits_9 : decode cX0_levelBits 9 = .ok (.iload_n 0, 1) := by decide +kernel
theorem dX0_levelBits_10 : decode cX0_levelBits 10 = .ok (.iconst 2, 1) := by decide +kernel
theorem dX0_levelBits_11 : decode cX0_levelBits 11 = .ok (.idiv, 1) := by decide +kernel
theorem dX0_levelBits_12 : decode cX0_levelBits 12 = .ok (.invokestatic 101, 3) := by decide +kernel
theorem dX0_levelBits_15 : decode cX0_levelBits 15 = .ok (.goto 4, 3) := by decide +kernel
theorem dX0_levelBits_18 : decode cX0_levelBits 18 = .ok (.iconst 0, 1) := by decide +kernel
theorem dX0_levelBits_19 : decode cX0_levelBits 19 = .ok (.ireturn, 1) := by decide +kernel
theorem dX0_bits_0 : decode cX0_bits 0 = .ok (.iload_n 0, 1) := by decide +kernel
theorem dX0_bits_1 : decode cX0_bits 1 = .ok (.ifCond .ge 7, 3) := by decide +kernel
theorem dX0_bits_4 : decode cX0_bits 4 = .ok (.iconst 0, 1) := by decide +kernel
theorem dX0_bits_5 : decode cX0_bits 5 = .ok (.goto 4, 3) := by decide +kernel
theorem dX0_bits_8 : decode cX0_bits 8 = .ok (.iload_n 0, 1) := by decide +kernel
theorem dX0_bits_9 : decode cX0_bits 9 = .ok (.istore_n 2, 1) := by decide +kernel
theorem dX0_bits_10 : decode cX0_bits 10 = .ok (.iload_n 1, 1) := by decide +kernel
theorem dX0_bits_11 : decode cX0_bits 11 = .ok (.bipush 24, 2) := by decide +kernel
theorem dX0_bits_13 : decode cX0_bits 13 = .ok (.if_icmp .le 8, 3) := by decide +kernel
theorem dX0_bits_16 : decode cX0_bits 16 = .ok (.bipush 24, 2) := by decide +kernel
theorem dX0_bits_18 : decode cX0_bits 18 = .ok (.goto 4, 3) := by decide +kernel
theorem dX0_bits_21 : decode cX0_bits 21 = .ok (.iload_n 1, 1) := by decide +kernel
theorem dX0_bits_22 : decode cX0_bits 22 = .ok (.istore_n 3, 1) := by decide +kernel
theorem dX0_bits_23 : decode cX0_bits 23 = .ok (.iload_n 2, 1) := by decide +kernel
theorem dX0_bits_24 : decode cX0_bits 24 = .ok (.iload_n 3, 1) := by decide +kernel
theorem dX0_bits_25 : decode cX0_bits 25 = .ok (.if_icmp .le 7, 3) := by decide +kernel
theorem dX0_bits_28 : decode cX0_bits 28 = .ok (.iconst 0, 1) := by decide +kernel
theorem dX0_bits_29 : decode cX0_bits 29 = .ok (.goto 12, 3) := by decide +kernel
theorem dX0_bits_32 : decode cX0_bits 32 = .ok (.iconst 1, 1) := by decide +kernel
theorem dX0_bits_33 : decode cX0_bits 33 = .ok (.iload_n 3, 1) := by decide +kernel
theorem dX0_bits_34 : decode cX0_bits 34 = .ok (.iconst 1, 1) := by decide +kernel
theorem dX0_bits_35 : decode cX0_bits 35 = .ok (.iadd, 1) := by decide +kernel
theorem dX0_bits_36 : decode cX0_bits 36 = .ok (.ishl, 1) := by decide +kernel
theorem dX0_bits_37 : decode cX0_bits 37 = .ok (.iconst 1, 1) := by decide +kernel
theorem dX0_bits_38 : decode cX0_bits 38 = .ok (.iload_n 2, 1) := by decide +kernel
theorem dX0_bits_39 : decode cX0_bits 39 = .ok (.ishl, 1) := by decide +kernel
theorem dX0_bits_40 : decode cX0_bits 40 = .ok (.isub, 1) := by decide +kernel
theorem dX0_bits_41 : decode cX0_bits 41 = .ok (.ireturn, 1) := by decide +kernel
