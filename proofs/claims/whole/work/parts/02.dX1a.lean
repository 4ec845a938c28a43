theorem dX1_init_0 : decode cX1_init 0 = .ok (.aload_n 0, 1) := by decide +kernel
theorem dX1_init_1 : decode cX1_init 1 = .ok (.invokespecial 3, 3) := by decide +kernel
theorem dX1_init_4 : decode cX1_init 4 = .ok (.aload_n 0, 1) := by decide +kernel
theorem dX1_init_5 : decode cX1_init 5 = .ok (.iconst 4, 1) := by decide +kernel
theorem dX1_init_6 : decode cX1_init 6 = .ok (.newarray .int, 2) := by decide +kernel
theorem dX1_init_8 : decode cX1_init 8 = .ok (.putfield 9, 3) := by decide +kernel
theorem dX1_init_11 : decode cX1_init 11 = .ok (.aload_n 0, 1) := by decide +kernel
theorem dX1_init_12 : decode cX1_init 12 = .ok (.iconst 4, 1) := by decide +kernel
theorem dX1_init_13 : decode cX1_init 13 = .ok (.newarray .int, 2) := by decide +kernel
theorem dX1_init_15 : decode cX1_init 15 = .ok (.putfield 15, 3) := by decide +kernel
theorem dX1_init_18 : decode cX1_init 18 = .ok (.aload_n 0, 1) := by decide +kernel
theorem dX1_init_19 : decode cX1_init 19 = .ok (.iconst 4, 1) := by decide +kernel
theorem dX1_init_20 : decode cX1_init 20 = .ok (.newarray .int, 2) := by decide +kernel
theorem dX1_init_22 : decode cX1_init 22 = .ok (.putfield 18, 3) := by decide +kernel
theorem dX1_init_25 : decode cX1_init 25 = .ok (.aload_n 0, 1) := by decide +kernel
theorem dX1_init_26 : decode cX1_init 26 = .ok (.bipush 24, 2) := by decide +kernel
theorem dX1_init_28 : decode cX1_init 28 = .ok (.newarray .int, 2) := by decide +kernel
theorem dX1_init_30 : decode cX1_init 30 = .ok (.putfield 21, 3) := by decide +kernel
theorem dX1_init_33 : decode cX1_init 33 = .ok (.aload_n 0, 1) := by decide +kernel
theorem dX1_init_34 : decode cX1_init 34 = .ok (.iconst 4, 1) := by decide +kernel
theorem dX1_init_35 : decode cX1_init 35 = .ok (.newarray .int, 2) := by decide +kernel
theorem dX1_init_37 : decode cX1_init 37 = .ok (.putfield 24, 3) := by decide +kernel
theorem dX1_init_40 : decode cX1_init 40 = .ok (.aload_n 0, 1) := by decide +kernel
theorem dX1_init_41 : decode cX1_init 41 = .ok (.iconst 4, 1) := by decide +kernel
theorem dX1_init_42 : decode cX1_init 42 = .ok (.newarray .int, 2) := by decide +kernel
theorem dX1_init_44 : decode cX1_init 44 = .ok (.putfield 27, 3) := by decide +kernel
theorem dX1_init_47 : decode cX1_init 47 = .ok (.aload_n 0, 1) := by decide +kernel
theorem dX1_init_48 : decode cX1_init 48 = .ok (.iconst 4, 1) := by decide +kernel
theorem dX1_init_49 : decode cX1_init 49 = .ok (.newarray .int, 2) := by decide +kernel
theorem dX1_init_51 : decode cX1_init 51 = .ok (.putfield 30, 3) := by decide +kernel
theorem dX1_init_54 : decode cX1_init 54 = .ok (.aload_n 0, 1) := by decide +kernel
theorem dX1_init_55 : decode cX1_init 55 = .ok (.iconst 1, 1) := by decide +kernel
theorem dX1_init_56 : decode cX1_init 56 = .ok (.putfield 33, 3) := by decide +kernel
theorem dX1_init_59 : decode cX1_init 59 = .ok (.return_, 1) := by decide +kernel
theorem dX1_hasRoom_0 : decode cX1_hasRoom 0 = .ok (.aload_n 0, 1) := by decide +kernel
theorem dX1_hasRoom_1 : decode cX1_hasRoom 1 = .ok (.getfield 37, 3) := by decide +kernel
theorem dX1_hasRoom_4 : decode cX1_hasRoom 4 = .ok (.iload_n 1, 1) := by decide +kernel
theorem dX1_hasRoom_5 : decode cX1_hasRoom 5 = .ok (.iadd, 1) := by decide +kernel
theorem dX1_hasRoom_6 : decode cX1_hasRoom 6 = .ok (.bipush 24, 2) := by decide +kernel
theorem dX1_hasRoom_8 : decode cX1_hasRoom 8 = .ok (.if_icmp .gt 7, 3) := by decide +kernel
theorem dX1_hasRoom_11 : decode cX1_hasRoom 11 = .ok (.iconst 1, 1) := by decide +kernel
theorem dX1_hasRoom_12 : decode cX1_hasRoom 12 = .ok (.goto 4, 3) := by decide +kernel
theorem dX1_hasRoom_15 : decode cX1_hasRoom 15 = .ok (.iconst 0, 1) := by decide +kernel
theorem dX1_hasRoom_16 : decode cX1_hasRoom 16 = .ok (.ireturn, 1) := by decide +kernel
theorem dX1_layIn_0 : decode cX1_layIn 0 = .ok (.aload_n 0, 1) := by decide +kernel
theorem dX1_layIn_1 : decode cX1_layIn 1 = .ok (.getfield 40, 3) := by decide +kernel
theorem dX1_layIn_4 : decode cX1_layIn 4 = .ok (.istore_n 3, 1) := by decide +kernel
theorem dX1_layIn_5 : decode cX1_layIn 5 = .ok (.iload_n 3, 1) := by decide +kernel
theorem dX1_layIn_6 : decode cX1_layIn 6 = .ok (.iconst 4, 1) := by decide +kernel
theorem dX1_layIn_7 : decode cX1_layIn 7 = .ok (.if_icmp .ge 56, 3) := by decide +kernel
theorem dX1_layIn_10 : decode cX1_layIn 10 = .ok (.aload_n 0, 1) := by decide +kernel
theorem dX1_layIn_11 : decode cX1_layIn 11 = .ok (.getfield 9, 3) := by decide +kernel
theorem dX1_layIn_14 : decode cX1_layIn 14 = .ok (.iload_n 3, 1) := by decide +kernel
theorem dX1_layIn_15 : decode cX1_layIn 15 = .ok (.iload_n 1, 1) := by decide +kernel
theorem dX1_layIn_16 : decode cX1_layIn 16 = .ok (.iastore, 1) := by decide +kernel
theorem dX1_layIn_17 : decode cX1_layIn 17 = .ok (.aload_n 0, 1) := by decide +kernel
theorem dX1_layIn_18 : decode cX1_layIn 18 = .ok (.getfield 15, 3) := by decide +kernel
theorem dX1_layIn_21 : decode cX1_layIn 21 = .ok (.iload_n 3, 1) := by decide +kernel
theorem dX1_layIn_22 : decode cX1_layIn 22 = .ok (.iload_n 2, 1) := by decide +kernel
theorem dX1_layIn_23 : decode cX1_layIn 23 = .ok (.iastore, 1) := by decide +kernel
theorem dX1_layIn_24 : decode cX1_layIn 24 = .ok (.aload_n 0, 1) := by decide +kernel
theorem dX1_layIn_25 : decode cX1_layIn 25 = .ok (.getfield 18, 3) := by decide +kernel
theorem dX1_layIn_28 : decode cX1_layIn 28 = .ok (.iload_n 3, 1) := by decide +kernel
theorem dX1_layIn_29 : decode cX1_layIn 29 = .ok (.iload_n 3, 1) := by decide +kernel
theorem dX1_layIn_30 : decode cX1_layIn 30 = .ok (.iastore, 1) := by decide +kernel
theorem dX1_layIn_31 : decode cX1_layIn 31 = .ok (.aload_n 0, 1) := by decide +kernel
theorem dX1_layIn_32 : decode cX1_layIn 32 = .ok (.dup, 1) := by decide +kernel
theorem dX1_layIn_33 : decode cX1_layIn 33 = .ok (.getfield 40, 3) := by decide +kernel
theorem dX1_layIn_36 : decode cX1_layIn 36 = .ok (.iconst 1, 1) := by decide +kernel
theorem dX1_layIn_37 : decode cX1_layIn 37 = .ok (.iadd, 1) := by decide +kernel
theorem dX1_layIn_38 : decode cX1_layIn 38 = .ok (.putfield 40, 3) := by decide +kernel
theorem dX1_layIn_41 : decode cX1_layIn 41 = .ok (.aload_n 0, 1) := by decide +kernel
theorem dX1_layIn_42 : decode cX1_layIn 42 = .ok (.dup, 1) := by decide +kernel
theorem dX1_layIn_43 : decode cX1_layIn 43 = .ok (.getfield 37, 3) := by decide +kernel
theorem dX1_layIn_46 : decode cX1_layIn 46 = .ok (.iload_n 1, 1) := by decide +kernel
theorem dX1_layIn_47 : decode cX1_layIn 47 = .ok (.iload_n 2, 1) := by decide +kernel
theorem dX1_layIn_48 : decode cX1_layIn 48 = .ok (.iadd, 1) := by decide +kernel
theorem dX1_layIn_49 : decode cX1_layIn 49 = .ok (.iadd, 1) := by decide +kernel
theorem dX1_layIn_50 : decode cX1_layIn 50 = .ok (.putfield 37, 3) := by decide +kernel
theorem dX1_layIn_53 : decode cX1_layIn 53 = .ok (.aload_n 0, 1) := by decide +kernel
theorem dX1_layIn_54 : decode cX1_layIn 54 = .ok (.dup, 1) := by decide +kernel
theorem dX1_layIn_55 : decode cX1_layIn 55 = .ok (.getfield 43, 3) := by decide +kernel
theorem dX1_layIn_58 : decode cX1_layIn 58 = .ok (.iload_n 1, 1) := by decide +kernel
theorem dX1_layIn_59 : decode cX1_layIn 59 = .ok (.iadd, 1) := by decide +kernel
theorem dX1_layIn_60 : decode cX1_layIn 60 = .ok (.putfield 43, 3) := by decide +kernel
theorem dX1_layIn_63 : decode cX1_layIn 63 = .ok (.iload_n 3, 1) := by decide +kernel
theorem dX1_layIn_64 : decode cX1_layIn 64 = .ok (.ireturn, 1) := by decide +kernel
theorem dX1_remember_0 : decode cX1_remember 0 = .ok (.aload_n 0, 1) := by decide +kernel
theorem dX1_remember_1 : decode cX1_remember 1 = .ok (.getfield 46, 3) := by decide +kernel
theorem dX1_remember_4 : decode cX1_remember 4 = .ok (.istore 4, 2) := by decide +kernel
theorem dX1_remember_6 : decode cX1_remember 6 = .ok (.iload 4, 2) := by decide +kernel
theorem dX1_remember_8 : decode cX1_remember 8 = .ok (.iconst 4, 1) := by decide +kernel
theorem dX1_remember_9 : decode cX1_remember 9 = .ok (.if_icmp .ge 37, 3) := by decide +kernel
theorem dX1_remember_12 : decode cX1_remember 12 = .ok (.aload_n 0, 1) := by decide +kernel
theorem dX1_remember_13 : decode cX1_remember 13 = .ok (.getfield 24, 3) := by decide +kernel
theorem dX1_remember_16 : decode cX1_remember 16 = .ok (.iload 4, 2) := by decide +kernel
theorem dX1_remember_18 : decode cX1_remember 18 = .ok (.iload_n 1, 1) := by decide +kernel
theorem dX1_remember_19 : decode cX1_remember 19 = .ok (.iastore, 1) := by decide +kernel
theorem dX1_remember_20 : decode cX1_remember 20 = .ok (.aload_n 0, 1) := by decide +kernel
theorem dX1_remember_21 : decode cX1_remember 21 = .ok (.getfield 27, 3) := by decide +kernel
theorem dX1_remember_24 : decode cX1_remember 24 = .ok (.iload 4, 2) := by decide +kernel
theorem dX1_remember_26 : decode cX1_remember 26 = .ok (.iload_n 2, 1) := by decide +kernel
theorem dX1_remember_27 : decode cX1_remember 27 = .ok (.iastore, 1) := by decide +kernel
theorem dX1_remember_28 : decode cX1_remember 28 = .ok (.aload_n 0, 1) := by decide +kernel
theorem dX1_remember_29 : decode cX1_remember 29 = .ok (.getfield 30, 3) := by decide +kernel
theorem dX1_remember_32 : decode cX1_remember 32 = .ok (.iload 4, 2) := by decide +kernel
theorem dX1_remember_34 : decode cX1_remember 34 = .ok (.iload_n 3, 1) := by decide +kernel
theorem dX1_remember_35 : decode cX1_remember 35 = .ok (.iastore, 1) := by decide +kernel
theorem dX1_remember_36 : decode cX1_remember 36 = .ok (.aload_n 0, 1) := by decide +kernel
theorem dX1_remember_37 : decode cX1_remember 37 = .ok (.dup, 1) := by decide +kernel
theorem dX1_remember_38 : decode cX1_remember 38 = .ok (.getfield 46, 3) := by decide +kernel
theorem dX1_remember_41 : decode cX1_remember 41 = .ok (.iconst 1, 1) := by decide +kernel
theorem dX1_remember_42 : decode cX1_remember 42 = .ok (.iadd, 1) := by decide +kernel
theorem dX1_remember_43 : decode cX1_remember 43 = .ok (.putfield 46, 3) := by decide +kernel
theorem dX1_remember_46 : decode cX1_remember 46 = .ok (.iload 4, 2) := by decide +kernel
theorem dX1_remember_48 : decode cX1_remember 48 = .ok (.ireturn, 1) := by decide +kernel
theorem dX1_dropFact_0 : decode cX1_dropFact 0 = .ok (.iload_n 1, 1) := by decide +kernel
theorem dX1_dropFact_1 : decode cX1_dropFact 1 = .ok (.istore_n 2, 1) := by decide +kernel
theorem dX1_dropFact_2 : decode cX1_dropFact 2 = .ok (.iload_n 2, 1) := by decide +kernel
theorem dX1_dropFact_3 : decode cX1_dropFact 3 = .ok (.iconst 1, 1) := by decide +kernel
theorem dX1_dropFact_4 : decode cX1_dropFact 4 = .ok (.iadd, 1) := by decide +kernel
theorem dX1_dropFact_5 : decode cX1_dropFact 5 = .ok (.aload_n 0, 1) := by decide +kernel
theorem dX1_dropFact_6 : decode cX1_dropFact 6 = .ok (.getfield 46, 3) := by decide +kernel
theorem dX1_dropFact_9 : decode cX1_dropFact 9 = .ok (.if_icmp .ge 51, 3) := by decide +kernel
theorem dX1_dropFact_12 : decode cX1_dropFact 12 = .ok (.aload_n 0, 1) := by decide +kernel
theorem dX1_dropFact_13 : decode cX1_dropFact 13 = .ok (.getfield 24, 3) := by decide +kernel
theorem dX1_dropFact_16 : decode cX1_dropFact 16 = .ok (.iload_n 2, 1) := by decide +kernel
theorem dX1_dropFact_17 : decode cX1_dropFact 17 = .ok (.aload_n 0, 1) := by decide +kernel
theorem dX1_dropFact_18 : decode cX1_dropFact 18 = .ok (.getfield 24, 3) := by decide +kernel
theorem dX1_dropFact_21 : decode cX1_dropFact 21 = .ok (.iload_n 2, 1) := by decide +kernel
theorem dX1_dropFact_22 : decode cX1_dropFact 22 = .ok (.iconst 1, 1) := by decide +kernel
theorem dX1_dropFact_23 : decode cX1_dropFact 23 = .ok (.iadd, 1) := by decide +kernel
theorem dX1_dropFact_24 : decode cX1_dropFact 24 = .ok (.iaload, 1) := by decide +kernel
theorem dX1_dropFact_25 : decode cX1_dropFact 25 = .ok (.iastore, 1) := by decide +kernel
theorem dX1_dropFact_26 : decode cX1_dropFact 26 = .ok (.aload_n 0, 1) := by decide +kernel
theorem dX1_dropFact_27 : decode cX1_dropFact 27 = .ok (.getfield 27, 3) := by decide +kernel
theorem dX1_dropFact_30 : decode cX1_dropFact 30 = .ok (.iload_n 2, 1) := by decide +kernel
theorem dX1_dropFact_31 : decode cX1_dropFact 31 = .ok (.aload_n 0, 1) := by decide +kernel
theorem dX1_dropFact_32 : decode cX1_dropFact 32 = .ok (.getfield 27, 3) := by decide +kernel
theorem dX1_dropFact_35 : decode cX1_dropFact 35 = .ok (.iload_n 2, 1) := by decide +kernel
theorem dX1_dropFact_36 : decode cX1_dropFact 36 = .ok (.iconst 1, 1) := by decide +kernel
theorem dX1_dropFact_37 : decode cX1_dropFact 37 = .ok (.iadd, 1) := by decide +kernel
theorem dX1_dropFact_38 : decode cX1_dropFact 38 = .ok (.iaload, 1) := by decide +kernel
theorem dX1_dropFact_39 : decode cX1_dropFact 39 = .ok (.iastore, 1) := by decide +kernel
theorem dX1_dropFact_40 : decode cX1_dropFact 40 = .ok (.aload_n 0, 1) := by decide +kernel
theorem dX1_dropFact_41 : decode cX1_dropFact 41 = .ok (.getfield 30, 3) := by decide +kernel
theorem dX1_dropFact_44 : decode cX1_dropFact 44 = .ok (.iload_n 2, 1) := by decide +kernel
theorem dX1_dropFact_45 : decode cX1_dropFact 45 = .ok (.aload_n 0, 1) := by decide +kernel
theorem dX1_dropFact_46 : decode cX1_dropFact 46 = .ok (.getfield 30, 3) := by decide +kernel
theorem dX1_dropFact_49 : decode cX1_dropFact 49 = .ok (.iload_n 2, 1) := by decide +kernel
theorem dX1_dropFact_50 : decode cX1_dropFact 50 = .ok (.iconst 1, 1) := by decide +kernel
theorem dX1_dropFact_51 : decode cX1_dropFact 51 = .ok (.iadd, 1) := by decide +kernel
theorem dX1_dropFact_52 : decode cX1_dropFact 52 = .ok (.iaload, 1) := by decide +kernel
theorem dX1_dropFact_53 : decode cX1_dropFact 53 = .ok (.iastore, 1) := by decide +kernel
theorem dX1_dropFact_54 : decode cX1_dropFact 54 = .ok (.iinc 2 1, 3) := by decide +kernel
theorem dX1_dropFact_57 : decode cX1_dropFact 57 = .ok (.goto (-55), 3) := by decide +kernel
theorem dX1_dropFact_60 : decode cX1_dropFact 60 = .ok (.aload_n 0, 1) := by decide +kernel
theorem dX1_dropFact_61 : decode cX1_dropFact 61 = .ok (.dup, 1) := by decide +kernel
theorem dX1_dropFact_62 : decode cX1_dropFact 62 = .ok (.getfield 46, 3) := by decide +kernel
theorem dX1_dropFact_65 : decode cX1_dropFact 65 = .ok (.iconst 1, 1) := by decide +kernel
theorem dX1_dropFact_66 : decode cX1_dropFact 66 = .ok (.isub, 1) := by decide +kernel
theorem dX1_dropFact_67 : decode cX1_dropFact 67 = .ok (.putfield 46, 3) := by decide +kernel
theorem dX1_dropFact_70 : decode cX1_dropFact 70 = .ok (.aload_n 0, 1) := by decide +kernel
theorem dX1_dropFact_71 : decode cX1_dropFact 71 = .ok (.getfield 46, 3) := by decide +kernel
theorem dX1_dropFact_74 : decode cX1_dropFact 74 = .ok (.ireturn, 1) := by decide +kernel
theorem dX1_exchange_0 : decode cX1_exchange 0 = .ok (.aload_n 0, 1) := by decide +kernel
theorem dX1_exchange_1 : decode cX1_exchange 1 = .ok (.getfield 18, 3) := by decide +kernel
theorem dX1_exchange_4 : decode cX1_exchange 4 = .ok (.iload_n 1, 1) := by decide +kernel
theorem dX1_exchange_5 : decode cX1_exchange 5 = .ok (.iaload, 1) := by decide +kernel
theorem dX1_exchange_6 : decode cX1_exchange 6 = .ok (.istore_n 3, 1) := by decide +kernel
theorem dX1_exchange_7 : decode cX1_exchange 7 = .ok (.aload_n 0, 1) := by decide +kernel
theorem dX1_exchange_8 : decode cX1_exchange 8 = .ok (.getfield 18, 3) := by decide +kernel
theorem dX1_exchange_11 : decode cX1_exchange 11 = .ok (.iload_n 1, 1) := by decide +kernel
theorem dX1_exchange_12 : decode cX1_exchange 12 = .ok (.aload_n 0, 1) := by decide +kernel
theorem dX1_exchange_13 : decode cX1_exchange 13 = .ok (.getfield 18, 3) := by decide +kernel
theorem dX1_exchange_16 : decode cX1_exchange 16 = .ok (.iload_n 2, 1) := by decide +kernel
theorem dX1_exchange_17 : decode cX1_exchange 17 = .ok (.iaload, 1) := by decide +kernel
theorem dX1_exchange_18 : decode cX1_exchange 18 = .ok (.iastore, 1) := by decide +kernel
theorem dX1_exchange_19 : decode cX1_exchange 19 = .ok (.aload_n 0, 1) := by decide +kernel
theorem dX1_exchange_20 : decode cX1_exchange 20 = .ok (.getfield 18, 3) := by decide +kernel
theorem dX1_exchange_23 : decode cX1_exchange 23 = .ok (.iload_n 2, 1) := by decide +kernel
theorem dX1_exchange_24 : decode cX1_exchange 24 = .ok (.iload_n 3, 1) := by decide +kernel
theorem dX1_exchange_25 : decode cX1_exchange 25 = .ok (.iastore, 1) := by decide +kernel
theorem dX1_exchange_26 : decode cX1_exchange 26 = .ok (.return_, 1) := by decide +kernel
theorem dX1_placeOf_0 : decode cX1_placeOf 0 = .ok (.iconst 0, 1) := by decide +kernel
theorem dX1_placeOf_1 : decode cX1_placeOf 1 = .ok (.istore_n 2, 1) := by decide +kernel
theorem dX1_placeOf_2 : decode cX1_placeOf 2 = .ok (.iload_n 2, 1) := by decide +kernel
theorem dX1_placeOf_3 : decode cX1_placeOf 3 = .ok (.aload_n 0, 1) := by decide +kernel
theorem dX1_placeOf_4 : decode cX1_placeOf 4 = .ok (.getfield 40, 3) := by decide +kernel
theorem dX1_placeOf_7 : decode cX1_placeOf 7 = .ok (.if_icmp .ge 21, 3) := by decide +kernel
theorem dX1_placeOf_10 : decode cX1_placeOf 10 = .ok (.aload_n 0, 1) := by decide +kernel
theorem dX1_placeOf_11 : decode cX1_placeOf 11 = .ok (.getfield 18, 3) := by decide +kernel
theorem dX1_placeOf_14 : decode cX1_placeOf 14 = .ok (.iload_n 2, 1) := by decide +kernel
theorem dX1_placeOf_15 : decode cX1_placeOf 15 = .ok (.iaload, 1) := by decide +kernel
theorem dX1_placeOf_16 : decode cX1_placeOf 16 = .ok (.iload_n 1, 1) := by decide +kernel
theorem dX1_placeOf_17 : decode cX1_placeOf 17 = .ok (.if_icmp .ne 5, 3) := by decide +kernel
theorem dX1_placeOf_20 : decode cX1_placeOf 20 = .ok (.iload_n 2, 1) := by decide +kernel
theorem dX1_placeOf_21 : decode cX1_placeOf 21 = .ok (.ireturn, 1) := by decide +kernel
theorem dX1_placeOf_22 : decode cX1_placeOf 22 = .ok (.iinc 2 1, 3) := by decide +kernel
theorem dX1_placeOf_25 : decode cX1_placeOf 25 = .ok (.goto (-23), 3) := by decide +kernel
theorem dX1_placeOf_28 : decode cX1_placeOf 28 = .ok (.iconst (-1), 1) := by decide +kernel
theorem dX1_placeOf_29 : decode cX1_placeOf 29 = .ok (.ireturn, 1) := by decide +kernel
theorem dX1_heapNow_0 : decode cX1_heapNow 0 = .ok (.iconst 0, 1) := by decide +kernel
theorem dX1_heapNow_1 : decode cX1_heapNow 1 = .ok (.istore_n 1, 1) := by decide +kernel
theorem dX1_heapNow_2 : decode cX1_heapNow 2 = .ok (.iconst 0, 1) := by decide +kernel
theorem dX1_heapNow_3 : decode cX1_heapNow 3 = .ok (.istore_n 2, 1) := by decide +kernel
theorem dX1_heapNow_4 : decode cX1_heapNow 4 = .ok (.iload_n 2, 1) := by decide +kernel
theorem dX1_heapNow_5 : decode cX1_heapNow 5 = .ok (.aload_n 0, 1) := by decide +kernel
theorem dX1_heapNow_6 : decode cX1_heapNow 6 = .ok (.getfield 40, 3) := by decide +kernel
theorem dX1_heapNow_9 : decode cX1_heapNow 9 = .ok (.if_icmp .ge 42, 3) := by decide +kernel
theorem dX1_heapNow_12 : decode cX1_heapNow 12 = .ok (.aload_n 0, 1) := by decide +kernel
theorem dX1_heapNow_13 : decode cX1_heapNow 13 = .ok (.getfield 18, 3) := by decide +kernel
theorem dX1_heapNow_16 : decode cX1_heapNow 16 = .ok (.iload_n 2, 1) := by decide +kernel
theorem dX1_heapNow_17 : decode cX1_heapNow 17 = .ok (.iaload, 1) := by decide +kernel
theorem dX1_heapNow_18 : decode cX1_heapNow 18 = .ok (.istore_n 3, 1) := by decide +kernel
theorem dX1_heapNow_19 : decode cX1_heapNow 19 = .ok (.iload_n 1, 1) := by decide +kernel
theorem dX1_heapNow_20 : decode cX1_heapNow 20 = .ok (.aload_n 0, 1) := by decide +kernel
theorem dX1_heapNow_21 : decode cX1_heapNow 21 = .ok (.getfield 9, 3) := by decide +kernel
theorem dX1_heapNow_24 : decode cX1_heapNow 24 = .ok (.iload_n 3, 1) := by decide +kernel
theorem dX1_heapNow_25 : decode cX1_heapNow 25 = .ok (.iaload, 1) := by decide +kernel
theorem dX1_heapNow_26 : decode cX1_heapNow 26 = .ok (.aload_n 0, 1) := by decide +kernel
theorem dX1_heapNow_27 : decode cX1_heapNow 27 = .ok (.getfield 15, 3) := by decide +kernel
theorem dX1_heapNow_30 : decode cX1_heapNow 30 = .ok (.iload_n 3, 1) := by decide +kernel
theorem dX1_heapNow_31 : decode cX1_heapNow 31 = .ok (.iaload, 1) := by decide +kernel
theorem dX1_heapNow_32 : decode cX1_heapNow 32 = .ok (.iadd, 1) := by decide +kernel
theorem dX1_heapNow_33 : decode cX1_heapNow 33 = .ok (.iadd, 1) := by decide +kernel
theorem dX1_heapNow_34 : decode cX1_heapNow 34 = .ok (.istore_n 1, 1) := by decide +kernel
theorem dX1_heapNow_35 : decode cX1_heapNow 35 = .ok (.iload_n 1, 1) := by decide +kernel
theorem dX1_heapNow_36 : decode cX1_heapNow 36 = .ok (.aload_n 0, 1) := by decide +kernel
theorem dX1_heapNow_37 : decode cX1_heapNow 37 = .ok (.getfield 49, 3) := by decide +kernel
theorem dX1_heapNow_40 : decode cX1_heapNow 40 = .ok (.if_icmp .le 5, 3) := by decide +kernel
theorem dX1_heapNow_43 : decode cX1_heapNow 43 = .ok (.iload_n 3, 1) := by decide +kernel
theorem dX1_heapNow_44 : decode cX1_heapNow 44 = .ok (.ireturn, 1) := by decide +kernel
theorem dX1_heapNow_45 : decode cX1_heapNow 45 = .ok (.iinc 2 1, 3) := by decide +kernel
theorem dX1_heapNow_48 : decode cX1_heapNow 48 = .ok (.goto (-44), 3) := by decide +kernel
theorem dX1_heapNow_51 : decode cX1_heapNow 51 = .ok (.iconst (-1), 1) := by decide +kernel
theorem dX1_heapNow_52 : decode cX1_heapNow 52 = .ok (.ireturn, 1) := by decide +kernel
theorem dX1_leftNow_0 : decode cX1_leftNow 0 = .ok (.aload_n 0, 1) := by decide +kernel
theorem dX1_leftNow_1 : decode cX1_leftNow 1 = .ok (.invokevirtual 52, 3) := by decide +kernel
theorem dX1_leftNow_4 : decode cX1_leftNow 4 = .ok (.istore_n 2, 1) := by decide +kernel
theorem dX1_leftNow_5 : decode cX1_leftNow 5 = .ok (.iload_n 2, 1) := by decide +kernel
theorem dX1_leftNow_6 : decode cX1_leftNow 6 = .ok (.iconst (-1), 1) := by decide +kernel
theorem dX1_leftNow_7 : decode cX1_leftNow 7 = .ok (.if_icmp .ne 7, 3) := by decide +kernel
theorem dX1_leftNow_10 : decode cX1_leftNow 10 = .ok (.iconst (-1), 1) := by decide +kernel
theorem dX1_leftNow_11 : decode cX1_leftNow 11 = .ok (.goto 8, 3) := by decide +kernel
theorem dX1_leftNow_14 : decode cX1_leftNow 14 = .ok (.aload_n 0, 1) := by decide +kernel
theorem dX1_leftNow_15 : decode cX1_leftNow 15 = .ok (.iload_n 2, 1) := by decide +kernel
theorem dX1_leftNow_16 : decode cX1_leftNow 16 = .ok (.invokevirtual 56, 3) := by decide +kernel
theorem dX1_leftNow_19 : decode cX1_leftNow 19 = .ok (.istore_n 3, 1) := by decide +kernel
theorem dX1_leftNow_20 : decode cX1_leftNow 20 = .ok (.iload_n 1, 1) := by decide +kernel
theorem dX1_leftNow_21 : decode cX1_leftNow 21 = .ok (.ifCond .eq 11, 3) := by decide +kernel
theorem dX1_leftNow_24 : decode cX1_leftNow 24 = .ok (.aload_n 0, 1) := by decide +kernel
theorem dX1_leftNow_25 : decode cX1_leftNow 25 = .ok (.getfield 60, 3) := by decide +kernel
theorem dX1_leftNow_28 : decode cX1_leftNow 28 = .ok (.ineg, 1) := by decide +kernel
theorem dX1_leftNow_29 : decode cX1_leftNow 29 = .ok (.goto 12, 3) := by decide +kernel
theorem dX1_leftNow_32 : decode cX1_leftNow 32 = .ok (.aload_n 0, 1) := by decide +kernel
theorem dX1_leftNow_33 : decode cX1_leftNow 33 = .ok (.getfield 60, 3) := by decide +kernel
theorem dX1_leftNow_36 : decode cX1_leftNow 36 = .ok (.aload_n 0, 1) := by decide +kernel
theorem dX1_leftNow_37 : decode cX1_leftNow 37 = .ok (.getfield 49, 3) := by decide +kernel
theorem dX1_leftNow_40 : decode cX1_leftNow 40 = .ok (.isub, 1) := by decide +kernel
theorem dX1_leftNow_41 : decode cX1_leftNow 41 = .ok (.istore 4, 2) := by decide +kernel
theorem dX1_leftNow_43 : decode cX1_leftNow 43 = .ok (.iconst 0, 1) := by decide +kernel
theorem dX1_leftNow_44 : decode cX1_leftNow 44 = .ok (.istore 5, 2) := by decide +kernel
theorem dX1_leftNow_46 : decode cX1_leftNow 46 = .ok (.iload 5, 2) := by decide +kernel
theorem dX1_leftNow_48 : decode cX1_leftNow 48 = .ok (.iload_n 3, 1) := by decide +kernel
theorem dX1_leftNow_49 : decode cX1_leftNow 49 = .ok (.if_icmp .gt 45, 3) := by decide +kernel
theorem dX1_leftNow_52 : decode cX1_leftNow 52 = .ok (.iload 4, 2) := by decide +kernel
theorem dX1_leftNow_54 : decode cX1_leftNow 54 = .ok (.iload_n 1, 1) := by decide +kernel
theorem dX1_leftNow_55 : decode cX1_leftNow 55 = .ok (.ifCond .eq 18, 3) := by decide +kernel
theorem dX1_leftNow_58 : decode cX1_leftNow 58 = .ok (.aload_n 0, 1) := by decide +kernel
theorem dX1_leftNow_59 : decode cX1_leftNow 59 = .ok (.getfield 9, 3) := by decide +kernel
theorem dX1_leftNow_62 : decode cX1_leftNow 62 = .ok (.aload_n 0, 1) := by decide +kernel
theorem dX1_leftNow_63 : decode cX1_leftNow 63 = .ok (.getfield 18, 3) := by decide +kernel
theorem dX1_leftNow_66 : decode cX1_leftNow 66 = .ok (.iload 5, 2) := by decide +kernel
theorem dX1_leftNow_68 : decode cX1_leftNow 68 = .ok (.iaload, 1) := by decide +kernel
theorem dX1_leftNow_69 : decode cX1_leftNow 69 = .ok (.iaload, 1) := by decide +kernel
theorem dX1_leftNow_70 : decode cX1_leftNow 70 = .ok (.goto 15, 3) := by decide +kernel
theorem dX1_leftNow_73 : decode cX1_leftNow 73 = .ok (.aload_n 0, 1) := by decide +kernel
theorem dX1_leftNow_74 : decode cX1_leftNow 74 = .ok (.getfield 15, 3) := by decide +kernel
theorem dX1_leftNow_77 : decode cX1_leftNow 77 = .ok (.aload_n 0, 1) := by decide +kernel
theorem dX1_leftNow_78 : decode cX1_leftNow 78 = .ok (.getfield 18, 3) := by decide +kernel
theorem dX1_leftNow_81 : decode cX1_leftNow 81 = .ok (.iload 5, 2) := by decide +kernel
theorem dX1_leftNow_83 : decode cX1_leftNow 83 = .ok (.iaload, 1) := by decide +kernel
theorem dX1_leftNow_84 : decode cX1_leftNow 84 = .ok (.iaload, 1) := by decide +kernel
theorem dX1_leftNow_85 : decode cX1_leftNow 85 = .ok (.iadd, 1) := by decide +kernel
theorem dX1_leftNow_86 : decode cX1_leftNow 86 = .ok (.istore 4, 2) := by decide +kernel
theorem dX1_leftNow_88 : decode cX1_leftNow 88 = .ok (.iinc 5 1, 3) := by decide +kernel
theorem dX1_leftNow_91 : decode cX1_leftNow 91 = .ok (.goto (-45), 3) := by decide +kernel
theorem dX1_leftNow_94 : decode cX1_leftNow 94 = .ok (.iload_n 3, 1) := by decide +kernel
theorem dX1_leftNow_95 : decode cX1_leftNow 95 = .ok (.iconst (-1), 1) := by decide +kernel
theorem dX1_leftNow_96 : decode cX1_leftNow 96 = .ok (.if_icmp .ne 7, 3) := by decide +kernel
theorem dX1_leftNow_99 : decode cX1_leftNow 99 = .ok (.iconst 0, 1) := by decide +kernel
theorem dX1_leftNow_100 : decode cX1_leftNow 100 = .ok (.goto 5, 3) := by decide +kernel
theorem dX1_leftNow_103 : decode cX1_leftNow 103 = .ok (.iload 4, 2) := by decide +kernel
theorem dX1_leftNow_105 : decode cX1_leftNow 105 = .ok (.ireturn, 1) := by decide +kernel
theorem dX1_take_0 : decode cX1_take 0 = .ok (.aload_n 0, 1) := by decide +kernel
theorem dX1_take_1 : decode cX1_take 1 = .ok (.getfield 49, 3) := by decide +kernel
theorem dX1_take_4 : decode cX1_take 4 = .ok (.bipush 24, 2) := by decide +kernel
theorem dX1_take_6 : decode cX1_take 6 = .ok (.if_icmp .ge 11, 3) := by decide +kernel
theorem dX1_take_9 : decode cX1_take 9 = .ok (.aload_n 0, 1) := by decide +kernel
theorem dX1_take_10 : decode cX1_take 10 = .ok (.iload_n 1, 1) := by decide +kernel
theorem dX1_take_11 : decode cX1_take 11 = .ok (.invokevirtual 63, 3) := by decide +kernel
theorem dX1_take_14 : decode cX1_take 14 = .ok (.ifCond .gt 5, 3) := by decide +kernel
theorem dX1_take_17 : decode cX1_take 17 = .ok (.iconst 0, 1) := by decide +kernel
theorem dX1_take_18 : decode cX1_take 18 = .ok (.ireturn, 1) := by decide +kernel
theorem dX1_take_19 : decode cX1_take 19 = .ok (.aload_n 0, 1) := by decide +kernel
theorem dX1_take_20 : decode cX1_take 20 = .ok (.getfield 21, 3) := by decide +kernel
theorem dX1_take_23 : decode cX1_take 23 = .ok (.aload_n 0, 1) := by decide +kernel
theorem dX1_take_24 : decode cX1_take 24 = .ok (.getfield 49, 3) := by decide +kernel
theorem dX1_take_27 : decode cX1_take 27 = .ok (.iload_n 1, 1) := by decide +kernel
theorem dX1_take_28 : decode cX1_take 28 = .ok (.ifCond .eq 7, 3) := by decide +kernel
theorem dX1_take_31 : decode cX1_take 31 = .ok (.iconst 1, 1) := by decide +kernel
theorem dX1_take_32 : decode cX1_take 32 = .ok (.goto 4, 3) := by decide +kernel
theorem dX1_take_35 : decode cX1_take 35 = .ok (.iconst 0, 1) := by decide +kernel
theorem dX1_take_36 : decode cX1_take 36 = .ok (.iastore, 1) := by decide +kernel
theorem dX1_take_37 : decode cX1_take 37 = .ok (.aload_n 0, 1) := by decide +kernel
theorem dX1_take_38 : decode cX1_take 38 = .ok (.dup, 1) := by decide +kernel
theorem dX1_take_39 : decode cX1_take 39 = .ok (.getfield 60, 3) := by decide +kernel
theorem dX1_take_42 : decode cX1_take 42 = .ok (.iload_n 1, 1) := by decide +kernel
theorem dX1_take_43 : decode cX1_take 43 = .ok (.ifCond .eq 7, 3) := by decide +kernel
theorem dX1_take_46 : decode cX1_take 46 = .ok (.iconst 1, 1) := by decide +kernel
theorem dX1_take_47 : decode cX1_take 47 = .ok (.goto 4, 3) := by decide +kernel
theorem dX1_take_50 : decode cX1_take 50 = .ok (.iconst 0, 1) := by decide +kernel
theorem dX1_take_51 : decode cX1_take 51 = .ok (.iadd, 1) := by decide +kernel
theorem dX1_take_52 : decode cX1_take 52 = .ok (.putfield 60, 3) := by decide +kernel
theorem dX1_take_55 : decode cX1_take 55 = .ok (.aload_n 0, 1) := by decide +kernel
theorem dX1_take_56 : decode cX1_take 56 = .ok (.dup, 1) := by decide +kernel
theorem dX1_take_57 : decode cX1_take 57 = .ok (.getfield 49, 3) := by decide +kernel
theorem dX1_take_60 : decode cX1_take 60 = .ok (.iconst 1, 1) := by decide +kernel
theorem dX1_take_61 : decode cX1_take 61 = .ok (.iadd, 1) := by decide +kernel
theorem dX1_take_62 : decode cX1_take 62 = .ok (.putfield 49, 3) := by decide +kernel
theorem dX1_take_65 : decode cX1_take 65 = .ok (.iconst 1, 1) := by decide +kernel
theorem dX1_take_66 : decode cX1_take 66 = .ok (.ireturn, 1) := by decide +kernel
theorem dX1_takeByDraw_0 : decode cX1_takeByDraw 0 = .ok (.aload_n 0, 1) := by decide +kernel
theorem dX1_takeByDraw_1 : decode cX1_takeByDraw 1 = .ok (.iconst 1, 1) := by decide +kernel
theorem dX1_takeByDraw_2 : decode cX1_takeByDraw 2 = .ok (.invokevirtual 63, 3) := by decide +kernel
theorem dX1_takeByDraw_5 : decode cX1_takeByDraw 5 = .ok (.istore_n 1, 1) := by decide +kernel
theorem dX1_takeByDraw_6 : decode cX1_takeByDraw 6 = .ok (.aload_n 0, 1) := by decide +kernel
theorem dX1_takeByDraw_7 : decode cX1_takeByDraw 7 = .ok (.iload_n 1, 1) := by decide +kernel
theorem dX1_takeByDraw_8 : decode cX1_takeByDraw 8 = .ok (.aload_n 0, 1) := by decide +kernel
theorem dX1_takeByDraw_9 : decode cX1_takeByDraw 9 = .ok (.iconst 0, 1) := by decide +kernel
theorem dX1_takeByDraw_10 : decode cX1_takeByDraw 10 = .ok (.invokevirtual 63, 3) := by decide +kernel
theorem dX1_takeByDraw_13 : decode cX1_takeByDraw 13 = .ok (.iadd, 1) := by decide +kernel
theorem dX1_takeByDraw_14 : decode cX1_takeByDraw 14 = .ok (.invokevirtual 67, 3) := by decide +kernel
theorem dX1_takeByDraw_17 : decode cX1_takeByDraw 17 = .ok (.iload_n 1, 1) := by decide +kernel
theorem dX1_takeByDraw_18 : decode cX1_takeByDraw 18 = .ok (.if_icmp .ge 7, 3) := by decide +kernel
theorem dX1_takeByDraw_21 : decode cX1_takeByDraw 21 = .ok (.iconst 1, 1) := by decide +kernel
theorem dX1_takeByDraw_22 : decode cX1_takeByDraw 22 = .ok (.goto 4, 3) := by decide +kernel
theorem dX1_takeByDraw_25 : decode cX1_takeByDraw 25 = .ok (.iconst 0, 1) := by decide +kernel
theorem dX1_takeByDraw_26 : decode cX1_takeByDraw 26 = .ok (.istore_n 2, 1) := by decide +kernel
theorem dX1_takeByDraw_27 : decode cX1_takeByDraw 27 = .ok (.aload_n 0, 1) := by decide +kernel
theorem dX1_takeByDraw_28 : decode cX1_takeByDraw 28 = .ok (.iload_n 2, 1) := by decide +kernel
theorem dX1_takeByDraw_29 : decode cX1_takeByDraw 29 = .ok (.invokevirtual 70, 3) := by decide +kernel
theorem dX1_takeByDraw_32 : decode cX1_takeByDraw 32 = .ok (.pop, 1) := by decide +kernel
theorem dX1_takeByDraw_33 : decode cX1_takeByDraw 33 = .ok (.iload_n 2, 1) := by decide +kernel
theorem dX1_takeByDraw_34 : decode cX1_takeByDraw 34 = .ok (.ifCond .eq 7, 3) := by decide +kernel
theorem dX1_takeByDraw_37 : decode cX1_takeByDraw 37 = .ok (.iconst 1, 1) := by decide +kernel
theorem dX1_takeByDraw_38 : decode cX1_takeByDraw 38 = .ok (.goto 4, 3) := by decide +kernel
theorem dX1_takeByDraw_41 : decode cX1_takeByDraw 41 = .ok (.iconst 0, 1) := by decide +kernel
theorem dX1_takeByDraw_42 : decode cX1_takeByDraw 42 = .ok (.ireturn, 1) := by decide +kernel
theorem dX1_drawBelow_0 : decode cX1_drawBelow 0 = .ok (.iload_n 1, 1) := by decide +kernel
theorem dX1_drawBelow_1 : decode cX1_drawBelow 1 = .ok (.ifCond .gt 5, 3) := by decide +kernel
theorem dX1_drawBelow_4 : decode cX1_drawBelow 4 = .ok (.iconst 0, 1) := by decide +kernel
theorem dX1_drawBelow_5 : decode cX1_drawBelow 5 = .ok (.ireturn, 1) := by decide +kernel
theorem dX1_drawBelow_6 : decode cX1_drawBelow 6 = .ok (.aload_n 0, 1) := by decide +kernel
theorem dX1_drawBelow_7 : decode cX1_drawBelow 7 = .ok (.aload_n 0, 1) := by decide +kernel
theorem dX1_drawBelow_8 : decode cX1_drawBelow 8 = .ok (.getfield 33, 3) := by decide +kernel
theorem dX1_drawBelow_11 : decode cX1_drawBelow 11 = .ok (.ldc 74, 2) := by decide +kernel
theorem dX1_drawBelow_13 : decode cX1_drawBelow 13 = .ok (.imul, 1) := by decide +kernel
theorem dX1_drawBelow_14 : decode cX1_drawBelow 14 = .ok (.sipush 12345, 3) := by decide +kernel
theorem dX1_drawBelow_17 : decode cX1_drawBelow 17 = .ok (.iadd, 1) := by decide +kernel
theorem dX1_drawBelow_18 : decode cX1_drawBelow 18 = .ok (.putfield 33, 3) := by decide +kernel
theorem dX1_drawBelow_21 : decode cX1_drawBelow 21 = .ok (.aload_n 0, 1) := by decide +kernel
theorem dX1_drawBelow_22 : decode cX1_drawBelow 22 = .ok (.getfield 33, 3) := by decide +kernel
theorem dX1_drawBelow_25 : decode cX1_drawBelow 25 = .ok (.bipush 16, 2) := by decide +kernel
theorem dX1_drawBelow_27 : decode cX1_drawBelow 27 = .ok (.iushr, 1) := by decide +kernel
theorem dX1_drawBelow_28 : decode cX1_drawBelow 28 = .ok (.iload_n 1, 1) := by decide +kernel
theorem dX1_drawBelow_29 : decode cX1_drawBelow 29 = .ok (.irem, 1) := by decide +kernel
theorem dX1_drawBelow_30 : decode cX1_drawBelow 30 = .ok (.ireturn, 1) := by decide +kernel
theorem dX1_layBack_0 : decode cX1_layBack 0 = .ok (.aload_n 0, 1) := by decide +kernel
theorem dX1_layBack_1 : decode cX1_layBack 1 = .ok (.iconst 0, 1) := by decide +kernel
theorem dX1_layBack_2 : decode cX1_layBack 2 = .ok (.putfield 49, 3) := by decide +kernel
theorem dX1_layBack_5 : decode cX1_layBack 5 = .ok (.aload_n 0, 1) := by decide +kernel
theorem dX1_layBack_6 : decode cX1_layBack 6 = .ok (.iconst 0, 1) := by decide +kernel
theorem dX1_layBack_7 : decode cX1_layBack 7 = .ok (.putfield 60, 3) := by decide +kernel
theorem dX1_layBack_10 : decode cX1_layBack 10 = .ok (.return_, 1) := by decide +kernel
theorem dX1_momentsAhead_0 : decode cX1_momentsAhead 0 = .ok (.iconst 0, 1) := by decide +kernel
theorem dX1_momentsAhead_1 : decode cX1_momentsAhead 1 = .ok (.istore_n 1, 1) := by decide +kernel
theorem dX1_momentsAhead_2 : decode cX1_momentsAhead 2 = .ok (.iconst 0, 1) := by decide +kernel
theorem dX1_momentsAhead_3 : decode cX1_momentsAhead 3 = .ok (.istore_n 2, 1) := by decide +kernel
theorem dX1_momentsAhead_4 : decode cX1_momentsAhead 4 = .ok (.iconst 0, 1) := by decide +kernel
theorem dX1_momentsAhead_5 : decode cX1_momentsAhead 5 = .ok (.istore_n 3, 1) := by decide +kernel
theorem dX1_momentsAhead_6 : decode cX1_momentsAhead 6 = .ok (.iload_n 3, 1) := by decide +kernel
theorem dX1_momentsAhead_7 : decode cX1_momentsAhead 7 = .ok (.aload_n 0, 1) := by decide +kernel
theorem dX1_momentsAhead_8 : decode cX1_momentsAhead 8 = .ok (.getfield 49, 3) := by decide +kernel
theorem dX1_momentsAhead_11 : decode cX1_momentsAhead 11 = .ok (.if_icmp .ge 39, 3) := by decide +kernel
theorem dX1_momentsAhead_14 : decode cX1_momentsAhead 14 = .ok (.iload_n 2, 1) := by decide +kernel
theorem dX1_momentsAhead_15 : decode cX1_momentsAhead 15 = .ok (.aload_n 0, 1) := by decide +kernel
theorem dX1_momentsAhead_16 : decode cX1_momentsAhead 16 = .ok (.getfield 21, 3) := by decide +kernel
theorem dX1_momentsAhead_19 : decode cX1_momentsAhead 19 = .ok (.iload_n 3, 1) := by decide +kernel
theorem dX1_momentsAhead_20 : decode cX1_momentsAhead 20 = .ok (.iaload, 1) := by decide +kernel
theorem dX1_momentsAhead_21 : decode cX1_momentsAhead 21 = .ok (.iconst 1, 1) := by decide +kernel
theorem dX1_momentsAhead_22 : decode cX1_momentsAhead 22 = .ok (.if_icmp .ne 7, 3) := by decide +kernel
theorem dX1_momentsAhead_25 : decode cX1_momentsAhead 25 = .ok (.iconst 1, 1) := by decide +kernel
theorem dX1_momentsAhead_26 : decode cX1_momentsAhead 26 = .ok (.goto 4, 3) := by decide +kernel
theorem dX1_momentsAhead_29 : decode cX1_momentsAhead 29 = .ok (.iconst (-1), 1) := by decide +kernel
theorem dX1_momentsAhead_30 : decode cX1_momentsAhead 30 = .ok (.iadd, 1) := by decide +kernel
theorem dX1_momentsAhead_31 : decode cX1_momentsAhead 31 = .ok (.istore_n 2, 1) := by decide +kernel
theorem dX1_momentsAhead_32 : decode cX1_momentsAhead 32 = .ok (.iload_n 1, 1) := by decide +kernel
theorem dX1_momentsAhead_33 : decode cX1_momentsAhead 33 = .ok (.iload_n 2, 1) := by decide +kernel
theorem dX1_momentsAhead_34 : decode cX1_momentsAhead 34 = .ok (.ifCond .le 7, 3) := by decide +kernel
theorem dX1_momentsAhead_37 : decode cX1_momentsAhead 37 = .ok (.iconst 1, 1) := by decide +kernel
theorem dX1_momentsAhead_38 : decode cX1_momentsAhead 38 = .ok (.goto 4, 3) := by decide +kernel
theorem dX1_momentsAhead_41 : decode cX1_momentsAhead 41 = .ok (.iconst 0, 1) := by decide +kernel
theorem dX1_momentsAhead_42 : decode cX1_momentsAhead 42 = .ok (.iadd, 1) := by decide +kernel
theorem dX1_momentsAhead_43 : decode cX1_momentsAhead 43 = .ok (.istore_n 1, 1) := by decide +kernel
theorem dX1_momentsAhead_44 : decode cX1_momentsAhead 44 = .ok (.iinc 3 1, 3) := by decide +kernel
theorem dX1_momentsAhead_47 : decode cX1_momentsAhead 47 = .ok (.goto (-41), 3) := by decide +kernel
theorem dX1_momentsAhead_50 : decode cX1_momentsAhead 50 = .ok (.iload_n 1, 1) := by decide +kernel
theorem dX1_momentsAhead_51 : decode cX1_momentsAhead 51 = .ok (.ireturn, 1) := by decide +kernel
theorem dX1_takeOver_0 : decode cX1_takeOver 0 = .ok (.aload_n 0, 1) := by decide +kernel
theorem dX1_takeOver_1 : decode cX1_takeOver 1 = .ok (.aload_n 1, 1) := by decide +kernel
theorem dX1_takeOver_2 : decode cX1_takeOver 2 = .ok (.getfield 40, 3) := by decide +kernel
theorem dX1_takeOver_5 : decode cX1_takeOver 5 = .ok (.putfield 40, 3) := by decide +kernel
theorem dX1_takeOver_8 : decode cX1_takeOver 8 = .ok (.aload_n 0, 1) := by decide +kernel
theorem dX1_takeOver_9 : decode cX1_takeOver 9 = .ok (.aload_n 1, 1) := by decide +kernel
theorem dX1_takeOver_10 : decode cX1_takeOver 10 = .ok (.getfield 37, 3) := by decide +kernel
theorem dX1_takeOver_13 : decode cX1_takeOver 13 = .ok (.putfield 37, 3) := by decide +kernel
theorem dX1_takeOver_16 : decode cX1_takeOver 16 = .ok (.aload_n 0, 1) := by decide +kernel
theorem dX1_takeOver_17 : decode cX1_takeOver 17 = .ok (.aload_n 1, 1) := by decide +kernel
theorem dX1_takeOver_18 : decode cX1_takeOver 18 = .ok (.getfield 43, 3) := by decide +kernel
theorem dX1_takeOver_21 : decode cX1_takeOver 21 = .ok (.putfield 43, 3) := by decide +kernel
theorem dX1_takeOver_24 : decode cX1_takeOver 24 = .ok (.aload_n 0, 1) := by decide +kernel
theorem dX1_takeOver_25 : decode cX1_takeOver 25 = .ok (.aload_n 1, 1) := by decide +kernel
theorem dX1_takeOver_26 : decode cX1_takeOver 26 = .ok (.getfield 49, 3) := by decide +kernel
theorem dX1_takeOver_29 : decode cX1_takeOver 29 = .ok (.putfield 49, 3) := by decide +kernel
theorem dX1_takeOver_32 : decode cX1_takeOver 32 = .ok (.aload_n 0, 1) := by decide +kernel
theorem dX1_takeOver_33 : decode cX1_takeOver 33 = .ok (.aload_n 1, 1) := by decide +kernel
theorem dX1_takeOver_34 : decode cX1_takeOver 34 = .ok (.getfield 60, 3) := by decide +kernel
theorem dX1_takeOver_37 : decode cX1_takeOver 37 = .ok (.putfield 60, 3) := by decide +kernel
theorem dX1_takeOver_40 : decode cX1_takeOver 40 = .ok (.aload_n 0, 1) := by decide +kernel
theorem dX1_takeOver_41 : decode cX1_takeOver 41 = .ok (.aload_n 1, 1) := by decide +kernel
theorem dX1_takeOver_42 : decode cX1_takeOver 42 = .ok (.getfield 46, 3) := by decide +kernel
theorem dX1_takeOver_45 : decode cX1_takeOver 45 = .ok (.putfield 46, 3) := by decide +kernel
theorem dX1_takeOver_48 : decode cX1_takeOver 48 = .ok (.aload_n 0, 1) := by decide +kernel
theorem dX1_takeOver_49 : decode cX1_takeOver 49 = .ok (.aload_n 1, 1) := by decide +kernel
theorem dX1_takeOver_50 : decode cX1_takeOver 50 = .ok (.getfield 33, 3) := by decide +kernel
theorem dX1_takeOver_53 : decode cX1_takeOver 53 = .ok (.putfield 33, 3) := by decide +kernel
theorem dX1_takeOver_56 : decode cX1_takeOver 56 = .ok (.aload_n 1, 1) := by decide +kernel
theorem dX1_takeOver_57 : decode cX1_takeOver 57 = .ok (.getfield 9, 3) := by decide +kernel
theorem dX1_takeOver_60 : decode cX1_takeOver 60 = .ok (.iconst 0, 1) := by decide +kernel
theorem dX1_takeOver_61 : decode cX1_takeOver 61 = .ok (.aload_n 0, 1) := by decide +kernel
theorem dX1_takeOver_62 : decode cX1_takeOver 62 = .ok (.getfield 9, 3) := by decide +kernel
theorem dX1_takeOver_65 : decode cX1_takeOver 65 = .ok (.iconst 0, 1) := by decide +kernel
theorem dX1_takeOver_66 : decode cX1_takeOver 66 = .ok (.iconst 4, 1) := by decide +kernel
theorem dX1_takeOver_67 : decode cX1_takeOver 67 = .ok (.invokestatic 75, 3) := by decide +kernel
theorem dX1_takeOver_70 : decode cX1_takeOver 70 = .ok (.aload_n 1, 1) := by decide +kernel
theorem dX1_takeOver_71 : decode cX1_takeOver 71 = .ok (.getfield 15, 3) := by decide +kernel
theorem dX1_takeOver_74 : decode cX1_takeOver 74 = .ok (.iconst 0, 1) := by decide +kernel
theorem dX1_takeOver_75 : decode cX1_takeOver 75 = .ok (.aload_n 0, 1) := by decide +kernel
theorem dX1_takeOver_76 : decode cX1_takeOver 76 = .ok (.getfield 15, 3) := by decide +kernel
theorem dX1_takeOver_79 : decode cX1_takeOver 79 = .ok (.iconst 0, 1) := by decide +kernel
theorem dX1_takeOver_80 : decode cX1_takeOver 80 = .ok (.iconst 4, 1) := by decide +kernel
theorem dX1_takeOver_81 : decode cX1_takeOver 81 = .ok (.invokestatic 75, 3) := by decide +kernel
theorem dX1_takeOver_84 : decode cX1_takeOver 84 = .ok (.aload_n 1, 1) := by decide +kernel
theorem dX1_takeOver_85 : decode cX1_takeOver 85 = .ok (.getfield 18, 3) := by decide +kernel
theorem dX1_takeOver_88 : decode cX1_takeOver 88 = .ok (.iconst 0, 1) := by decide +kernel
theorem dX1_takeOver_89 : decode cX1_takeOver 89 = .ok (.aload_n 0, 1) := by decide +kernel
theorem dX1_takeOver_90 : decode cX1_takeOver 90 = .ok (.getfield 18, 3) := by decide +kernel
theorem dX1_takeOver_93 : decode cX1_takeOver 93 = .ok (.iconst 0, 1) := by decide +kernel
theorem dX1_takeOver_94 : decode cX1_takeOver 94 = .ok (.iconst 4, 1) := by decide +kernel
theorem dX1_takeOver_95 : decode cX1_takeOver 95 = .ok (.invokestatic 75, 3) := by decide +kernel
theorem dX1_takeOver_98 : decode cX1_takeOver 98 = .ok (.aload_n 1, 1) := by decide +kernel
theorem dX1_takeOver_99 : decode cX1_takeOver 99 = .ok (.getfield 21, 3) := by decide +kernel
theorem dX1_takeOver_102 : decode cX1_takeOver 102 = .ok (.iconst 0, 1) := by decide +kernel
theorem dX1_takeOver_103 : decode cX1_takeOver 103 = .ok (.aload_n 0, 1) := by decide +kernel
theorem dX1_takeOver_104 : decode cX1_takeOver 104 = .ok (.getfield 21, 3) := by decide +kernel
theorem dX1_takeOver_107 : decode cX1_takeOver 107 = .ok (.iconst 0, 1) := by decide +kernel
theorem dX1_takeOver_108 : decode cX1_takeOver 108 = .ok (.bipush 24, 2) := by decide +kernel
theorem dX1_takeOver_110 : decode cX1_takeOver 110 = .ok (.invokestatic 75, 3) := by decide +kernel
theorem dX1_takeOver_113 : decode cX1_takeOver 113 = .ok (.aload_n 1, 1) := by decide +kernel
theorem dX1_takeOver_114 : decode cX1_takeOver 114 = .ok (.getfield 24, 3) := by decide +kernel
theorem dX1_takeOver_117 : decode cX1_takeOver 117 = .ok (.iconst 0, 1) := by decide +kernel
theorem dX1_takeOver_118 : decode cX1_takeOver 118 = .ok (.aload_n 0, 1) := by decide +kernel
theorem dX1_takeOver_119 : decode cX1_takeOver 119 = .ok (.getfield 24, 3) := by decide +kernel
theorem dX1_takeOver_122 : decode cX1_takeOver 122 = .ok (.iconst 0, 1) := by decide +kernel
theorem dX1_takeOver_123 : decode cX1_takeOver 123 = .ok (.iconst 4, 1) := by decide +kernel
theorem dX1_takeOver_124 : decode cX1_takeOver 124 = .ok (.invokestatic 75, 3) := by decide +kernel
theorem dX1_takeOver_127 : decode cX1_takeOver 127 = .ok (.aload_n 1, 1) := by decide +kernel
theorem dX1_takeOver_128 : decode cX1_takeOver 128 = .ok (.getfield 27, 3) := by decide +kernel
theorem dX1_takeOver_131 : decode cX1_takeOver 131 = .ok (.iconst 0, 1) := by decide +kernel
theorem dX1_takeOver_132 : decode cX1_takeOver 132 = .ok (.aload_n 0, 1) := by decide +kernel
theorem dX1_takeOver_133 : decode cX1_takeOver 133 = .ok (.getfield 27, 3) := by decide +kernel
theorem dX1_takeOver_136 : decode cX1_takeOver 136 = .ok (.iconst 0, 1) := by decide +kernel
theorem dX1_takeOver_137 : decode cX1_takeOver 137 = .ok (.iconst 4, 1) := by decide +kernel
theorem dX1_takeOver_138 : decode cX1_takeOver 138 = .ok (.invokestatic 75, 3) := by decide +kernel
theorem dX1_takeOver_141 : decode cX1_takeOver 141 = .ok (.aload_n 1, 1) := by decide +kernel
theorem dX1_takeOver_142 : decode cX1_takeOver 142 = .ok (.getfield 30, 3) := by decide +kernel
theorem dX1_takeOver_145 : decode cX1_takeOver 145 = .ok (.iconst 0, 1) := by decide +kernel
theorem dX1_takeOver_146 : decode cX1_takeOver 146 = .ok (.aload_n 0, 1) := by decide +kernel
theorem dX1_takeOver_147 : decode cX1_takeOver 147 = .ok (.getfield 30, 3) := by decide +kernel
theorem dX1_takeOver_150 : decode cX1_takeOver 150 = .ok (.iconst 0, 1) := by decide +kernel
theorem dX1_takeOver_151 : decode cX1_takeOver 151 = .ok (.iconst 4, 1) := by decide +kernel
theorem dX1_takeOver_152 : decode cX1_takeOver 152 = .ok (.invokestatic 75, 3) := by decide +kernel
theorem dX1_takeOver_155 : decode cX1_takeOver 155 = .ok (.return_, 1) := by decide +kernel
