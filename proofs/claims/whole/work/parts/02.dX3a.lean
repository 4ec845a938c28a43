theorem dX3_init_0 : decode cX3_init 0 = .ok (.aload_n 0, 1) := by decide +kernel
theorem dX3_init_1 : decode cX3_init 1 = .ok (.invokespecial 3, 3) := by decide +kernel
theorem dX3_init_4 : decode cX3_init 4 = .ok (.aload_n 0, 1) := by decide +kernel
theorem dX3_init_5 : decode cX3_init 5 = .ok (.sipush 250, 3) := by decide +kernel
theorem dX3_init_8 : decode cX3_init 8 = .ok (.newarray .int, 2) := by decide +kernel
theorem dX3_init_10 : decode cX3_init 10 = .ok (.putfield 9, 3) := by decide +kernel
theorem dX3_init_13 : decode cX3_init 13 = .ok (.return_, 1) := by decide +kernel
theorem dX3_append_0 : decode cX3_append 0 = .ok (.aload_n 0, 1) := by decide +kernel
theorem dX3_append_1 : decode cX3_append 1 = .ok (.getfield 15, 3) := by decide +kernel
theorem dX3_append_4 : decode cX3_append 4 = .ok (.sipush 250, 3) := by decide +kernel
theorem dX3_append_7 : decode cX3_append 7 = .ok (.if_icmp .ge 23, 3) := by decide +kernel
theorem dX3_append_10 : decode cX3_append 10 = .ok (.aload_n 0, 1) := by decide +kernel
theorem dX3_append_11 : decode cX3_append 11 = .ok (.getfield 9, 3) := by decide +kernel
theorem dX3_append_14 : decode cX3_append 14 = .ok (.aload_n 0, 1) := by decide +kernel
theorem dX3_append_15 : decode cX3_append 15 = .ok (.getfield 15, 3) := by decide +kernel
theorem dX3_append_18 : decode cX3_append 18 = .ok (.iload_n 1, 1) := by decide +kernel
theorem dX3_append_19 : decode cX3_append 19 = .ok (.iastore, 1) := by decide +kernel
theorem dX3_append_20 : decode cX3_append 20 = .ok (.aload_n 0, 1) := by decide +kernel
theorem dX3_append_21 : decode cX3_append 21 = .ok (.dup, 1) := by decide +kernel
theorem dX3_append_22 : decode cX3_append 22 = .ok (.getfield 15, 3) := by decide +kernel
theorem dX3_append_25 : decode cX3_append 25 = .ok (.iconst 1, 1) := by decide +kernel
theorem dX3_append_26 : decode cX3_append 26 = .ok (.iadd, 1) := by decide +kernel
theorem dX3_append_27 : decode cX3_append 27 = .ok (.putfield 15, 3) := by decide +kernel
theorem dX3_append_30 : decode cX3_append 30 = .ok (.aload_n 0, 1) := by decide +kernel
theorem dX3_append_31 : decode cX3_append 31 = .ok (.getfield 15, 3) := by decide +kernel
theorem dX3_append_34 : decode cX3_append 34 = .ok (.ireturn, 1) := by decide +kernel
theorem dX3_readInto_0 : decode cX3_readInto 0 = .ok (.aload_n 0, 1) := by decide +kernel
theorem dX3_readInto_1 : decode cX3_readInto 1 = .ok (.iconst 0, 1) := by decide +kernel
theorem dX3_readInto_2 : decode cX3_readInto 2 = .ok (.putfield 19, 3) := by decide +kernel
theorem dX3_readInto_5 : decode cX3_readInto 5 = .ok (.iconst 1, 1) := by decide +kernel
theorem dX3_readInto_6 : decode cX3_readInto 6 = .ok (.istore_n 2, 1) := by decide +kernel
theorem dX3_readInto_7 : decode cX3_readInto 7 = .ok (.iload_n 2, 1) := by decide +kernel
theorem dX3_readInto_8 : decode cX3_readInto 8 = .ok (.sipush 250, 3) := by decide +kernel
theorem dX3_readInto_11 : decode cX3_readInto 11 = .ok (.if_icmp .gt 46, 3) := by decide +kernel
theorem dX3_readInto_14 : decode cX3_readInto 14 = .ok (.aload_n 0, 1) := by decide +kernel
theorem dX3_readInto_15 : decode cX3_readInto 15 = .ok (.invokevirtual 22, 3) := by decide +kernel
theorem dX3_readInto_18 : decode cX3_readInto 18 = .ok (.aload_n 0, 1) := by decide +kernel
theorem dX3_readInto_19 : decode cX3_readInto 19 = .ok (.aload_n 1, 1) := by decide +kernel
theorem dX3_readInto_20 : decode cX3_readInto 20 = .ok (.invokevirtual 25, 3) := by decide +kernel
theorem dX3_readInto_23 : decode cX3_readInto 23 = .ok (.ifCond .ne 5, 3) := by decide +kernel
theorem dX3_readInto_26 : decode cX3_readInto 26 = .ok (.iconst (-1), 1) := by decide +kernel
theorem dX3_readInto_27 : decode cX3_readInto 27 = .ok (.ireturn, 1) := by decide +kernel
theorem dX3_readInto_28 : decode cX3_readInto 28 = .ok (.aload_n 0, 1) := by decide +kernel
theorem dX3_readInto_29 : decode cX3_readInto 29 = .ok (.invokevirtual 22, 3) := by decide +kernel
theorem dX3_readInto_32 : decode cX3_readInto 32 = .ok (.aload_n 0, 1) := by decide +kernel
theorem dX3_readInto_33 : decode cX3_readInto 33 = .ok (.getfield 29, 3) := by decide +kernel
theorem dX3_readInto_36 : decode cX3_readInto 36 = .ok (.ifCond .ne 5, 3) := by decide +kernel
theorem dX3_readInto_39 : decode cX3_readInto 39 = .ok (.iload_n 2, 1) := by decide +kernel
theorem dX3_readInto_40 : decode cX3_readInto 40 = .ok (.ireturn, 1) := by decide +kernel
theorem dX3_readInto_41 : decode cX3_readInto 41 = .ok (.aload_n 0, 1) := by decide +kernel
theorem dX3_readInto_42 : decode cX3_readInto 42 = .ok (.getfield 29, 3) := by decide +kernel
theorem dX3_readInto_45 : decode cX3_readInto 45 = .ok (.iconst 3, 1) := by decide +kernel
theorem dX3_readInto_46 : decode cX3_readInto 46 = .ok (.if_icmp .eq 5, 3) := by decide +kernel
theorem dX3_readInto_49 : decode cX3_readInto 49 = .ok (.iconst (-1), 1) := by decide +kernel
theorem dX3_readInto_50 : decode cX3_readInto 50 = .ok (.ireturn, 1) := by decide +kernel
theorem dX3_readInto_51 : decode cX3_readInto 51 = .ok (.iinc 2 1, 3) := by decide +kernel
theorem dX3_readInto_54 : decode cX3_readInto 54 = .ok (.goto (-47), 3) := by decide +kernel
theorem dX3_readInto_57 : decode cX3_readInto 57 = .ok (.iconst (-1), 1) := by decide +kernel
theorem dX3_readInto_58 : decode cX3_readInto 58 = .ok (.ireturn, 1) := by decide +kernel
theorem dX3_statement_0 : decode cX3_statement 0 = .ok (.aload_n 0, 1) := by decide +kernel
theorem dX3_statement_1 : decode cX3_statement 1 = .ok (.ldc 32, 2) := by decide +kernel
theorem dX3_statement_3 : decode cX3_statement 3 = .ok (.invokevirtual 34, 3) := by decide +kernel
theorem dX3_statement_6 : decode cX3_statement 6 = .ok (.ifCond .eq 9, 3) := by decide +kernel
theorem dX3_statement_9 : decode cX3_statement 9 = .ok (.aload_n 0, 1) := by decide +kernel
theorem dX3_statement_10 : decode cX3_statement 10 = .ok (.aload_n 1, 1) := by decide +kernel
theorem dX3_statement_11 : decode cX3_statement 11 = .ok (.invokevirtual 38, 3) := by decide +kernel
theorem dX3_statement_14 : decode cX3_statement 14 = .ok (.ireturn, 1) := by decide +kernel
theorem dX3_statement_15 : decode cX3_statement 15 = .ok (.aload_n 0, 1) := by decide +kernel
theorem dX3_statement_16 : decode cX3_statement 16 = .ok (.ldc 41, 2) := by decide +kernel
theorem dX3_statement_18 : decode cX3_statement 18 = .ok (.invokevirtual 34, 3) := by decide +kernel
theorem dX3_statement_21 : decode cX3_statement 21 = .ok (.ifCond .eq 9, 3) := by decide +kernel
theorem dX3_statement_24 : decode cX3_statement 24 = .ok (.aload_n 0, 1) := by decide +kernel
theorem dX3_statement_25 : decode cX3_statement 25 = .ok (.aload_n 1, 1) := by decide +kernel
theorem dX3_statement_26 : decode cX3_statement 26 = .ok (.invokevirtual 43, 3) := by decide +kernel
theorem dX3_statement_29 : decode cX3_statement 29 = .ok (.ireturn, 1) := by decide +kernel
theorem dX3_statement_30 : decode cX3_statement 30 = .ok (.aload_n 0, 1) := by decide +kernel
theorem dX3_statement_31 : decode cX3_statement 31 = .ok (.ldc 46, 2) := by decide +kernel
theorem dX3_statement_33 : decode cX3_statement 33 = .ok (.invokevirtual 34, 3) := by decide +kernel
theorem dX3_statement_36 : decode cX3_statement 36 = .ok (.ifCond .eq 9, 3) := by decide +kernel
theorem dX3_statement_39 : decode cX3_statement 39 = .ok (.aload_n 0, 1) := by decide +kernel
theorem dX3_statement_40 : decode cX3_statement 40 = .ok (.aload_n 1, 1) := by decide +kernel
theorem dX3_statement_41 : decode cX3_statement 41 = .ok (.invokevirtual 48, 3) := by decide +kernel
theorem dX3_statement_44 : decode cX3_statement 44 = .ok (.ireturn, 1) := by decide +kernel
theorem dX3_statement_45 : decode cX3_statement 45 = .ok (.aload_n 0, 1) := by decide +kernel
theorem dX3_statement_46 : decode cX3_statement 46 = .ok (.ldc 51, 2) := by decide +kernel
theorem dX3_statement_48 : decode cX3_statement 48 = .ok (.invokevirtual 34, 3) := by decide +kernel
theorem dX3_statement_51 : decode cX3_statement 51 = .ok (.ifCond .eq 15, 3) := by decide +kernel
theorem dX3_statement_54 : decode cX3_statement 54 = .ok (.aload_n 0, 1) := by decide +kernel
theorem dX3_statement_55 : decode cX3_statement 55 = .ok (.aload_n 1, 1) := by decide +kernel
theorem dX3_statement_56 : decode cX3_statement 56 = .ok (.invokevirtual 53, 3) := by decide +kernel
theorem dX3_statement_59 : decode cX3_statement 59 = .ok (.ifCond .eq 7, 3) := by decide +kernel
theorem dX3_statement_62 : decode cX3_statement 62 = .ok (.iconst 1, 1) := by decide +kernel
theorem dX3_statement_63 : decode cX3_statement 63 = .ok (.goto 4, 3) := by decide +kernel
theorem dX3_statement_66 : decode cX3_statement 66 = .ok (.iconst 0, 1) := by decide +kernel
theorem dX3_statement_67 : decode cX3_statement 67 = .ok (.ireturn, 1) := by decide +kernel
theorem dX3_heapStatement_0 : decode cX3_heapStatement 0 = .ok (.aload_n 1, 1) := by decide +kernel
theorem dX3_heapStatement_1 : decode cX3_heapStatement 1 = .ok (.getfield 56, 3) := by decide +kernel
theorem dX3_heapStatement_4 : decode cX3_heapStatement 4 = .ok (.ifCond .gt 20, 3) := by decide +kernel
theorem dX3_heapStatement_7 : decode cX3_heapStatement 7 = .ok (.aload_n 1, 1) := by decide +kernel
theorem dX3_heapStatement_8 : decode cX3_heapStatement 8 = .ok (.getfield 61, 3) := by decide +kernel
theorem dX3_heapStatement_11 : decode cX3_heapStatement 11 = .ok (.iconst 4, 1) := by decide +kernel
theorem dX3_heapStatement_12 : decode cX3_heapStatement 12 = .ok (.if_icmp .ge 12, 3) := by decide +kernel
theorem dX3_heapStatement_15 : decode cX3_heapStatement 15 = .ok (.aload_n 0, 1) := by decide +kernel
theorem dX3_heapStatement_16 : decode cX3_heapStatement 16 = .ok (.bipush 9, 2) := by decide +kernel
theorem dX3_heapStatement_18 : decode cX3_heapStatement 18 = .ok (.invokevirtual 64, 3) := by decide +kernel
theorem dX3_heapStatement_21 : decode cX3_heapStatement 21 = .ok (.ifCond .ne 5, 3) := by decide +kernel
theorem dX3_heapStatement_24 : decode cX3_heapStatement 24 = .ok (.iconst 0, 1) := by decide +kernel
theorem dX3_heapStatement_25 : decode cX3_heapStatement 25 = .ok (.ireturn, 1) := by decide +kernel
theorem dX3_heapStatement_26 : decode cX3_heapStatement 26 = .ok (.aload_n 0, 1) := by decide +kernel
theorem dX3_heapStatement_27 : decode cX3_heapStatement 27 = .ok (.getfield 68, 3) := by decide +kernel
theorem dX3_heapStatement_30 : decode cX3_heapStatement 30 = .ok (.istore_n 2, 1) := by decide +kernel
theorem dX3_heapStatement_31 : decode cX3_heapStatement 31 = .ok (.aload_n 0, 1) := by decide +kernel
theorem dX3_heapStatement_32 : decode cX3_heapStatement 32 = .ok (.bipush 9, 2) := by decide +kernel
theorem dX3_heapStatement_34 : decode cX3_heapStatement 34 = .ok (.invokevirtual 64, 3) := by decide +kernel
theorem dX3_heapStatement_37 : decode cX3_heapStatement 37 = .ok (.ifCond .eq 25, 3) := by decide +kernel
theorem dX3_heapStatement_40 : decode cX3_heapStatement 40 = .ok (.iload_n 2, 1) := by decide +kernel
theorem dX3_heapStatement_41 : decode cX3_heapStatement 41 = .ok (.aload_n 0, 1) := by decide +kernel
theorem dX3_heapStatement_42 : decode cX3_heapStatement 42 = .ok (.getfield 68, 3) := by decide +kernel
theorem dX3_heapStatement_45 : decode cX3_heapStatement 45 = .ok (.iadd, 1) := by decide +kernel
theorem dX3_heapStatement_46 : decode cX3_heapStatement 46 = .ok (.ifCond .eq 16, 3) := by decide +kernel
theorem dX3_heapStatement_49 : decode cX3_heapStatement 49 = .ok (.aload_n 1, 1) := by decide +kernel
theorem dX3_heapStatement_50 : decode cX3_heapStatement 50 = .ok (.iload_n 2, 1) := by decide +kernel
theorem dX3_heapStatement_51 : decode cX3_heapStatement 51 = .ok (.aload_n 0, 1) := by decide +kernel
theorem dX3_heapStatement_52 : decode cX3_heapStatement 52 = .ok (.getfield 68, 3) := by decide +kernel
theorem dX3_heapStatement_55 : decode cX3_heapStatement 55 = .ok (.iadd, 1) := by decide +kernel
theorem dX3_heapStatement_56 : decode cX3_heapStatement 56 = .ok (.invokevirtual 71, 3) := by decide +kernel
theorem dX3_heapStatement_59 : decode cX3_heapStatement 59 = .ok (.ifCond .ne 5, 3) := by decide +kernel
theorem dX3_heapStatement_62 : decode cX3_heapStatement 62 = .ok (.iconst 0, 1) := by decide +kernel
theorem dX3_heapStatement_63 : decode cX3_heapStatement 63 = .ok (.ireturn, 1) := by decide +kernel
theorem dX3_heapStatement_64 : decode cX3_heapStatement 64 = .ok (.aload_n 1, 1) := by decide +kernel
theorem dX3_heapStatement_65 : decode cX3_heapStatement 65 = .ok (.iload_n 2, 1) := by decide +kernel
theorem dX3_heapStatement_66 : decode cX3_heapStatement 66 = .ok (.aload_n 0, 1) := by decide +kernel
theorem dX3_heapStatement_67 : decode cX3_heapStatement 67 = .ok (.getfield 68, 3) := by decide +kernel
theorem dX3_heapStatement_70 : decode cX3_heapStatement 70 = .ok (.invokevirtual 74, 3) := by decide +kernel
theorem dX3_heapStatement_73 : decode cX3_heapStatement 73 = .ok (.pop, 1) := by decide +kernel
theorem dX3_heapStatement_74 : decode cX3_heapStatement 74 = .ok (.iconst 1, 1) := by decide +kernel
theorem dX3_heapStatement_75 : decode cX3_heapStatement 75 = .ok (.ireturn, 1) := by decide +kernel
theorem dX3_factStatement_0 : decode cX3_factStatement 0 = .ok (.aload_n 1, 1) := by decide +kernel
theorem dX3_factStatement_1 : decode cX3_factStatement 1 = .ok (.getfield 78, 3) := by decide +kernel
theorem dX3_factStatement_4 : decode cX3_factStatement 4 = .ok (.iconst 4, 1) := by decide +kernel
theorem dX3_factStatement_5 : decode cX3_factStatement 5 = .ok (.if_icmp .ge 11, 3) := by decide +kernel
theorem dX3_factStatement_8 : decode cX3_factStatement 8 = .ok (.aload_n 0, 1) := by decide +kernel
theorem dX3_factStatement_9 : decode cX3_factStatement 9 = .ok (.iconst 3, 1) := by decide +kernel
theorem dX3_factStatement_10 : decode cX3_factStatement 10 = .ok (.invokevirtual 64, 3) := by decide +kernel
theorem dX3_factStatement_13 : decode cX3_factStatement 13 = .ok (.ifCond .ne 5, 3) := by decide +kernel
theorem dX3_factStatement_16 : decode cX3_factStatement 16 = .ok (.iconst 0, 1) := by decide +kernel
theorem dX3_factStatement_17 : decode cX3_factStatement 17 = .ok (.ireturn, 1) := by decide +kernel
theorem dX3_factStatement_18 : decode cX3_factStatement 18 = .ok (.aload_n 0, 1) := by decide +kernel
theorem dX3_factStatement_19 : decode cX3_factStatement 19 = .ok (.getfield 68, 3) := by decide +kernel
theorem dX3_factStatement_22 : decode cX3_factStatement 22 = .ok (.istore_n 2, 1) := by decide +kernel
theorem dX3_factStatement_23 : decode cX3_factStatement 23 = .ok (.aload_n 0, 1) := by decide +kernel
theorem dX3_factStatement_24 : decode cX3_factStatement 24 = .ok (.bipush 24, 2) := by decide +kernel
theorem dX3_factStatement_26 : decode cX3_factStatement 26 = .ok (.invokevirtual 64, 3) := by decide +kernel
theorem dX3_factStatement_29 : decode cX3_factStatement 29 = .ok (.ifCond .ne 5, 3) := by decide +kernel
theorem dX3_factStatement_32 : decode cX3_factStatement 32 = .ok (.iconst 0, 1) := by decide +kernel
theorem dX3_factStatement_33 : decode cX3_factStatement 33 = .ok (.ireturn, 1) := by decide +kernel
theorem dX3_factStatement_34 : decode cX3_factStatement 34 = .ok (.aload_n 0, 1) := by decide +kernel
theorem dX3_factStatement_35 : decode cX3_factStatement 35 = .ok (.getfield 68, 3) := by decide +kernel
theorem dX3_factStatement_38 : decode cX3_factStatement 38 = .ok (.istore_n 3, 1) := by decide +kernel
theorem dX3_factStatement_39 : decode cX3_factStatement 39 = .ok (.aload_n 0, 1) := by decide +kernel
theorem dX3_factStatement_40 : decode cX3_factStatement 40 = .ok (.bipush 24, 2) := by decide +kernel
theorem dX3_factStatement_42 : decode cX3_factStatement 42 = .ok (.invokevirtual 64, 3) := by decide +kernel
theorem dX3_factStatement_45 : decode cX3_factStatement 45 = .ok (.ifCond .ne 5, 3) := by decide +kernel
theorem dX3_factStatement_48 : decode cX3_factStatement 48 = .ok (.iconst 0, 1) := by decide +kernel
theorem dX3_factStatement_49 : decode cX3_factStatement 49 = .ok (.ireturn, 1) := by decide +kernel
theorem dX3_factStatement_50 : decode cX3_factStatement 50 = .ok (.aload_n 1, 1) := by decide +kernel
theorem dX3_factStatement_51 : decode cX3_factStatement 51 = .ok (.iload_n 2, 1) := by decide +kernel
theorem dX3_factStatement_52 : decode cX3_factStatement 52 = .ok (.iload_n 3, 1) := by decide +kernel
theorem dX3_factStatement_53 : decode cX3_factStatement 53 = .ok (.aload_n 0, 1) := by decide +kernel
theorem dX3_factStatement_54 : decode cX3_factStatement 54 = .ok (.getfield 68, 3) := by decide +kernel
theorem dX3_factStatement_57 : decode cX3_factStatement 57 = .ok (.invokevirtual 81, 3) := by decide +kernel
theorem dX3_factStatement_60 : decode cX3_factStatement 60 = .ok (.pop, 1) := by decide +kernel
theorem dX3_factStatement_61 : decode cX3_factStatement 61 = .ok (.iconst 1, 1) := by decide +kernel
theorem dX3_factStatement_62 : decode cX3_factStatement 62 = .ok (.ireturn, 1) := by decide +kernel
theorem dX3_readStatement_0 : decode cX3_readStatement 0 = .ok (.aload_n 0, 1) := by decide +kernel
theorem dX3_readStatement_1 : decode cX3_readStatement 1 = .ok (.invokevirtual 22, 3) := by decide +kernel
theorem dX3_readStatement_4 : decode cX3_readStatement 4 = .ok (.aload_n 0, 1) := by decide +kernel
theorem dX3_readStatement_5 : decode cX3_readStatement 5 = .ok (.getfield 29, 3) := by decide +kernel
theorem dX3_readStatement_8 : decode cX3_readStatement 8 = .ok (.iconst 1, 1) := by decide +kernel
theorem dX3_readStatement_9 : decode cX3_readStatement 9 = .ok (.if_icmp .eq 5, 3) := by decide +kernel
theorem dX3_readStatement_12 : decode cX3_readStatement 12 = .ok (.iconst 0, 1) := by decide +kernel
theorem dX3_readStatement_13 : decode cX3_readStatement 13 = .ok (.ireturn, 1) := by decide +kernel
theorem dX3_readStatement_14 : decode cX3_readStatement 14 = .ok (.aload_n 0, 1) := by decide +kernel
theorem dX3_readStatement_15 : decode cX3_readStatement 15 = .ok (.getfield 85, 3) := by decide +kernel
theorem dX3_readStatement_18 : decode cX3_readStatement 18 = .ok (.istore_n 2, 1) := by decide +kernel
theorem dX3_readStatement_19 : decode cX3_readStatement 19 = .ok (.iload_n 2, 1) := by decide +kernel
theorem dX3_readStatement_20 : decode cX3_readStatement 20 = .ok (.aload_n 0, 1) := by decide +kernel
theorem dX3_readStatement_21 : decode cX3_readStatement 21 = .ok (.getfield 19, 3) := by decide +kernel
theorem dX3_readStatement_24 : decode cX3_readStatement 24 = .ok (.if_icmp .ge 56, 3) := by decide +kernel
theorem dX3_readStatement_27 : decode cX3_readStatement 27 = .ok (.aload_n 0, 1) := by decide +kernel
theorem dX3_readStatement_28 : decode cX3_readStatement 28 = .ok (.getfield 9, 3) := by decide +kernel
theorem dX3_readStatement_31 : decode cX3_readStatement 31 = .ok (.iload_n 2, 1) := by decide +kernel
theorem dX3_readStatement_32 : decode cX3_readStatement 32 = .ok (.iaload, 1) := by decide +kernel
theorem dX3_readStatement_33 : decode cX3_readStatement 33 = .ok (.bipush 97, 2) := by decide +kernel
theorem dX3_readStatement_35 : decode cX3_readStatement 35 = .ok (.if_icmp .eq 14, 3) := by decide +kernel
theorem dX3_readStatement_38 : decode cX3_readStatement 38 = .ok (.aload_n 0, 1) := by decide +kernel
theorem dX3_readStatement_39 : decode cX3_readStatement 39 = .ok (.getfield 9, 3) := by decide +kernel
theorem dX3_readStatement_42 : decode cX3_readStatement 42 = .ok (.iload_n 2, 1) := by decide +kernel
theorem dX3_readStatement_43 : decode cX3_readStatement 43 = .ok (.iaload, 1) := by decide +kernel
theorem dX3_readStatement_44 : decode cX3_readStatement 44 = .ok (.bipush 98, 2) := by decide +kernel
theorem dX3_readStatement_46 : decode cX3_readStatement 46 = .ok (.if_icmp .ne 26, 3) := by decide +kernel
theorem dX3_readStatement_49 : decode cX3_readStatement 49 = .ok (.aload_n 1, 1) := by decide +kernel
theorem dX3_readStatement_50 : decode cX3_readStatement 50 = .ok (.aload_n 0, 1) := by decide +kernel
theorem dX3_readStatement_51 : decode cX3_readStatement 51 = .ok (.getfield 9, 3) := by decide +kernel
theorem dX3_readStatement_54 : decode cX3_readStatement 54 = .ok (.iload_n 2, 1) := by decide +kernel
theorem dX3_readStatement_55 : decode cX3_readStatement 55 = .ok (.iaload, 1) := by decide +kernel
theorem dX3_readStatement_56 : decode cX3_readStatement 56 = .ok (.bipush 97, 2) := by decide +kernel
theorem dX3_readStatement_58 : decode cX3_readStatement 58 = .ok (.if_icmp .ne 7, 3) := by decide +kernel
theorem dX3_readStatement_61 : decode cX3_readStatement 61 = .ok (.iconst 1, 1) := by decide +kernel
theorem dX3_readStatement_62 : decode cX3_readStatement 62 = .ok (.goto 4, 3) := by decide +kernel
theorem dX3_readStatement_65 : decode cX3_readStatement 65 = .ok (.iconst 0, 1) := by decide +kernel
theorem dX3_readStatement_66 : decode cX3_readStatement 66 = .ok (.invokevirtual 88, 3) := by decide +kernel
theorem dX3_readStatement_69 : decode cX3_readStatement 69 = .ok (.ifCond .ne 5, 3) := by decide +kernel
theorem dX3_readStatement_72 : decode cX3_readStatement 72 = .ok (.iconst 0, 1) := by decide +kernel
theorem dX3_readStatement_73 : decode cX3_readStatement 73 = .ok (.ireturn, 1) := by decide +kernel
theorem dX3_readStatement_74 : decode cX3_readStatement 74 = .ok (.iinc 2 1, 3) := by decide +kernel
theorem dX3_readStatement_77 : decode cX3_readStatement 77 = .ok (.goto (-58), 3) := by decide +kernel
theorem dX3_readStatement_80 : decode cX3_readStatement 80 = .ok (.iconst 1, 1) := by decide +kernel
theorem dX3_readStatement_81 : decode cX3_readStatement 81 = .ok (.ireturn, 1) := by decide +kernel
theorem dX3_swapStatement_0 : decode cX3_swapStatement 0 = .ok (.aload_n 1, 1) := by decide +kernel
theorem dX3_swapStatement_1 : decode cX3_swapStatement 1 = .ok (.getfield 56, 3) := by decide +kernel
theorem dX3_swapStatement_4 : decode cX3_swapStatement 4 = .ok (.ifCond .gt 16, 3) := by decide +kernel
theorem dX3_swapStatement_7 : decode cX3_swapStatement 7 = .ok (.aload_n 0, 1) := by decide +kernel
theorem dX3_swapStatement_8 : decode cX3_swapStatement 8 = .ok (.aload_n 1, 1) := by decide +kernel
theorem dX3_swapStatement_9 : decode cX3_swapStatement 9 = .ok (.getfield 61, 3) := by decide +kernel
theorem dX3_swapStatement_12 : decode cX3_swapStatement 12 = .ok (.iconst 1, 1) := by decide +kernel
theorem dX3_swapStatement_13 : decode cX3_swapStatement 13 = .ok (.isub, 1) := by decide +kernel
theorem dX3_swapStatement_14 : decode cX3_swapStatement 14 = .ok (.invokevirtual 64, 3) := by decide +kernel
theorem dX3_swapStatement_17 : decode cX3_swapStatement 17 = .ok (.ifCond .ne 5, 3) := by decide +kernel
theorem dX3_swapStatement_20 : decode cX3_swapStatement 20 = .ok (.iconst 0, 1) := by decide +kernel
theorem dX3_swapStatement_21 : decode cX3_swapStatement 21 = .ok (.ireturn, 1) := by decide +kernel
theorem dX3_swapStatement_22 : decode cX3_swapStatement 22 = .ok (.aload_n 0, 1) := by decide +kernel
theorem dX3_swapStatement_23 : decode cX3_swapStatement 23 = .ok (.getfield 68, 3) := by decide +kernel
theorem dX3_swapStatement_26 : decode cX3_swapStatement 26 = .ok (.istore_n 2, 1) := by decide +kernel
theorem dX3_swapStatement_27 : decode cX3_swapStatement 27 = .ok (.aload_n 0, 1) := by decide +kernel
theorem dX3_swapStatement_28 : decode cX3_swapStatement 28 = .ok (.aload_n 1, 1) := by decide +kernel
theorem dX3_swapStatement_29 : decode cX3_swapStatement 29 = .ok (.getfield 61, 3) := by decide +kernel
theorem dX3_swapStatement_32 : decode cX3_swapStatement 32 = .ok (.iconst 1, 1) := by decide +kernel
theorem dX3_swapStatement_33 : decode cX3_swapStatement 33 = .ok (.isub, 1) := by decide +kernel
theorem dX3_swapStatement_34 : decode cX3_swapStatement 34 = .ok (.invokevirtual 64, 3) := by decide +kernel
theorem dX3_swapStatement_37 : decode cX3_swapStatement 37 = .ok (.ifCond .eq 11, 3) := by decide +kernel
theorem dX3_swapStatement_40 : decode cX3_swapStatement 40 = .ok (.aload_n 0, 1) := by decide +kernel
theorem dX3_swapStatement_41 : decode cX3_swapStatement 41 = .ok (.getfield 68, 3) := by decide +kernel
theorem dX3_swapStatement_44 : decode cX3_swapStatement 44 = .ok (.iload_n 2, 1) := by decide +kernel
theorem dX3_swapStatement_45 : decode cX3_swapStatement 45 = .ok (.if_icmp .ne 5, 3) := by decide +kernel
theorem dX3_swapStatement_48 : decode cX3_swapStatement 48 = .ok (.iconst 0, 1) := by decide +kernel
theorem dX3_swapStatement_49 : decode cX3_swapStatement 49 = .ok (.ireturn, 1) := by decide +kernel
theorem dX3_swapStatement_50 : decode cX3_swapStatement 50 = .ok (.aload_n 1, 1) := by decide +kernel
theorem dX3_swapStatement_51 : decode cX3_swapStatement 51 = .ok (.iload_n 2, 1) := by decide +kernel
theorem dX3_swapStatement_52 : decode cX3_swapStatement 52 = .ok (.aload_n 0, 1) := by decide +kernel
theorem dX3_swapStatement_53 : decode cX3_swapStatement 53 = .ok (.getfield 68, 3) := by decide +kernel
theorem dX3_swapStatement_56 : decode cX3_swapStatement 56 = .ok (.invokevirtual 92, 3) := by decide +kernel
theorem dX3_swapStatement_59 : decode cX3_swapStatement 59 = .ok (.iconst 1, 1) := by decide +kernel
theorem dX3_swapStatement_60 : decode cX3_swapStatement 60 = .ok (.ireturn, 1) := by decide +kernel
theorem dX3_isWord_0 : decode cX3_isWord 0 = .ok (.aload_n 0, 1) := by decide +kernel
theorem dX3_isWord_1 : decode cX3_isWord 1 = .ok (.getfield 29, 3) := by decide +kernel
theorem dX3_isWord_4 : decode cX3_isWord 4 = .ok (.iconst 1, 1) := by decide +kernel
theorem dX3_isWord_5 : decode cX3_isWord 5 = .ok (.if_icmp .ne 19, 3) := by decide +kernel
theorem dX3_isWord_8 : decode cX3_isWord 8 = .ok (.aload_n 0, 1) := by decide +kernel
theorem dX3_isWord_9 : decode cX3_isWord 9 = .ok (.getfield 19, 3) := by decide +kernel
theorem dX3_isWord_12 : decode cX3_isWord 12 = .ok (.aload_n 0, 1) := by decide +kernel
theorem dX3_isWord_13 : decode cX3_isWord 13 = .ok (.getfield 85, 3) := by decide +kernel
theorem dX3_isWord_16 : decode cX3_isWord 16 = .ok (.isub, 1) := by decide +kernel
theorem dX3_isWord_17 : decode cX3_isWord 17 = .ok (.aload_n 1, 1) := by decide +kernel
theorem dX3_isWord_18 : decode cX3_isWord 18 = .ok (.invokevirtual 96, 3) := by decide +kernel
theorem dX3_isWord_21 : decode cX3_isWord 21 = .ok (.if_icmp .eq 5, 3) := by decide +kernel
theorem dX3_isWord_24 : decode cX3_isWord 24 = .ok (.iconst 0, 1) := by decide +kernel
theorem dX3_isWord_25 : decode cX3_isWord 25 = .ok (.ireturn, 1) := by decide +kernel
theorem dX3_isWord_26 : decode cX3_isWord 26 = .ok (.iconst 0, 1) := by decide +kernel
theorem dX3_isWord_27 : decode cX3_isWord 27 = .ok (.istore_n 2, 1) := by decide +kernel
theorem dX3_isWord_28 : decode cX3_isWord 28 = .ok (.iload_n 2, 1) := by decide +kernel
theorem dX3_isWord_29 : decode cX3_isWord 29 = .ok (.aload_n 1, 1) := by decide +kernel
theorem dX3_isWord_30 : decode cX3_isWord 30 = .ok (.invokevirtual 96, 3) := by decide +kernel
theorem dX3_isWord_33 : decode cX3_isWord 33 = .ok (.if_icmp .ge 30, 3) := by decide +kernel
theorem dX3_isWord_36 : decode cX3_isWord 36 = .ok (.aload_n 0, 1) := by decide +kernel
theorem dX3_isWord_37 : decode cX3_isWord 37 = .ok (.getfield 9, 3) := by decide +kernel
theorem dX3_isWord_40 : decode cX3_isWord 40 = .ok (.aload_n 0, 1) := by decide +kernel
theorem dX3_isWord_41 : decode cX3_isWord 41 = .ok (.getfield 85, 3) := by decide +kernel
theorem dX3_isWord_44 : decode cX3_isWord 44 = .ok (.iload_n 2, 1) := by decide +kernel
theorem dX3_isWord_45 : decode cX3_isWord 45 = .ok (.iadd, 1) := by decide +kernel
theorem dX3_isWord_46 : decode cX3_isWord 46 = .ok (.iaload, 1) := by decide +kernel
theorem dX3_isWord_47 : decode cX3_isWord 47 = .ok (.aload_n 1, 1) := by decide +kernel
theorem dX3_isWord_48 : decode cX3_isWord 48 = .ok (.iload_n 2, 1) := by decide +kernel
theorem dX3_isWord_49 : decode cX3_isWord 49 = .ok (.invokevirtual 102, 3) := by decide +kernel
theorem dX3_isWord_52 : decode cX3_isWord 52 = .ok (.if_icmp .eq 5, 3) := by decide +kernel
theorem dX3_isWord_55 : decode cX3_isWord 55 = .ok (.iconst 0, 1) := by decide +kernel
theorem dX3_isWord_56 : decode cX3_isWord 56 = .ok (.ireturn, 1) := by decide +kernel
theorem dX3_isWord_57 : decode cX3_isWord 57 = .ok (.iinc 2 1, 3) := by decide +kernel
theorem dX3_isWord_60 : decode cX3_isWord 60 = .ok (.goto (-32), 3) := by decide +kernel
theorem dX3_isWord_63 : decode cX3_isWord 63 = .ok (.iconst 1, 1) := by decide +kernel
theorem dX3_isWord_64 : decode cX3_isWord 64 = .ok (.ireturn, 1) := by decide +kernel
theorem dX3_isNumberNext_0 : decode cX3_isNumberNext 0 = .ok (.aload_n 0, 1) := by decide +kernel
theorem dX3_isNumberNext_1 : decode cX3_isNumberNext 1 = .ok (.invokevirtual 22, 3) := by decide +kernel
theorem dX3_isNumberNext_4 : decode cX3_isNumberNext 4 = .ok (.aload_n 0, 1) := by decide +kernel
theorem dX3_isNumberNext_5 : decode cX3_isNumberNext 5 = .ok (.getfield 29, 3) := by decide +kernel
theorem dX3_isNumberNext_8 : decode cX3_isNumberNext 8 = .ok (.iconst 2, 1) := by decide +kernel
theorem dX3_isNumberNext_9 : decode cX3_isNumberNext 9 = .ok (.if_icmp .ne 16, 3) := by decide +kernel
theorem dX3_isNumberNext_12 : decode cX3_isNumberNext 12 = .ok (.aload_n 0, 1) := by decide +kernel
theorem dX3_isNumberNext_13 : decode cX3_isNumberNext 13 = .ok (.getfield 19, 3) := by decide +kernel
theorem dX3_isNumberNext_16 : decode cX3_isNumberNext 16 = .ok (.aload_n 0, 1) := by decide +kernel
theorem dX3_isNumberNext_17 : decode cX3_isNumberNext 17 = .ok (.getfield 85, 3) := by decide +kernel
theorem dX3_isNumberNext_20 : decode cX3_isNumberNext 20 = .ok (.isub, 1) := by decide +kernel
theorem dX3_isNumberNext_21 : decode cX3_isNumberNext 21 = .ok (.iconst 2, 1) := by decide +kernel
theorem dX3_isNumberNext_22 : decode cX3_isNumberNext 22 = .ok (.if_icmp .le 5, 3) := by decide +kernel
theorem dX3_isNumberNext_25 : decode cX3_isNumberNext 25 = .ok (.iconst 0, 1) := by decide +kernel
theorem dX3_isNumberNext_26 : decode cX3_isNumberNext 26 = .ok (.ireturn, 1) := by decide +kernel
theorem dX3_isNumberNext_27 : decode cX3_isNumberNext 27 = .ok (.aload_n 0, 1) := by decide +kernel
theorem dX3_isNumberNext_28 : decode cX3_isNumberNext 28 = .ok (.iconst 0, 1) := by decide +kernel
theorem dX3_isNumberNext_29 : decode cX3_isNumberNext 29 = .ok (.putfield 68, 3) := by decide +kernel
theorem dX3_isNumberNext_32 : decode cX3_isNumberNext 32 = .ok (.aload_n 0, 1) := by decide +kernel
theorem dX3_isNumberNext_33 : decode cX3_isNumberNext 33 = .ok (.getfield 85, 3) := by decide +kernel
theorem dX3_isNumberNext_36 : decode cX3_isNumberNext 36 = .ok (.istore_n 2, 1) := by decide +kernel
theorem dX3_isNumberNext_37 : decode cX3_isNumberNext 37 = .ok (.iload_n 2, 1) := by decide +kernel
theorem dX3_isNumberNext_38 : decode cX3_isNumberNext 38 = .ok (.aload_n 0, 1) := by decide +kernel
theorem dX3_isNumberNext_39 : decode cX3_isNumberNext 39 = .ok (.getfield 19, 3) := by decide +kernel
theorem dX3_isNumberNext_42 : decode cX3_isNumberNext 42 = .ok (.if_icmp .ge 30, 3) := by decide +kernel
theorem dX3_isNumberNext_45 : decode cX3_isNumberNext 45 = .ok (.aload_n 0, 1) := by decide +kernel
theorem dX3_isNumberNext_46 : decode cX3_isNumberNext 46 = .ok (.aload_n 0, 1) := by decide +kernel
theorem dX3_isNumberNext_47 : decode cX3_isNumberNext 47 = .ok (.getfield 68, 3) := by decide +kernel
theorem dX3_isNumberNext_50 : decode cX3_isNumberNext 50 = .ok (.bipush 10, 2) := by decide +kernel
theorem dX3_isNumberNext_52 : decode cX3_isNumberNext 52 = .ok (.imul, 1) := by decide +kernel
theorem dX3_isNumberNext_53 : decode cX3_isNumberNext 53 = .ok (.aload_n 0, 1) := by decide +kernel
theorem dX3_isNumberNext_54 : decode cX3_isNumberNext 54 = .ok (.getfield 9, 3) := by decide +kernel
theorem dX3_isNumberNext_57 : decode cX3_isNumberNext 57 = .ok (.iload_n 2, 1) := by decide +kernel
theorem dX3_isNumberNext_58 : decode cX3_isNumberNext 58 = .ok (.iaload, 1) := by decide +kernel
theorem dX3_isNumberNext_59 : decode cX3_isNumberNext 59 = .ok (.iadd, 1) := by decide +kernel
theorem dX3_isNumberNext_60 : decode cX3_isNumberNext 60 = .ok (.bipush 48, 2) := by decide +kernel
theorem dX3_isNumberNext_62 : decode cX3_isNumberNext 62 = .ok (.isub, 1) := by decide +kernel
theorem dX3_isNumberNext_63 : decode cX3_isNumberNext 63 = .ok (.putfield 68, 3) := by decide +kernel
theorem dX3_isNumberNext_66 : decode cX3_isNumberNext 66 = .ok (.iinc 2 1, 3) := by decide +kernel
theorem dX3_isNumberNext_69 : decode cX3_isNumberNext 69 = .ok (.goto (-32), 3) := by decide +kernel
theorem dX3_isNumberNext_72 : decode cX3_isNumberNext 72 = .ok (.aload_n 0, 1) := by decide +kernel
theorem dX3_isNumberNext_73 : decode cX3_isNumberNext 73 = .ok (.getfield 68, 3) := by decide +kernel
theorem dX3_isNumberNext_76 : decode cX3_isNumberNext 76 = .ok (.iload_n 1, 1) := by decide +kernel
theorem dX3_isNumberNext_77 : decode cX3_isNumberNext 77 = .ok (.if_icmp .gt 7, 3) := by decide +kernel
theorem dX3_isNumberNext_80 : decode cX3_isNumberNext 80 = .ok (.iconst 1, 1) := by decide +kernel
theorem dX3_isNumberNext_81 : decode cX3_isNumberNext 81 = .ok (.goto 4, 3) := by decide +kernel
theorem dX3_isNumberNext_84 : decode cX3_isNumberNext 84 = .ok (.iconst 0, 1) := by decide +kernel
theorem dX3_isNumberNext_85 : decode cX3_isNumberNext 85 = .ok (.ireturn, 1) := by decide +kernel
theorem dX3_nextToken_0 : decode cX3_nextToken 0 = .ok (.aload_n 0, 1) := by decide +kernel
theorem dX3_nextToken_1 : decode cX3_nextToken 1 = .ok (.aload_n 0, 1) := by decide +kernel
theorem dX3_nextToken_2 : decode cX3_nextToken 2 = .ok (.getfield 19, 3) := by decide +kernel
theorem dX3_nextToken_5 : decode cX3_nextToken 5 = .ok (.putfield 85, 3) := by decide +kernel
theorem dX3_nextToken_8 : decode cX3_nextToken 8 = .ok (.aload_n 0, 1) := by decide +kernel
theorem dX3_nextToken_9 : decode cX3_nextToken 9 = .ok (.getfield 85, 3) := by decide +kernel
theorem dX3_nextToken_12 : decode cX3_nextToken 12 = .ok (.aload_n 0, 1) := by decide +kernel
theorem dX3_nextToken_13 : decode cX3_nextToken 13 = .ok (.getfield 15, 3) := by decide +kernel
theorem dX3_nextToken_16 : decode cX3_nextToken 16 = .ok (.if_icmp .ge 30, 3) := by decide +kernel
theorem dX3_nextToken_19 : decode cX3_nextToken 19 = .ok (.aload_n 0, 1) := by decide +kernel
theorem dX3_nextToken_20 : decode cX3_nextToken 20 = .ok (.getfield 9, 3) := by decide +kernel
theorem dX3_nextToken_23 : decode cX3_nextToken 23 = .ok (.aload_n 0, 1) := by decide +kernel
theorem dX3_nextToken_24 : decode cX3_nextToken 24 = .ok (.getfield 85, 3) := by decide +kernel
theorem dX3_nextToken_27 : decode cX3_nextToken 27 = .ok (.iaload, 1) := by decide +kernel
theorem dX3_nextToken_28 : decode cX3_nextToken 28 = .ok (.bipush 32, 2) := by decide +kernel
theorem dX3_nextToken_30 : decode cX3_nextToken 30 = .ok (.if_icmp .ne 16, 3) := by decide +kernel
theorem dX3_nextToken_33 : decode cX3_nextToken 33 = .ok (.aload_n 0, 1) := by decide +kernel
theorem dX3_nextToken_34 : decode cX3_nextToken 34 = .ok (.dup, 1) := by decide +kernel
theorem dX3_nextToken_35 : decode cX3_nextToken 35 = .ok (.getfield 85, 3) := by decide +kernel
theorem dX3_nextToken_38 : decode cX3_nextToken 38 = .ok (.iconst 1, 1) := by decide +kernel
theorem dX3_nextToken_39 : decode cX3_nextToken 39 = .ok (.iadd, 1) := by decide +kernel
theorem dX3_nextToken_40 : decode cX3_nextToken 40 = .ok (.putfield 85, 3) := by decide +kernel
theorem dX3_nextToken_43 : decode cX3_nextToken 43 = .ok (.goto (-35), 3) := by decide +kernel
theorem dX3_nextToken_46 : decode cX3_nextToken 46 = .ok (.aload_n 0, 1) := by decide +kernel
theorem dX3_nextToken_47 : decode cX3_nextToken 47 = .ok (.aload_n 0, 1) := by decide +kernel
theorem dX3_nextToken_48 : decode cX3_nextToken 48 = .ok (.getfield 85, 3) := by decide +kernel
theorem dX3_nextToken_51 : decode cX3_nextToken 51 = .ok (.aload_n 0, 1) := by decide +kernel
theorem dX3_nextToken_52 : decode cX3_nextToken 52 = .ok (.getfield 15, 3) := by decide +kernel
theorem dX3_nextToken_55 : decode cX3_nextToken 55 = .ok (.if_icmp .ge 18, 3) := by decide +kernel
theorem dX3_nextToken_58 : decode cX3_nextToken 58 = .ok (.aload_n 0, 1) := by decide +kernel
theorem dX3_nextToken_59 : decode cX3_nextToken 59 = .ok (.getfield 9, 3) := by decide +kernel
theorem dX3_nextToken_62 : decode cX3_nextToken 62 = .ok (.aload_n 0, 1) := by decide +kernel
theorem dX3_nextToken_63 : decode cX3_nextToken 63 = .ok (.getfield 85, 3) := by decide +kernel
theorem dX3_nextToken_66 : decode cX3_nextToken 66 = .ok (.iaload, 1) := by decide +kernel
theorem dX3_nextToken_67 : decode cX3_nextToken 67 = .ok (.invokestatic 106, 3) := by decide +kernel
theorem dX3_nextToken_70 : decode cX3_nextToken 70 = .ok (.goto 4, 3) := by decide +kernel
theorem dX3_nextToken_73 : decode cX3_nextToken 73 = .ok (.iconst 0, 1) := by decide +kernel
theorem dX3_nextToken_74 : decode cX3_nextToken 74 = .ok (.putfield 29, 3) := by decide +kernel
theorem dX3_nextToken_77 : decode cX3_nextToken 77 = .ok (.aload_n 0, 1) := by decide +kernel
theorem dX3_nextToken_78 : decode cX3_nextToken 78 = .ok (.aload_n 0, 1) := by decide +kernel
theorem dX3_nextToken_79 : decode cX3_nextToken 79 = .ok (.getfield 15, 3) := by decide +kernel
theorem dX3_nextToken_82 : decode cX3_nextToken 82 = .ok (.aload_n 0, 1) := by decide +kernel
theorem dX3_nextToken_83 : decode cX3_nextToken 83 = .ok (.getfield 85, 3) := by decide +kernel
theorem dX3_nextToken_86 : decode cX3_nextToken 86 = .ok (.iconst 1, 1) := by decide +kernel
theorem dX3_nextToken_87 : decode cX3_nextToken 87 = .ok (.iadd, 1) := by decide +kernel
theorem dX3_nextToken_88 : decode cX3_nextToken 88 = .ok (.invokestatic 110, 3) := by decide +kernel
theorem dX3_nextToken_91 : decode cX3_nextToken 91 = .ok (.putfield 19, 3) := by decide +kernel
theorem dX3_nextToken_94 : decode cX3_nextToken 94 = .ok (.aload_n 0, 1) := by decide +kernel
theorem dX3_nextToken_95 : decode cX3_nextToken 95 = .ok (.getfield 29, 3) := by decide +kernel
theorem dX3_nextToken_98 : decode cX3_nextToken 98 = .ok (.iconst 1, 1) := by decide +kernel
theorem dX3_nextToken_99 : decode cX3_nextToken 99 = .ok (.if_icmp .eq 11, 3) := by decide +kernel
theorem dX3_nextToken_102 : decode cX3_nextToken 102 = .ok (.aload_n 0, 1) := by decide +kernel
theorem dX3_nextToken_103 : decode cX3_nextToken 103 = .ok (.getfield 29, 3) := by decide +kernel
theorem dX3_nextToken_106 : decode cX3_nextToken 106 = .ok (.iconst 2, 1) := by decide +kernel
theorem dX3_nextToken_107 : decode cX3_nextToken 107 = .ok (.if_icmp .ne 46, 3) := by decide +kernel
theorem dX3_nextToken_110 : decode cX3_nextToken 110 = .ok (.aload_n 0, 1) := by decide +kernel
theorem dX3_nextToken_111 : decode cX3_nextToken 111 = .ok (.getfield 19, 3) := by decide +kernel
theorem dX3_nextToken_114 : decode cX3_nextToken 114 = .ok (.aload_n 0, 1) := by decide +kernel
theorem dX3_nextToken_115 : decode cX3_nextToken 115 = .ok (.getfield 15, 3) := by decide +kernel
theorem dX3_nextToken_118 : decode cX3_nextToken 118 = .ok (.if_icmp .ge 35, 3) := by decide +kernel
theorem dX3_nextToken_121 : decode cX3_nextToken 121 = .ok (.aload_n 0, 1) := by decide +kernel
theorem dX3_nextToken_122 : decode cX3_nextToken 122 = .ok (.getfield 9, 3) := by decide +kernel
theorem dX3_nextToken_125 : decode cX3_nextToken 125 = .ok (.aload_n 0, 1) := by decide +kernel
theorem dX3_nextToken_126 : decode cX3_nextToken 126 = .ok (.getfield 19, 3) := by decide +kernel
theorem dX3_nextToken_129 : decode cX3_nextToken 129 = .ok (.iaload, 1) := by decide +kernel
theorem dX3_nextToken_130 : decode cX3_nextToken 130 = .ok (.invokestatic 106, 3) := by decide +kernel
theorem dX3_nextToken_133 : decode cX3_nextToken 133 = .ok (.aload_n 0, 1) := by decide +kernel
theorem dX3_nextToken_134 : decode cX3_nextToken 134 = .ok (.getfield 29, 3) := by decide +kernel
theorem dX3_nextToken_137 : decode cX3_nextToken 137 = .ok (.if_icmp .ne 16, 3) := by decide +kernel
theorem dX3_nextToken_140 : decode cX3_nextToken 140 = .ok (.aload_n 0, 1) := by decide +kernel
theorem dX3_nextToken_141 : decode cX3_nextToken 141 = .ok (.dup, 1) := by decide +kernel
theorem dX3_nextToken_142 : decode cX3_nextToken 142 = .ok (.getfield 19, 3) := by decide +kernel
theorem dX3_nextToken_145 : decode cX3_nextToken 145 = .ok (.iconst 1, 1) := by decide +kernel
theorem dX3_nextToken_146 : decode cX3_nextToken 146 = .ok (.iadd, 1) := by decide +kernel
theorem dX3_nextToken_147 : decode cX3_nextToken 147 = .ok (.putfield 19, 3) := by decide +kernel
theorem dX3_nextToken_150 : decode cX3_nextToken 150 = .ok (.goto (-56), 3) := by decide +kernel
theorem dX3_nextToken_153 : decode cX3_nextToken 153 = .ok (.return_, 1) := by decide +kernel
theorem dX3_tokenOf_0 : decode cX3_tokenOf 0 = .ok (.iload_n 0, 1) := by decide +kernel
theorem dX3_tokenOf_1 : decode cX3_tokenOf 1 = .ok (.bipush 97, 2) := by decide +kernel
theorem dX3_tokenOf_3 : decode cX3_tokenOf 3 = .ok (.if_icmp .lt 11, 3) := by decide +kernel
theorem dX3_tokenOf_6 : decode cX3_tokenOf 6 = .ok (.iload_n 0, 1) := by decide +kernel
theorem dX3_tokenOf_7 : decode cX3_tokenOf 7 = .ok (.bipush 122, 2) := by decide +kernel
theorem dX3_tokenOf_9 : decode cX3_tokenOf 9 = .ok (.if_icmp .gt 5, 3) := by decide +kernel
theorem dX3_tokenOf_12 : decode cX3_tokenOf 12 = .ok (.iconst 1, 1) := by decide +kernel
theorem dX3_tokenOf_13 : decode cX3_tokenOf 13 = .ok (.ireturn, 1) := by decide +kernel
theorem dX3_tokenOf_14 : decode cX3_tokenOf 14 = .ok (.iload_n 0, 1) := by decide +kernel
theorem dX3_tokenOf_15 : decode cX3_tokenOf 15 = .ok (.bipush 48, 2) := by decide +kernel
theorem dX3_tokenOf_17 : decode cX3_tokenOf 17 = .ok (.if_icmp .lt 11, 3) := by decide +kernel
theorem dX3_tokenOf_20 : decode cX3_tokenOf 20 = .ok (.iload_n 0, 1) := by decide +kernel
theorem dX3_tokenOf_21 : decode cX3_tokenOf 21 = .ok (.bipush 57, 2) := by decide +kernel
theorem dX3_tokenOf_23 : decode cX3_tokenOf 23 = .ok (.if_icmp .gt 5, 3) := by decide +kernel
theorem dX3_tokenOf_26 : decode cX3_tokenOf 26 = .ok (.iconst 2, 1) := by decide +kernel
theorem dX3_tokenOf_27 : decode cX3_tokenOf 27 = .ok (.ireturn, 1) := by decide +kernel
theorem dX3_tokenOf_28 : decode cX3_tokenOf 28 = .ok (.iload_n 0, 1) := by decide +kernel
theorem dX3_tokenOf_29 : decode cX3_tokenOf 29 = .ok (.bipush 59, 2) := by decide +kernel
theorem dX3_tokenOf_31 : decode cX3_tokenOf 31 = .ok (.if_icmp .ne 7, 3) := by decide +kernel
theorem dX3_tokenOf_34 : decode cX3_tokenOf 34 = .ok (.iconst 3, 1) := by decide +kernel
theorem dX3_tokenOf_35 : decode cX3_tokenOf 35 = .ok (.goto 4, 3) := by decide +kernel
theorem dX3_tokenOf_38 : decode cX3_tokenOf 38 = .ok (.iconst 4, 1) := by decide +kernel
theorem dX3_tokenOf_39 : decode cX3_tokenOf 39 = .ok (.ireturn, 1) := by decide +kernel
