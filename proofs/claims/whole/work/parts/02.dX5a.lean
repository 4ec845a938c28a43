theorem dX5_init_0 : decode cX5_init 0 = .ok (.aload_n 0, 1) := by decide +kernel
theorem dX5_init_1 : decode cX5_init 1 = .ok (.invokespecial 1, 3) := by decide +kernel
theorem dX5_init_4 : decode cX5_init 4 = .ok (.aload_n 0, 1) := by decide +kernel
theorem dX5_init_5 : decode cX5_init 5 = .ok (.bipush 8, 2) := by decide +kernel
theorem dX5_init_7 : decode cX5_init 7 = .ok (.newarray .int, 2) := by decide +kernel
theorem dX5_init_9 : decode cX5_init 9 = .ok (.putfield 7, 3) := by decide +kernel
theorem dX5_init_12 : decode cX5_init 12 = .ok (.aload_n 0, 1) := by decide +kernel
theorem dX5_init_13 : decode cX5_init 13 = .ok (.bipush 8, 2) := by decide +kernel
theorem dX5_init_15 : decode cX5_init 15 = .ok (.newarray .int, 2) := by decide +kernel
theorem dX5_init_17 : decode cX5_init 17 = .ok (.putfield 13, 3) := by decide +kernel
theorem dX5_init_20 : decode cX5_init 20 = .ok (.aload_n 0, 1) := by decide +kernel
theorem dX5_init_21 : decode cX5_init 21 = .ok (.bipush 8, 2) := by decide +kernel
theorem dX5_init_23 : decode cX5_init 23 = .ok (.newarray .int, 2) := by decide +kernel
theorem dX5_init_25 : decode cX5_init 25 = .ok (.putfield 16, 3) := by decide +kernel
theorem dX5_init_28 : decode cX5_init 28 = .ok (.aload_n 0, 1) := by decide +kernel
theorem dX5_init_29 : decode cX5_init 29 = .ok (.bipush 8, 2) := by decide +kernel
theorem dX5_init_31 : decode cX5_init 31 = .ok (.bipush 40, 2) := by decide +kernel
theorem dX5_init_33 : decode cX5_init 33 = .ok (.multianewarray 19 2, 4) := by decide +kernel
theorem dX5_init_37 : decode cX5_init 37 = .ok (.putfield 21, 3) := by decide +kernel
theorem dX5_init_40 : decode cX5_init 40 = .ok (.aload_n 0, 1) := by decide +kernel
theorem dX5_init_41 : decode cX5_init 41 = .ok (.bipush 40, 2) := by decide +kernel
theorem dX5_init_43 : decode cX5_init 43 = .ok (.newarray .long, 2) := by decide +kernel
theorem dX5_init_45 : decode cX5_init 45 = .ok (.putfield 24, 3) := by decide +kernel
theorem dX5_init_48 : decode cX5_init 48 = .ok (.aload_n 0, 1) := by decide +kernel
theorem dX5_init_49 : decode cX5_init 49 = .ok (.bipush 8, 2) := by decide +kernel
theorem dX5_init_51 : decode cX5_init 51 = .ok (.newarray .int, 2) := by decide +kernel
theorem dX5_init_53 : decode cX5_init 53 = .ok (.putfield 28, 3) := by decide +kernel
theorem dX5_init_56 : decode cX5_init 56 = .ok (.aload_n 0, 1) := by decide +kernel
theorem dX5_init_57 : decode cX5_init 57 = .ok (.bipush 8, 2) := by decide +kernel
theorem dX5_init_59 : decode cX5_init 59 = .ok (.newarray .int, 2) := by decide +kernel
theorem dX5_init_61 : decode cX5_init 61 = .ok (.putfield 31, 3) := by decide +kernel
theorem dX5_init_64 : decode cX5_init 64 = .ok (.aload_n 0, 1) := by decide +kernel
theorem dX5_init_65 : decode cX5_init 65 = .ok (.sipush 250, 3) := by decide +kernel
theorem dX5_init_68 : decode cX5_init 68 = .ok (.newarray .int, 2) := by decide +kernel
theorem dX5_init_70 : decode cX5_init 70 = .ok (.putfield 34, 3) := by decide +kernel
theorem dX5_init_73 : decode cX5_init 73 = .ok (.aload_n 0, 1) := by decide +kernel
theorem dX5_init_74 : decode cX5_init 74 = .ok (.bipush 8, 2) := by decide +kernel
theorem dX5_init_76 : decode cX5_init 76 = .ok (.newarray .int, 2) := by decide +kernel
theorem dX5_init_78 : decode cX5_init 78 = .ok (.putfield 37, 3) := by decide +kernel
theorem dX5_init_81 : decode cX5_init 81 = .ok (.aload_n 0, 1) := by decide +kernel
theorem dX5_init_82 : decode cX5_init 82 = .ok (.iconst 4, 1) := by decide +kernel
theorem dX5_init_83 : decode cX5_init 83 = .ok (.newarray .int, 2) := by decide +kernel
theorem dX5_init_85 : decode cX5_init 85 = .ok (.putfield 40, 3) := by decide +kernel
theorem dX5_init_88 : decode cX5_init 88 = .ok (.aload_n 0, 1) := by decide +kernel
theorem dX5_init_89 : decode cX5_init 89 = .ok (.iconst 4, 1) := by decide +kernel
theorem dX5_init_90 : decode cX5_init 90 = .ok (.newarray .int, 2) := by decide +kernel
theorem dX5_init_92 : decode cX5_init 92 = .ok (.putfield 43, 3) := by decide +kernel
theorem dX5_init_95 : decode cX5_init 95 = .ok (.aload_n 0, 1) := by decide +kernel
theorem dX5_init_96 : decode cX5_init 96 = .ok (.iconst 4, 1) := by decide +kernel
theorem dX5_init_97 : decode cX5_init 97 = .ok (.newarray .int, 2) := by decide +kernel
theorem dX5_init_99 : decode cX5_init 99 = .ok (.putfield 46, 3) := by decide +kernel
theorem dX5_init_102 : decode cX5_init 102 = .ok (.aload_n 0, 1) := by decide +kernel
theorem dX5_init_103 : decode cX5_init 103 = .ok (.iconst 4, 1) := by decide +kernel
theorem dX5_init_104 : decode cX5_init 104 = .ok (.iconst 3, 1) := by decide +kernel
theorem dX5_init_105 : decode cX5_init 105 = .ok (.multianewarray 49 2, 4) := by decide +kernel
theorem dX5_init_109 : decode cX5_init 109 = .ok (.putfield 51, 3) := by decide +kernel
theorem dX5_init_112 : decode cX5_init 112 = .ok (.aload_n 0, 1) := by decide +kernel
theorem dX5_init_113 : decode cX5_init 113 = .ok (.bipush 24, 2) := by decide +kernel
theorem dX5_init_115 : decode cX5_init 115 = .ok (.newarray .int, 2) := by decide +kernel
theorem dX5_init_117 : decode cX5_init 117 = .ok (.putfield 54, 3) := by decide +kernel
theorem dX5_init_120 : decode cX5_init 120 = .ok (.aload_n 0, 1) := by decide +kernel
theorem dX5_init_121 : decode cX5_init 121 = .ok (.iconst 1, 1) := by decide +kernel
theorem dX5_init_122 : decode cX5_init 122 = .ok (.putfield 57, 3) := by decide +kernel
theorem dX5_init_125 : decode cX5_init 125 = .ok (.aload_n 0, 1) := by decide +kernel
theorem dX5_init_126 : decode cX5_init 126 = .ok (.iconst 3, 1) := by decide +kernel
theorem dX5_init_127 : decode cX5_init 127 = .ok (.newarray .int, 2) := by decide +kernel
theorem dX5_init_129 : decode cX5_init 129 = .ok (.putfield 61, 3) := by decide +kernel
theorem dX5_init_132 : decode cX5_init 132 = .ok (.aload_n 0, 1) := by decide +kernel
theorem dX5_init_133 : decode cX5_init 133 = .ok (.bipush 25, 2) := by decide +kernel
theorem dX5_init_135 : decode cX5_init 135 = .ok (.bipush 25, 2) := by decide +kernel
theorem dX5_init_137 : decode cX5_init 137 = .ok (.multianewarray 64 2, 4) := by decide +kernel
theorem dX5_init_141 : decode cX5_init 141 = .ok (.putfield 66, 3) := by decide +kernel
theorem dX5_init_144 : decode cX5_init 144 = .ok (.aload_n 0, 1) := by decide +kernel
theorem dX5_init_145 : decode cX5_init 145 = .ok (.bipush 25, 2) := by decide +kernel
theorem dX5_init_147 : decode cX5_init 147 = .ok (.bipush 25, 2) := by decide +kernel
theorem dX5_init_149 : decode cX5_init 149 = .ok (.multianewarray 19 2, 4) := by decide +kernel
theorem dX5_init_153 : decode cX5_init 153 = .ok (.putfield 69, 3) := by decide +kernel
theorem dX5_init_156 : decode cX5_init 156 = .ok (.aload_n 0, 1) := by decide +kernel
theorem dX5_init_157 : decode cX5_init 157 = .ok (.bipush 25, 2) := by decide +kernel
theorem dX5_init_159 : decode cX5_init 159 = .ok (.bipush 25, 2) := by decide +kernel
theorem dX5_init_161 : decode cX5_init 161 = .ok (.multianewarray 19 2, 4) := by decide +kernel
theorem dX5_init_165 : decode cX5_init 165 = .ok (.putfield 72, 3) := by decide +kernel
theorem dX5_init_168 : decode cX5_init 168 = .ok (.aload_n 0, 1) := by decide +kernel
theorem dX5_init_169 : decode cX5_init 169 = .ok (.bipush 25, 2) := by decide +kernel
theorem dX5_init_171 : decode cX5_init 171 = .ok (.bipush 25, 2) := by decide +kernel
theorem dX5_init_173 : decode cX5_init 173 = .ok (.multianewarray 19 2, 4) := by decide +kernel
theorem dX5_init_177 : decode cX5_init 177 = .ok (.putfield 75, 3) := by decide +kernel
theorem dX5_init_180 : decode cX5_init 180 = .ok (.aload_n 0, 1) := by decide +kernel
theorem dX5_init_181 : decode cX5_init 181 = .ok (.bipush 25, 2) := by decide +kernel
theorem dX5_init_183 : decode cX5_init 183 = .ok (.bipush 25, 2) := by decide +kernel
theorem dX5_init_185 : decode cX5_init 185 = .ok (.multianewarray 19 2, 4) := by decide +kernel
theorem dX5_init_189 : decode cX5_init 189 = .ok (.putfield 78, 3) := by decide +kernel
theorem dX5_init_192 : decode cX5_init 192 = .ok (.aload_n 0, 1) := by decide +kernel
theorem dX5_init_193 : decode cX5_init 193 = .ok (.bipush 25, 2) := by decide +kernel
theorem dX5_init_195 : decode cX5_init 195 = .ok (.newarray .long, 2) := by decide +kernel
theorem dX5_init_197 : decode cX5_init 197 = .ok (.putfield 81, 3) := by decide +kernel
theorem dX5_init_200 : decode cX5_init 200 = .ok (.aload_n 0, 1) := by decide +kernel
theorem dX5_init_201 : decode cX5_init 201 = .ok (.bipush 25, 2) := by decide +kernel
theorem dX5_init_203 : decode cX5_init 203 = .ok (.bipush 25, 2) := by decide +kernel
theorem dX5_init_205 : decode cX5_init 205 = .ok (.multianewarray 64 2, 4) := by decide +kernel
theorem dX5_init_209 : decode cX5_init 209 = .ok (.putfield 84, 3) := by decide +kernel
theorem dX5_init_212 : decode cX5_init 212 = .ok (.aload_n 0, 1) := by decide +kernel
theorem dX5_init_213 : decode cX5_init 213 = .ok (.iconst 4, 1) := by decide +kernel
theorem dX5_init_214 : decode cX5_init 214 = .ok (.newarray .int, 2) := by decide +kernel
theorem dX5_init_216 : decode cX5_init 216 = .ok (.putfield 87, 3) := by decide +kernel
theorem dX5_init_219 : decode cX5_init 219 = .ok (.aload_n 0, 1) := by decide +kernel
theorem dX5_init_220 : decode cX5_init 220 = .ok (.iconst 4, 1) := by decide +kernel
theorem dX5_init_221 : decode cX5_init 221 = .ok (.newarray .int, 2) := by decide +kernel
theorem dX5_init_223 : decode cX5_init 223 = .ok (.putfield 90, 3) := by decide +kernel
theorem dX5_init_226 : decode cX5_init 226 = .ok (.return_, 1) := by decide +kernel
theorem dX5_refuse_0 : decode cX5_refuse 0 = .ok (.aload_n 0, 1) := by decide +kernel
theorem dX5_refuse_1 : decode cX5_refuse 1 = .ok (.getfield 37, 3) := by decide +kernel
theorem dX5_refuse_4 : decode cX5_refuse 4 = .ok (.iload_n 1, 1) := by decide +kernel
theorem dX5_refuse_5 : decode cX5_refuse 5 = .ok (.ineg, 1) := by decide +kernel
theorem dX5_refuse_6 : decode cX5_refuse 6 = .ok (.dup2, 1) := by decide +kernel
theorem dX5_refuse_7 : decode cX5_refuse 7 = .ok (.iaload, 1) := by decide +kernel
theorem dX5_refuse_8 : decode cX5_refuse 8 = .ok (.iconst 1, 1) := by decide +kernel
theorem dX5_refuse_9 : decode cX5_refuse 9 = .ok (.iadd, 1) := by decide +kernel
theorem dX5_refuse_10 : decode cX5_refuse 10 = .ok (.iastore, 1) := by decide +kernel
theorem dX5_refuse_11 : decode cX5_refuse 11 = .ok (.iload_n 1, 1) := by decide +kernel
theorem dX5_refuse_12 : decode cX5_refuse 12 = .ok (.ireturn, 1) := by decide +kernel
theorem dX5_in_0 : decode cX5_in 0 = .ok (.lload_n 0, 1) := by decide +kernel
theorem dX5_in_1 : decode cX5_in 1 = .ok (.lload_n 2, 1) := by decide +kernel
theorem dX5_in_2 : decode cX5_in 2 = .ok (.lcmp, 1) := by decide +kernel
theorem dX5_in_3 : decode cX5_in 3 = .ok (.ifCond .lt 14, 3) := by decide +kernel
theorem dX5_in_6 : decode cX5_in 6 = .ok (.lload_n 0, 1) := by decide +kernel
theorem dX5_in_7 : decode cX5_in 7 = .ok (.lload 4, 2) := by decide +kernel
theorem dX5_in_9 : decode cX5_in 9 = .ok (.lcmp, 1) := by decide +kernel
theorem dX5_in_10 : decode cX5_in 10 = .ok (.ifCond .gt 7, 3) := by decide +kernel
theorem dX5_in_13 : decode cX5_in 13 = .ok (.iconst 1, 1) := by decide +kernel
theorem dX5_in_14 : decode cX5_in 14 = .ok (.goto 4, 3) := by decide +kernel
theorem dX5_in_17 : decode cX5_in 17 = .ok (.iconst 0, 1) := by decide +kernel
theorem dX5_in_18 : decode cX5_in 18 = .ok (.ireturn, 1) := by decide +kernel
theorem dX5_row_0 : decode cX5_row 0 = .ok (.iload_n 1, 1) := by decide +kernel
theorem dX5_row_1 : decode cX5_row 1 = .ok (.i2l, 1) := by decide +kernel
theorem dX5_row_2 : decode cX5_row 2 = .ok (.lconst 0, 1) := by decide +kernel
theorem dX5_row_3 : decode cX5_row 3 = .ok (.ldc2_w 93, 3) := by decide +kernel
theorem dX5_row_6 : decode cX5_row 6 = .ok (.invokestatic 95, 3) := by decide +kernel
theorem dX5_row_9 : decode cX5_row 9 = .ok (.ifCond .eq 27, 3) := by decide +kernel
theorem dX5_row_12 : decode cX5_row 12 = .ok (.iload_n 2, 1) := by decide +kernel
theorem dX5_row_13 : decode cX5_row 13 = .ok (.i2l, 1) := by decide +kernel
theorem dX5_row_14 : decode cX5_row 14 = .ok (.lconst 0, 1) := by decide +kernel
theorem dX5_row_15 : decode cX5_row 15 = .ok (.ldc2_w 99, 3) := by decide +kernel
theorem dX5_row_18 : decode cX5_row 18 = .ok (.invokestatic 95, 3) := by decide +kernel
theorem dX5_row_21 : decode cX5_row 21 = .ok (.ifCond .eq 15, 3) := by decide +kernel
theorem dX5_row_24 : decode cX5_row 24 = .ok (.iload_n 3, 1) := by decide +kernel
theorem dX5_row_25 : decode cX5_row 25 = .ok (.i2l, 1) := by decide +kernel
theorem dX5_row_26 : decode cX5_row 26 = .ok (.lconst 0, 1) := by decide +kernel
theorem dX5_row_27 : decode cX5_row 27 = .ok (.ldc2_w 101, 3) := by decide +kernel
theorem dX5_row_30 : decode cX5_row 30 = .ok (.invokestatic 95, 3) := by decide +kernel
theorem dX5_row_33 : decode cX5_row 33 = .ok (.ifCond .ne 10, 3) := by decide +kernel
theorem dX5_row_36 : decode cX5_row 36 = .ok (.aload_n 0, 1) := by decide +kernel
theorem dX5_row_37 : decode cX5_row 37 = .ok (.bipush (-2), 2) := by decide +kernel
theorem dX5_row_39 : decode cX5_row 39 = .ok (.invokevirtual 103, 3) := by decide +kernel
theorem dX5_row_42 : decode cX5_row 42 = .ok (.ireturn, 1) := by decide +kernel
theorem dX5_row_43 : decode cX5_row 43 = .ok (.aload_n 0, 1) := by decide +kernel
theorem dX5_row_44 : decode cX5_row 44 = .ok (.getfield 7, 3) := by decide +kernel
theorem dX5_row_47 : decode cX5_row 47 = .ok (.iload_n 1, 1) := by decide +kernel
theorem dX5_row_48 : decode cX5_row 48 = .ok (.iconst 1, 1) := by decide +kernel
theorem dX5_row_49 : decode cX5_row 49 = .ok (.iastore, 1) := by decide +kernel
theorem dX5_row_50 : decode cX5_row 50 = .ok (.aload_n 0, 1) := by decide +kernel
theorem dX5_row_51 : decode cX5_row 51 = .ok (.getfield 13, 3) := by decide +kernel
theorem dX5_row_54 : decode cX5_row 54 = .ok (.iload_n 1, 1) := by decide +kernel
theorem dX5_row_55 : decode cX5_row 55 = .ok (.iload_n 2, 1) := by decide +kernel
theorem dX5_row_56 : decode cX5_row 56 = .ok (.iastore, 1) := by decide +kernel
theorem dX5_row_57 : decode cX5_row 57 = .ok (.aload_n 0, 1) := by decide +kernel
theorem dX5_row_58 : decode cX5_row 58 = .ok (.getfield 16, 3) := by decide +kernel
theorem dX5_row_61 : decode cX5_row 61 = .ok (.iload_n 1, 1) := by decide +kernel
theorem dX5_row_62 : decode cX5_row 62 = .ok (.iload_n 3, 1) := by decide +kernel
theorem dX5_row_63 : decode cX5_row 63 = .ok (.iastore, 1) := by decide +kernel
theorem dX5_row_64 : decode cX5_row 64 = .ok (.iconst 0, 1) := by decide +kernel
theorem dX5_row_65 : decode cX5_row 65 = .ok (.istore 4, 2) := by decide +kernel
theorem dX5_row_67 : decode cX5_row 67 = .ok (.iload 4, 2) := by decide +kernel
theorem dX5_row_69 : decode cX5_row 69 = .ok (.bipush 40, 2) := by decide +kernel
theorem dX5_row_71 : decode cX5_row 71 = .ok (.if_icmp .ge 19, 3) := by decide +kernel
theorem dX5_row_74 : decode cX5_row 74 = .ok (.aload_n 0, 1) := by decide +kernel
theorem dX5_row_75 : decode cX5_row 75 = .ok (.getfield 21, 3) := by decide +kernel
theorem dX5_row_78 : decode cX5_row 78 = .ok (.iload_n 1, 1) := by decide +kernel
theorem dX5_row_79 : decode cX5_row 79 = .ok (.aaload, 1) := by decide +kernel
theorem dX5_row_80 : decode cX5_row 80 = .ok (.iload 4, 2) := by decide +kernel
theorem dX5_row_82 : decode cX5_row 82 = .ok (.lconst 0, 1) := by decide +kernel
theorem dX5_row_83 : decode cX5_row 83 = .ok (.lastore, 1) := by decide +kernel
theorem dX5_row_84 : decode cX5_row 84 = .ok (.iinc 4 1, 3) := by decide +kernel
theorem dX5_row_87 : decode cX5_row 87 = .ok (.goto (-20), 3) := by decide +kernel
theorem dX5_row_90 : decode cX5_row 90 = .ok (.iconst 1, 1) := by decide +kernel
theorem dX5_row_91 : decode cX5_row 91 = .ok (.ireturn, 1) := by decide +kernel
theorem dX5_fit_0 : decode cX5_fit 0 = .ok (.iload_n 0, 1) := by decide +kernel
theorem dX5_fit_1 : decode cX5_fit 1 = .ok (.tableswitch 47 0 3 #[31, 36, 41, 45], 31) := by decide +kernel
theorem dX5_fit_32 : decode cX5_fit 32 = .ok (.lload_n 1, 1) := by decide +kernel
theorem dX5_fit_33 : decode cX5_fit 33 = .ok (.l2i, 1) := by decide +kernel
theorem dX5_fit_34 : decode cX5_fit 34 = .ok (.i2b, 1) := by decide +kernel
theorem dX5_fit_35 : decode cX5_fit 35 = .ok (.i2l, 1) := by decide +kernel
theorem dX5_fit_36 : decode cX5_fit 36 = .ok (.lreturn, 1) := by decide +kernel
theorem dX5_fit_37 : decode cX5_fit 37 = .ok (.lload_n 1, 1) := by decide +kernel
theorem dX5_fit_38 : decode cX5_fit 38 = .ok (.l2i, 1) := by decide +kernel
theorem dX5_fit_39 : decode cX5_fit 39 = .ok (.i2s, 1) := by decide +kernel
theorem dX5_fit_40 : decode cX5_fit 40 = .ok (.i2l, 1) := by decide +kernel
theorem dX5_fit_41 : decode cX5_fit 41 = .ok (.lreturn, 1) := by decide +kernel
theorem dX5_fit_42 : decode cX5_fit 42 = .ok (.lload_n 1, 1) := by decide +kernel
theorem dX5_fit_43 : decode cX5_fit 43 = .ok (.l2i, 1) := by decide +kernel
theorem dX5_fit_44 : decode cX5_fit 44 = .ok (.i2l, 1) := by decide +kernel
theorem dX5_fit_45 : decode cX5_fit 45 = .ok (.lreturn, 1) := by decide +kernel
theorem dX5_fit_46 : decode cX5_fit 46 = .ok (.lload_n 1, 1) := by decide +kernel
theorem dX5_fit_47 : decode cX5_fit 47 = .ok (.lreturn, 1) := by decide +kernel
theorem dX5_fit_48 : decode cX5_fit 48 = .ok (.lload_n 1, 1) := by decide +kernel
theorem dX5_fit_49 : decode cX5_fit 49 = .ok (.lconst 0, 1) := by decide +kernel
theorem dX5_fit_50 : decode cX5_fit 50 = .ok (.lcmp, 1) := by decide +kernel
theorem dX5_fit_51 : decode cX5_fit 51 = .ok (.ifCond .eq 7, 3) := by decide +kernel
theorem dX5_fit_54 : decode cX5_fit 54 = .ok (.lconst 1, 1) := by decide +kernel
theorem dX5_fit_55 : decode cX5_fit 55 = .ok (.goto 4, 3) := by decide +kernel
theorem dX5_fit_58 : decode cX5_fit 58 = .ok (.lconst 0, 1) := by decide +kernel
theorem dX5_fit_59 : decode cX5_fit 59 = .ok (.lreturn, 1) := by decide +kernel
theorem dX5_noRow_0 : decode cX5_noRow 0 = .ok (.iload_n 1, 1) := by decide +kernel
theorem dX5_noRow_1 : decode cX5_noRow 1 = .ok (.i2l, 1) := by decide +kernel
theorem dX5_noRow_2 : decode cX5_noRow 2 = .ok (.lconst 0, 1) := by decide +kernel
theorem dX5_noRow_3 : decode cX5_noRow 3 = .ok (.ldc2_w 93, 3) := by decide +kernel
theorem dX5_noRow_6 : decode cX5_noRow 6 = .ok (.invokestatic 95, 3) := by decide +kernel
theorem dX5_noRow_9 : decode cX5_noRow 9 = .ok (.ifCond .ne 10, 3) := by decide +kernel
theorem dX5_noRow_12 : decode cX5_noRow 12 = .ok (.aload_n 0, 1) := by decide +kernel
theorem dX5_noRow_13 : decode cX5_noRow 13 = .ok (.bipush (-2), 2) := by decide +kernel
theorem dX5_noRow_15 : decode cX5_noRow 15 = .ok (.invokevirtual 103, 3) := by decide +kernel
theorem dX5_noRow_18 : decode cX5_noRow 18 = .ok (.ireturn, 1) := by decide +kernel
theorem dX5_noRow_19 : decode cX5_noRow 19 = .ok (.aload_n 0, 1) := by decide +kernel
theorem dX5_noRow_20 : decode cX5_noRow 20 = .ok (.getfield 7, 3) := by decide +kernel
theorem dX5_noRow_23 : decode cX5_noRow 23 = .ok (.iload_n 1, 1) := by decide +kernel
theorem dX5_noRow_24 : decode cX5_noRow 24 = .ok (.iaload, 1) := by decide +kernel
theorem dX5_noRow_25 : decode cX5_noRow 25 = .ok (.iconst 2, 1) := by decide +kernel
theorem dX5_noRow_26 : decode cX5_noRow 26 = .ok (.if_icmp .ne 10, 3) := by decide +kernel
theorem dX5_noRow_29 : decode cX5_noRow 29 = .ok (.aload_n 0, 1) := by decide +kernel
theorem dX5_noRow_30 : decode cX5_noRow 30 = .ok (.bipush (-3), 2) := by decide +kernel
theorem dX5_noRow_32 : decode cX5_noRow 32 = .ok (.invokevirtual 103, 3) := by decide +kernel
theorem dX5_noRow_35 : decode cX5_noRow 35 = .ok (.ireturn, 1) := by decide +kernel
theorem dX5_noRow_36 : decode cX5_noRow 36 = .ok (.aload_n 0, 1) := by decide +kernel
theorem dX5_noRow_37 : decode cX5_noRow 37 = .ok (.getfield 7, 3) := by decide +kernel
theorem dX5_noRow_40 : decode cX5_noRow 40 = .ok (.iload_n 1, 1) := by decide +kernel
theorem dX5_noRow_41 : decode cX5_noRow 41 = .ok (.iaload, 1) := by decide +kernel
theorem dX5_noRow_42 : decode cX5_noRow 42 = .ok (.ifCond .ne 12, 3) := by decide +kernel
theorem dX5_noRow_45 : decode cX5_noRow 45 = .ok (.aload_n 0, 1) := by decide +kernel
theorem dX5_noRow_46 : decode cX5_noRow 46 = .ok (.bipush (-4), 2) := by decide +kernel
theorem dX5_noRow_48 : decode cX5_noRow 48 = .ok (.invokevirtual 103, 3) := by decide +kernel
theorem dX5_noRow_51 : decode cX5_noRow 51 = .ok (.goto 4, 3) := by decide +kernel
theorem dX5_noRow_54 : decode cX5_noRow 54 = .ok (.iconst 0, 1) := by decide +kernel
theorem dX5_noRow_55 : decode cX5_noRow 55 = .ok (.ireturn, 1) := by decide +kernel
theorem dX5_set_0 : decode cX5_set 0 = .ok (.aload_n 0, 1) := by decide +kernel
theorem dX5_set_1 : decode cX5_set 1 = .ok (.iload_n 1, 1) := by decide +kernel
theorem dX5_set_2 : decode cX5_set 2 = .ok (.invokevirtual 107, 3) := by decide +kernel
theorem dX5_set_5 : decode cX5_set 5 = .ok (.istore 5, 2) := by decide +kernel
theorem dX5_set_7 : decode cX5_set 7 = .ok (.iload 5, 2) := by decide +kernel
theorem dX5_set_9 : decode cX5_set 9 = .ok (.ifCond .eq 6, 3) := by decide +kernel
theorem dX5_set_12 : decode cX5_set 12 = .ok (.iload 5, 2) := by decide +kernel
theorem dX5_set_14 : decode cX5_set 14 = .ok (.ireturn, 1) := by decide +kernel
theorem dX5_set_15 : decode cX5_set 15 = .ok (.iload_n 2, 1) := by decide +kernel
theorem dX5_set_16 : decode cX5_set 16 = .ok (.i2l, 1) := by decide +kernel
theorem dX5_set_17 : decode cX5_set 17 = .ok (.lconst 0, 1) := by decide +kernel
theorem dX5_set_18 : decode cX5_set 18 = .ok (.aload_n 0, 1) := by decide +kernel
theorem dX5_set_19 : decode cX5_set 19 = .ok (.getfield 16, 3) := by decide +kernel
theorem dX5_set_22 : decode cX5_set 22 = .ok (.iload_n 1, 1) := by decide +kernel
theorem dX5_set_23 : decode cX5_set 23 = .ok (.iaload, 1) := by decide +kernel
theorem dX5_set_24 : decode cX5_set 24 = .ok (.iconst 1, 1) := by decide +kernel
theorem dX5_set_25 : decode cX5_set 25 = .ok (.isub, 1) := by decide +kernel
theorem dX5_set_26 : decode cX5_set 26 = .ok (.i2l, 1) := by decide +kernel
theorem dX5_set_27 : decode cX5_set 27 = .ok (.invokestatic 95, 3) := by decide +kernel
theorem dX5_set_30 : decode cX5_set 30 = .ok (.ifCond .ne 10, 3) := by decide +kernel
theorem dX5_set_33 : decode cX5_set 33 = .ok (.aload_n 0, 1) := by decide +kernel
theorem dX5_set_34 : decode cX5_set 34 = .ok (.bipush (-2), 2) := by decide +kernel
theorem dX5_set_36 : decode cX5_set 36 = .ok (.invokevirtual 103, 3) := by decide +kernel
theorem dX5_set_39 : decode cX5_set 39 = .ok (.ireturn, 1) := by decide +kernel
theorem dX5_set_40 : decode cX5_set 40 = .ok (.aload_n 0, 1) := by decide +kernel
theorem dX5_set_41 : decode cX5_set 41 = .ok (.getfield 21, 3) := by decide +kernel
theorem dX5_set_44 : decode cX5_set 44 = .ok (.iload_n 1, 1) := by decide +kernel
theorem dX5_set_45 : decode cX5_set 45 = .ok (.aaload, 1) := by decide +kernel
theorem dX5_set_46 : decode cX5_set 46 = .ok (.iload_n 2, 1) := by decide +kernel
theorem dX5_set_47 : decode cX5_set 47 = .ok (.aload_n 0, 1) := by decide +kernel
theorem dX5_set_48 : decode cX5_set 48 = .ok (.getfield 13, 3) := by decide +kernel
theorem dX5_set_51 : decode cX5_set 51 = .ok (.iload_n 1, 1) := by decide +kernel
theorem dX5_set_52 : decode cX5_set 52 = .ok (.iaload, 1) := by decide +kernel
theorem dX5_set_53 : decode cX5_set 53 = .ok (.lload_n 3, 1) := by decide +kernel
theorem dX5_set_54 : decode cX5_set 54 = .ok (.invokestatic 110, 3) := by decide +kernel
theorem dX5_set_57 : decode cX5_set 57 = .ok (.lastore, 1) := by decide +kernel
theorem dX5_set_58 : decode cX5_set 58 = .ok (.iconst 1, 1) := by decide +kernel
theorem dX5_set_59 : decode cX5_set 59 = .ok (.ireturn, 1) := by decide +kernel
theorem dX5_noRows_0 : decode cX5_noRows 0 = .ok (.iload_n 1, 1) := by decide +kernel
theorem dX5_noRows_1 : decode cX5_noRows 1 = .ok (.i2l, 1) := by decide +kernel
theorem dX5_noRows_2 : decode cX5_noRows 2 = .ok (.lconst 0, 1) := by decide +kernel
theorem dX5_noRows_3 : decode cX5_noRows 3 = .ok (.ldc2_w 93, 3) := by decide +kernel
theorem dX5_noRows_6 : decode cX5_noRows 6 = .ok (.invokestatic 95, 3) := by decide +kernel
theorem dX5_noRows_9 : decode cX5_noRows 9 = .ok (.ifCond .eq 15, 3) := by decide +kernel
theorem dX5_noRows_12 : decode cX5_noRows 12 = .ok (.iload_n 2, 1) := by decide +kernel
theorem dX5_noRows_13 : decode cX5_noRows 13 = .ok (.i2l, 1) := by decide +kernel
theorem dX5_noRows_14 : decode cX5_noRows 14 = .ok (.lconst 0, 1) := by decide +kernel
theorem dX5_noRows_15 : decode cX5_noRows 15 = .ok (.ldc2_w 93, 3) := by decide +kernel
theorem dX5_noRows_18 : decode cX5_noRows 18 = .ok (.invokestatic 95, 3) := by decide +kernel
theorem dX5_noRows_21 : decode cX5_noRows 21 = .ok (.ifCond .ne 10, 3) := by decide +kernel
theorem dX5_noRows_24 : decode cX5_noRows 24 = .ok (.aload_n 0, 1) := by decide +kernel
theorem dX5_noRows_25 : decode cX5_noRows 25 = .ok (.bipush (-2), 2) := by decide +kernel
theorem dX5_noRows_27 : decode cX5_noRows 27 = .ok (.invokevirtual 103, 3) := by decide +kernel
theorem dX5_noRows_30 : decode cX5_noRows 30 = .ok (.ireturn, 1) := by decide +kernel
theorem dX5_noRows_31 : decode cX5_noRows 31 = .ok (.aload_n 0, 1) := by decide +kernel
theorem dX5_noRows_32 : decode cX5_noRows 32 = .ok (.getfield 7, 3) := by decide +kernel
theorem dX5_noRows_35 : decode cX5_noRows 35 = .ok (.iload_n 1, 1) := by decide +kernel
theorem dX5_noRows_36 : decode cX5_noRows 36 = .ok (.iaload, 1) := by decide +kernel
theorem dX5_noRows_37 : decode cX5_noRows 37 = .ok (.iconst 2, 1) := by decide +kernel
theorem dX5_noRows_38 : decode cX5_noRows 38 = .ok (.if_icmp .eq 52, 3) := by decide +kernel
theorem dX5_noRows_41 : decode cX5_noRows 41 = .ok (.aload_n 0, 1) := by decide +kernel
theorem dX5_noRows_42 : decode cX5_noRows 42 = .ok (.getfield 7, 3) := by decide +kernel
theorem dX5_noRows_45 : decode cX5_noRows 45 = .ok (.iload_n 2, 1) := by decide +kernel
theorem dX5_noRows_46 : decode cX5_noRows 46 = .ok (.iaload, 1) := by decide +kernel
theorem dX5_noRows_47 : decode cX5_noRows 47 = .ok (.iconst 2, 1) := by decide +kernel
theorem dX5_noRows_48 : decode cX5_noRows 48 = .ok (.if_icmp .eq 42, 3) := by decide +kernel
theorem dX5_noRows_51 : decode cX5_noRows 51 = .ok (.iload_n 3, 1) := by decide +kernel
theorem dX5_noRows_52 : decode cX5_noRows 52 = .ok (.ifCond .eq 45, 3) := by decide +kernel
theorem dX5_noRows_55 : decode cX5_noRows 55 = .ok (.aload_n 0, 1) := by decide +kernel
theorem dX5_noRows_56 : decode cX5_noRows 56 = .ok (.getfield 7, 3) := by decide +kernel
theorem dX5_noRows_59 : decode cX5_noRows 59 = .ok (.iload_n 1, 1) := by decide +kernel
theorem dX5_noRows_60 : decode cX5_noRows 60 = .ok (.iaload, 1) := by decide +kernel
theorem dX5_noRows_61 : decode cX5_noRows 61 = .ok (.iconst 1, 1) := by decide +kernel
theorem dX5_noRows_62 : decode cX5_noRows 62 = .ok (.if_icmp .ne 35, 3) := by decide +kernel
theorem dX5_noRows_65 : decode cX5_noRows 65 = .ok (.aload_n 0, 1) := by decide +kernel
theorem dX5_noRows_66 : decode cX5_noRows 66 = .ok (.getfield 7, 3) := by decide +kernel
theorem dX5_noRows_69 : decode cX5_noRows 69 = .ok (.iload_n 2, 1) := by decide +kernel
theorem dX5_noRows_70 : decode cX5_noRows 70 = .ok (.iaload, 1) := by decide +kernel
theorem dX5_noRows_71 : decode cX5_noRows 71 = .ok (.iconst 1, 1) := by decide +kernel
theorem dX5_noRows_72 : decode cX5_noRows 72 = .ok (.if_icmp .ne 25, 3) := by decide +kernel
theorem dX5_noRows_75 : decode cX5_noRows 75 = .ok (.aload_n 0, 1) := by decide +kernel
theorem dX5_noRows_76 : decode cX5_noRows 76 = .ok (.getfield 13, 3) := by decide +kernel
theorem dX5_noRows_79 : decode cX5_noRows 79 = .ok (.iload_n 1, 1) := by decide +kernel
theorem dX5_noRows_80 : decode cX5_noRows 80 = .ok (.iaload, 1) := by decide +kernel
theorem dX5_noRows_81 : decode cX5_noRows 81 = .ok (.aload_n 0, 1) := by decide +kernel
theorem dX5_noRows_82 : decode cX5_noRows 82 = .ok (.getfield 13, 3) := by decide +kernel
theorem dX5_noRows_85 : decode cX5_noRows 85 = .ok (.iload_n 2, 1) := by decide +kernel
theorem dX5_noRows_86 : decode cX5_noRows 86 = .ok (.iaload, 1) := by decide +kernel
theorem dX5_noRows_87 : decode cX5_noRows 87 = .ok (.if_icmp .eq 10, 3) := by decide +kernel
theorem dX5_noRows_90 : decode cX5_noRows 90 = .ok (.aload_n 0, 1) := by decide +kernel
theorem dX5_noRows_91 : decode cX5_noRows 91 = .ok (.bipush (-3), 2) := by decide +kernel
theorem dX5_noRows_93 : decode cX5_noRows 93 = .ok (.invokevirtual 103, 3) := by decide +kernel
theorem dX5_noRows_96 : decode cX5_noRows 96 = .ok (.ireturn, 1) := by decide +kernel
theorem dX5_noRows_97 : decode cX5_noRows 97 = .ok (.aload_n 0, 1) := by decide +kernel
theorem dX5_noRows_98 : decode cX5_noRows 98 = .ok (.getfield 7, 3) := by decide +kernel
theorem dX5_noRows_101 : decode cX5_noRows 101 = .ok (.iload_n 1, 1) := by decide +kernel
theorem dX5_noRows_102 : decode cX5_noRows 102 = .ok (.iaload, 1) := by decide +kernel
theorem dX5_noRows_103 : decode cX5_noRows 103 = .ok (.ifCond .eq 12, 3) := by decide +kernel
theorem dX5_noRows_106 : decode cX5_noRows 106 = .ok (.aload_n 0, 1) := by decide +kernel
theorem dX5_noRows_107 : decode cX5_noRows 107 = .ok (.getfield 7, 3) := by decide +kernel
theorem dX5_noRows_110 : decode cX5_noRows 110 = .ok (.iload_n 2, 1) := by decide +kernel
theorem dX5_noRows_111 : decode cX5_noRows 111 = .ok (.iaload, 1) := by decide +kernel
theorem dX5_noRows_112 : decode cX5_noRows 112 = .ok (.ifCond .ne 12, 3) := by decide +kernel
theorem dX5_noRows_115 : decode cX5_noRows 115 = .ok (.aload_n 0, 1) := by decide +kernel
theorem dX5_noRows_116 : decode cX5_noRows 116 = .ok (.bipush (-4), 2) := by decide +kernel
theorem dX5_noRows_118 : decode cX5_noRows 118 = .ok (.invokevirtual 103, 3) := by decide +kernel
theorem dX5_noRows_121 : decode cX5_noRows 121 = .ok (.goto 4, 3) := by decide +kernel
theorem dX5_noRows_124 : decode cX5_noRows 124 = .ok (.iconst 0, 1) := by decide +kernel
theorem dX5_noRows_125 : decode cX5_noRows 125 = .ok (.ireturn, 1) := by decide +kernel
theorem dX5_copy_0 : decode cX5_copy 0 = .ok (.aload_n 0, 1) := by decide +kernel
theorem dX5_copy_1 : decode cX5_copy 1 = .ok (.iload_n 1, 1) := by decide +kernel
theorem dX5_copy_2 : decode cX5_copy 2 = .ok (.iload_n 2, 1) := by decide +kernel
theorem dX5_copy_3 : decode cX5_copy 3 = .ok (.iconst 1, 1) := by decide +kernel
theorem dX5_copy_4 : decode cX5_copy 4 = .ok (.invokevirtual 114, 3) := by decide +kernel
theorem dX5_copy_7 : decode cX5_copy 7 = .ok (.istore 6, 2) := by decide +kernel
theorem dX5_copy_9 : decode cX5_copy 9 = .ok (.iload 6, 2) := by decide +kernel
theorem dX5_copy_11 : decode cX5_copy 11 = .ok (.ifCond .eq 6, 3) := by decide +kernel
theorem dX5_copy_14 : decode cX5_copy 14 = .ok (.iload 6, 2) := by decide +kernel
theorem dX5_copy_16 : decode cX5_copy 16 = .ok (.ireturn, 1) := by decide +kernel
theorem dX5_copy_17 : decode cX5_copy 17 = .ok (.iload 5, 2) := by decide +kernel
theorem dX5_copy_19 : decode cX5_copy 19 = .ok (.ifCond .lt 61, 3) := by decide +kernel
theorem dX5_copy_22 : decode cX5_copy 22 = .ok (.iload_n 3, 1) := by decide +kernel
theorem dX5_copy_23 : decode cX5_copy 23 = .ok (.ifCond .lt 57, 3) := by decide +kernel
theorem dX5_copy_26 : decode cX5_copy 26 = .ok (.iload 4, 2) := by decide +kernel
theorem dX5_copy_28 : decode cX5_copy 28 = .ok (.ifCond .lt 52, 3) := by decide +kernel
theorem dX5_copy_31 : decode cX5_copy 31 = .ok (.iload 5, 2) := by decide +kernel
theorem dX5_copy_33 : decode cX5_copy 33 = .ok (.aload_n 0, 1) := by decide +kernel
theorem dX5_copy_34 : decode cX5_copy 34 = .ok (.getfield 16, 3) := by decide +kernel
theorem dX5_copy_37 : decode cX5_copy 37 = .ok (.iload_n 1, 1) := by decide +kernel
theorem dX5_copy_38 : decode cX5_copy 38 = .ok (.iaload, 1) := by decide +kernel
theorem dX5_copy_39 : decode cX5_copy 39 = .ok (.if_icmp .gt 41, 3) := by decide +kernel
theorem dX5_copy_42 : decode cX5_copy 42 = .ok (.iload 5, 2) := by decide +kernel
theorem dX5_copy_44 : decode cX5_copy 44 = .ok (.aload_n 0, 1) := by decide +kernel
theorem dX5_copy_45 : decode cX5_copy 45 = .ok (.getfield 16, 3) := by decide +kernel
theorem dX5_copy_48 : decode cX5_copy 48 = .ok (.iload_n 2, 1) := by decide +kernel
theorem dX5_copy_49 : decode cX5_copy 49 = .ok (.iaload, 1) := by decide +kernel
theorem dX5_copy_50 : decode cX5_copy 50 = .ok (.if_icmp .gt 30, 3) := by decide +kernel
theorem dX5_copy_53 : decode cX5_copy 53 = .ok (.iload_n 3, 1) := by decide +kernel
theorem dX5_copy_54 : decode cX5_copy 54 = .ok (.aload_n 0, 1) := by decide +kernel
theorem dX5_copy_55 : decode cX5_copy 55 = .ok (.getfield 16, 3) := by decide +kernel
theorem dX5_copy_58 : decode cX5_copy 58 = .ok (.iload_n 1, 1) := by decide +kernel
theorem dX5_copy_59 : decode cX5_copy 59 = .ok (.iaload, 1) := by decide +kernel
theorem dX5_copy_60 : decode cX5_copy 60 = .ok (.iload 5, 2) := by decide +kernel
theorem dX5_copy_62 : decode cX5_copy 62 = .ok (.isub, 1) := by decide +kernel
theorem dX5_copy_63 : decode cX5_copy 63 = .ok (.if_icmp .gt 17, 3) := by decide +kernel
theorem dX5_copy_66 : decode cX5_copy 66 = .ok (.iload 4, 2) := by decide +kernel
theorem dX5_copy_68 : decode cX5_copy 68 = .ok (.aload_n 0, 1) := by decide +kernel
theorem dX5_copy_69 : decode cX5_copy 69 = .ok (.getfield 16, 3) := by decide +kernel
theorem dX5_copy_72 : decode cX5_copy 72 = .ok (.iload_n 2, 1) := by decide +kernel
theorem dX5_copy_73 : decode cX5_copy 73 = .ok (.iaload, 1) := by decide +kernel
theorem dX5_copy_74 : decode cX5_copy 74 = .ok (.iload 5, 2) := by decide +kernel
theorem dX5_copy_76 : decode cX5_copy 76 = .ok (.isub, 1) := by decide +kernel
theorem dX5_copy_77 : decode cX5_copy 77 = .ok (.if_icmp .le 10, 3) := by decide +kernel
theorem dX5_copy_80 : decode cX5_copy 80 = .ok (.aload_n 0, 1) := by decide +kernel
theorem dX5_copy_81 : decode cX5_copy 81 = .ok (.bipush (-2), 2) := by decide +kernel
theorem dX5_copy_83 : decode cX5_copy 83 = .ok (.invokevirtual 103, 3) := by decide +kernel
theorem dX5_copy_86 : decode cX5_copy 86 = .ok (.ireturn, 1) := by decide +kernel
theorem dX5_copy_87 : decode cX5_copy 87 = .ok (.iconst 0, 1) := by decide +kernel
theorem dX5_copy_88 : decode cX5_copy 88 = .ok (.istore 7, 2) := by decide +kernel
theorem dX5_copy_90 : decode cX5_copy 90 = .ok (.iload 7, 2) := by decide +kernel
theorem dX5_copy_92 : decode cX5_copy 92 = .ok (.iload 5, 2) := by decide +kernel
theorem dX5_copy_94 : decode cX5_copy 94 = .ok (.if_icmp .ge 27, 3) := by decide +kernel
theorem dX5_copy_97 : decode cX5_copy 97 = .ok (.aload_n 0, 1) := by decide +kernel
theorem dX5_copy_98 : decode cX5_copy 98 = .ok (.getfield 24, 3) := by decide +kernel
theorem dX5_copy_101 : decode cX5_copy 101 = .ok (.iload 7, 2) := by decide +kernel
theorem dX5_copy_103 : decode cX5_copy 103 = .ok (.aload_n 0, 1) := by decide +kernel
theorem dX5_copy_104 : decode cX5_copy 104 = .ok (.getfield 21, 3) := by decide +kernel
theorem dX5_copy_107 : decode cX5_copy 107 = .ok (.iload_n 1, 1) := by decide +kernel
theorem dX5_copy_108 : decode cX5_copy 108 = .ok (.aaload, 1) := by decide +kernel
theorem dX5_copy_109 : decode cX5_copy 109 = .ok (.iload_n 3, 1) := by decide +kernel
theorem dX5_copy_110 : decode cX5_copy 110 = .ok (.iload 7, 2) := by decide +kernel
theorem dX5_copy_112 : decode cX5_copy 112 = .ok (.iadd, 1) := by decide +kernel
theorem dX5_copy_113 : decode cX5_copy 113 = .ok (.laload, 1) := by decide +kernel
theorem dX5_copy_114 : decode cX5_copy 114 = .ok (.lastore, 1) := by decide +kernel
theorem dX5_copy_115 : decode cX5_copy 115 = .ok (.iinc 7 1, 3) := by decide +kernel
theorem dX5_copy_118 : decode cX5_copy 118 = .ok (.goto (-28), 3) := by decide +kernel
theorem dX5_copy_121 : decode cX5_copy 121 = .ok (.iconst 0, 1) := by decide +kernel
theorem dX5_copy_122 : decode cX5_copy 122 = .ok (.istore 7, 2) := by decide +kernel
theorem dX5_copy_124 : decode cX5_copy 124 = .ok (.iload 7, 2) := by decide +kernel
theorem dX5_copy_126 : decode cX5_copy 126 = .ok (.iload 5, 2) := by decide +kernel
theorem dX5_copy_128 : decode cX5_copy 128 = .ok (.if_icmp .ge 28, 3) := by decide +kernel
theorem dX5_copy_131 : decode cX5_copy 131 = .ok (.aload_n 0, 1) := by decide +kernel
theorem dX5_copy_132 : decode cX5_copy 132 = .ok (.getfield 21, 3) := by decide +kernel
theorem dX5_copy_135 : decode cX5_copy 135 = .ok (.iload_n 2, 1) := by decide +kernel
theorem dX5_copy_136 : decode cX5_copy 136 = .ok (.aaload, 1) := by decide +kernel
theorem dX5_copy_137 : decode cX5_copy 137 = .ok (.iload 4, 2) := by decide +kernel
theorem dX5_copy_139 : decode cX5_copy 139 = .ok (.iload 7, 2) := by decide +kernel
theorem dX5_copy_141 : decode cX5_copy 141 = .ok (.iadd, 1) := by decide +kernel
theorem dX5_copy_142 : decode cX5_copy 142 = .ok (.aload_n 0, 1) := by decide +kernel
theorem dX5_copy_143 : decode cX5_copy 143 = .ok (.getfield 24, 3) := by decide +kernel
theorem dX5_copy_146 : decode cX5_copy 146 = .ok (.iload 7, 2) := by decide +kernel
theorem dX5_copy_148 : decode cX5_copy 148 = .ok (.laload, 1) := by decide +kernel
theorem dX5_copy_149 : decode cX5_copy 149 = .ok (.lastore, 1) := by decide +kernel
theorem dX5_copy_150 : decode cX5_copy 150 = .ok (.iinc 7 1, 3) := by decide +kernel
theorem dX5_copy_153 : decode cX5_copy 153 = .ok (.goto (-29), 3) := by decide +kernel
theorem dX5_copy_156 : decode cX5_copy 156 = .ok (.iload 5, 2) := by decide +kernel
theorem dX5_copy_158 : decode cX5_copy 158 = .ok (.ireturn, 1) := by decide +kernel
theorem dX5_element_0 : decode cX5_element 0 = .ok (.iload_n 1, 1) := by decide +kernel
theorem dX5_element_1 : decode cX5_element 1 = .ok (.i2l, 1) := by decide +kernel
theorem dX5_element_2 : decode cX5_element 2 = .ok (.lconst 0, 1) := by decide +kernel
theorem dX5_element_3 : decode cX5_element 3 = .ok (.ldc2_w 93, 3) := by decide +kernel
theorem dX5_element_6 : decode cX5_element 6 = .ok (.invokestatic 95, 3) := by decide +kernel
theorem dX5_element_9 : decode cX5_element 9 = .ok (.ifCond .eq 42, 3) := by decide +kernel
theorem dX5_element_12 : decode cX5_element 12 = .ok (.aload_n 0, 1) := by decide +kernel
theorem dX5_element_13 : decode cX5_element 13 = .ok (.getfield 7, 3) := by decide +kernel
theorem dX5_element_16 : decode cX5_element 16 = .ok (.iload_n 1, 1) := by decide +kernel
theorem dX5_element_17 : decode cX5_element 17 = .ok (.iaload, 1) := by decide +kernel
theorem dX5_element_18 : decode cX5_element 18 = .ok (.iconst 1, 1) := by decide +kernel
theorem dX5_element_19 : decode cX5_element 19 = .ok (.if_icmp .ne 32, 3) := by decide +kernel
theorem dX5_element_22 : decode cX5_element 22 = .ok (.iload_n 2, 1) := by decide +kernel
theorem dX5_element_23 : decode cX5_element 23 = .ok (.i2l, 1) := by decide +kernel
theorem dX5_element_24 : decode cX5_element 24 = .ok (.lconst 0, 1) := by decide +kernel
theorem dX5_element_25 : decode cX5_element 25 = .ok (.aload_n 0, 1) := by decide +kernel
theorem dX5_element_26 : decode cX5_element 26 = .ok (.getfield 16, 3) := by decide +kernel
theorem dX5_element_29 : decode cX5_element 29 = .ok (.iload_n 1, 1) := by decide +kernel
theorem dX5_element_30 : decode cX5_element 30 = .ok (.iaload, 1) := by decide +kernel
theorem dX5_element_31 : decode cX5_element 31 = .ok (.iconst 1, 1) := by decide +kernel
theorem dX5_element_32 : decode cX5_element 32 = .ok (.isub, 1) := by decide +kernel
theorem dX5_element_33 : decode cX5_element 33 = .ok (.i2l, 1) := by decide +kernel
theorem dX5_element_34 : decode cX5_element 34 = .ok (.invokestatic 95, 3) := by decide +kernel
theorem dX5_element_37 : decode cX5_element 37 = .ok (.ifCond .eq 14, 3) := by decide +kernel
theorem dX5_element_40 : decode cX5_element 40 = .ok (.aload_n 0, 1) := by decide +kernel
theorem dX5_element_41 : decode cX5_element 41 = .ok (.getfield 21, 3) := by decide +kernel
theorem dX5_element_44 : decode cX5_element 44 = .ok (.iload_n 1, 1) := by decide +kernel
theorem dX5_element_45 : decode cX5_element 45 = .ok (.aaload, 1) := by decide +kernel
theorem dX5_element_46 : decode cX5_element 46 = .ok (.iload_n 2, 1) := by decide +kernel
theorem dX5_element_47 : decode cX5_element 47 = .ok (.laload, 1) := by decide +kernel
theorem dX5_element_48 : decode cX5_element 48 = .ok (.goto 4, 3) := by decide +kernel
theorem dX5_element_51 : decode cX5_element 51 = .ok (.lconst 0, 1) := by decide +kernel
theorem dX5_element_52 : decode cX5_element 52 = .ok (.lreturn, 1) := by decide +kernel
theorem dX5_holds_0 : decode cX5_holds 0 = .ok (.iload_n 1, 1) := by decide +kernel
theorem dX5_holds_1 : decode cX5_holds 1 = .ok (.i2l, 1) := by decide +kernel
theorem dX5_holds_2 : decode cX5_holds 2 = .ok (.lconst 0, 1) := by decide +kernel
theorem dX5_holds_3 : decode cX5_holds 3 = .ok (.ldc2_w 93, 3) := by decide +kernel
theorem dX5_holds_6 : decode cX5_holds 6 = .ok (.invokestatic 95, 3) := by decide +kernel
theorem dX5_holds_9 : decode cX5_holds 9 = .ok (.ifCond .eq 12, 3) := by decide +kernel
theorem dX5_holds_12 : decode cX5_holds 12 = .ok (.aload_n 0, 1) := by decide +kernel
theorem dX5_holds_13 : decode cX5_holds 13 = .ok (.getfield 7, 3) := by decide +kernel
theorem dX5_holds_16 : decode cX5_holds 16 = .ok (.iload_n 1, 1) := by decide +kernel
theorem dX5_holds_17 : decode cX5_holds 17 = .ok (.iaload, 1) := by decide +kernel
theorem dX5_holds_18 : decode cX5_holds 18 = .ok (.ifCond .ne 5, 3) := by decide +kernel
theorem dX5_holds_21 : decode cX5_holds 21 = .ok (.iconst (-1), 1) := by decide +kernel
theorem dX5_holds_22 : decode cX5_holds 22 = .ok (.ireturn, 1) := by decide +kernel
theorem dX5_holds_23 : decode cX5_holds 23 = .ok (.aload_n 0, 1) := by decide +kernel
theorem dX5_holds_24 : decode cX5_holds 24 = .ok (.getfield 7, 3) := by decide +kernel
theorem dX5_holds_27 : decode cX5_holds 27 = .ok (.iload_n 1, 1) := by decide +kernel
theorem dX5_holds_28 : decode cX5_holds 28 = .ok (.iaload, 1) := by decide +kernel
theorem dX5_holds_29 : decode cX5_holds 29 = .ok (.iconst 1, 1) := by decide +kernel
theorem dX5_holds_30 : decode cX5_holds 30 = .ok (.if_icmp .ne 12, 3) := by decide +kernel
theorem dX5_holds_33 : decode cX5_holds 33 = .ok (.aload_n 0, 1) := by decide +kernel
theorem dX5_holds_34 : decode cX5_holds 34 = .ok (.getfield 13, 3) := by decide +kernel
theorem dX5_holds_37 : decode cX5_holds 37 = .ok (.iload_n 1, 1) := by decide +kernel
theorem dX5_holds_38 : decode cX5_holds 38 = .ok (.iaload, 1) := by decide +kernel
theorem dX5_holds_39 : decode cX5_holds 39 = .ok (.goto 12, 3) := by decide +kernel
theorem dX5_holds_42 : decode cX5_holds 42 = .ok (.bipush 10, 2) := by decide +kernel
theorem dX5_holds_44 : decode cX5_holds 44 = .ok (.aload_n 0, 1) := by decide +kernel
theorem dX5_holds_45 : decode cX5_holds 45 = .ok (.getfield 28, 3) := by decide +kernel
theorem dX5_holds_48 : decode cX5_holds 48 = .ok (.iload_n 1, 1) := by decide +kernel
theorem dX5_holds_49 : decode cX5_holds 49 = .ok (.iaload, 1) := by decide +kernel
theorem dX5_holds_50 : decode cX5_holds 50 = .ok (.iadd, 1) := by decide +kernel
theorem dX5_holds_51 : decode cX5_holds 51 = .ok (.ireturn, 1) := by decide +kernel
theorem dX5_drawing_0 : decode cX5_drawing 0 = .ok (.iload_n 1, 1) := by decide +kernel
theorem dX5_drawing_1 : decode cX5_drawing 1 = .ok (.i2l, 1) := by decide +kernel
theorem dX5_drawing_2 : decode cX5_drawing 2 = .ok (.lconst 0, 1) := by decide +kernel
theorem dX5_drawing_3 : decode cX5_drawing 3 = .ok (.ldc2_w 93, 3) := by decide +kernel
theorem dX5_drawing_6 : decode cX5_drawing 6 = .ok (.invokestatic 95, 3) := by decide +kernel
theorem dX5_drawing_9 : decode cX5_drawing 9 = .ok (.ifCond .eq 27, 3) := by decide +kernel
theorem dX5_drawing_12 : decode cX5_drawing 12 = .ok (.iload_n 2, 1) := by decide +kernel
theorem dX5_drawing_13 : decode cX5_drawing 13 = .ok (.i2l, 1) := by decide +kernel
theorem dX5_drawing_14 : decode cX5_drawing 14 = .ok (.lconst 1, 1) := by decide +kernel
theorem dX5_drawing_15 : decode cX5_drawing 15 = .ok (.ldc2_w 118, 3) := by decide +kernel
theorem dX5_drawing_18 : decode cX5_drawing 18 = .ok (.invokestatic 95, 3) := by decide +kernel
theorem dX5_drawing_21 : decode cX5_drawing 21 = .ok (.ifCond .eq 15, 3) := by decide +kernel
theorem dX5_drawing_24 : decode cX5_drawing 24 = .ok (.iload_n 3, 1) := by decide +kernel
theorem dX5_drawing_25 : decode cX5_drawing 25 = .ok (.i2l, 1) := by decide +kernel
theorem dX5_drawing_26 : decode cX5_drawing 26 = .ok (.lconst 0, 1) := by decide +kernel
theorem dX5_drawing_27 : decode cX5_drawing 27 = .ok (.ldc2_w 120, 3) := by decide +kernel
theorem dX5_drawing_30 : decode cX5_drawing 30 = .ok (.invokestatic 95, 3) := by decide +kernel
theorem dX5_drawing_33 : decode cX5_drawing 33 = .ok (.ifCond .ne 10, 3) := by decide +kernel
theorem dX5_drawing_36 : decode cX5_drawing 36 = .ok (.aload_n 0, 1) := by decide +kernel
theorem dX5_drawing_37 : decode cX5_drawing 37 = .ok (.bipush (-2), 2) := by decide +kernel
theorem dX5_drawing_39 : decode cX5_drawing 39 = .ok (.invokevirtual 103, 3) := by decide +kernel
theorem dX5_drawing_42 : decode cX5_drawing 42 = .ok (.ireturn, 1) := by decide +kernel
theorem dX5_drawing_43 : decode cX5_drawing 43 = .ok (.aload_n 0, 1) := by decide +kernel
theorem dX5_drawing_44 : decode cX5_drawing 44 = .ok (.getfield 7, 3) := by decide +kernel
theorem dX5_drawing_47 : decode cX5_drawing 47 = .ok (.iload_n 1, 1) := by decide +kernel
theorem dX5_drawing_48 : decode cX5_drawing 48 = .ok (.iconst 2, 1) := by decide +kernel
theorem dX5_drawing_49 : decode cX5_drawing 49 = .ok (.iastore, 1) := by decide +kernel
theorem dX5_drawing_50 : decode cX5_drawing 50 = .ok (.aload_n 0, 1) := by decide +kernel
theorem dX5_drawing_51 : decode cX5_drawing 51 = .ok (.getfield 28, 3) := by decide +kernel
theorem dX5_drawing_54 : decode cX5_drawing 54 = .ok (.iload_n 1, 1) := by decide +kernel
theorem dX5_drawing_55 : decode cX5_drawing 55 = .ok (.iload_n 2, 1) := by decide +kernel
theorem dX5_drawing_56 : decode cX5_drawing 56 = .ok (.iastore, 1) := by decide +kernel
theorem dX5_drawing_57 : decode cX5_drawing 57 = .ok (.aload_n 0, 1) := by decide +kernel
theorem dX5_drawing_58 : decode cX5_drawing 58 = .ok (.getfield 31, 3) := by decide +kernel
theorem dX5_drawing_61 : decode cX5_drawing 61 = .ok (.iload_n 1, 1) := by decide +kernel
theorem dX5_drawing_62 : decode cX5_drawing 62 = .ok (.iload_n 3, 1) := by decide +kernel
theorem dX5_drawing_63 : decode cX5_drawing 63 = .ok (.iastore, 1) := by decide +kernel
theorem dX5_drawing_64 : decode cX5_drawing 64 = .ok (.iconst 1, 1) := by decide +kernel
theorem dX5_drawing_65 : decode cX5_drawing 65 = .ok (.ireturn, 1) := by decide +kernel
theorem dX5_isUnder_0 : decode cX5_isUnder 0 = .ok (.iload_n 1, 1) := by decide +kernel
theorem dX5_isUnder_1 : decode cX5_isUnder 1 = .ok (.ifCond .eq 13, 3) := by decide +kernel
theorem dX5_isUnder_4 : decode cX5_isUnder 4 = .ok (.iload_n 0, 1) := by decide +kernel
theorem dX5_isUnder_5 : decode cX5_isUnder 5 = .ok (.iload_n 1, 1) := by decide +kernel
theorem dX5_isUnder_6 : decode cX5_isUnder 6 = .ok (.if_icmp .eq 8, 3) := by decide +kernel
theorem dX5_isUnder_9 : decode cX5_isUnder 9 = .ok (.iload_n 1, 1) := by decide +kernel
theorem dX5_isUnder_10 : decode cX5_isUnder 10 = .ok (.iconst 1, 1) := by decide +kernel
theorem dX5_isUnder_11 : decode cX5_isUnder 11 = .ok (.if_icmp .ne 5, 3) := by decide +kernel
theorem dX5_isUnder_14 : decode cX5_isUnder 14 = .ok (.iconst 1, 1) := by decide +kernel
theorem dX5_isUnder_15 : decode cX5_isUnder 15 = .ok (.ireturn, 1) := by decide +kernel
theorem dX5_isUnder_16 : decode cX5_isUnder 16 = .ok (.iload_n 1, 1) := by decide +kernel
theorem dX5_isUnder_17 : decode cX5_isUnder 17 = .ok (.iconst 2, 1) := by decide +kernel
theorem dX5_isUnder_18 : decode cX5_isUnder 18 = .ok (.if_icmp .ne 22, 3) := by decide +kernel
theorem dX5_isUnder_21 : decode cX5_isUnder 21 = .ok (.iload_n 0, 1) := by decide +kernel
theorem dX5_isUnder_22 : decode cX5_isUnder 22 = .ok (.iconst 3, 1) := by decide +kernel
theorem dX5_isUnder_23 : decode cX5_isUnder 23 = .ok (.if_icmp .eq 13, 3) := by decide +kernel
theorem dX5_isUnder_26 : decode cX5_isUnder 26 = .ok (.iload_n 0, 1) := by decide +kernel
theorem dX5_isUnder_27 : decode cX5_isUnder 27 = .ok (.iconst 4, 1) := by decide +kernel
theorem dX5_isUnder_28 : decode cX5_isUnder 28 = .ok (.if_icmp .eq 8, 3) := by decide +kernel
theorem dX5_isUnder_31 : decode cX5_isUnder 31 = .ok (.iload_n 0, 1) := by decide +kernel
theorem dX5_isUnder_32 : decode cX5_isUnder 32 = .ok (.iconst 5, 1) := by decide +kernel
theorem dX5_isUnder_33 : decode cX5_isUnder 33 = .ok (.if_icmp .ne 7, 3) := by decide +kernel
theorem dX5_isUnder_36 : decode cX5_isUnder 36 = .ok (.iconst 1, 1) := by decide +kernel
theorem dX5_isUnder_37 : decode cX5_isUnder 37 = .ok (.goto 4, 3) := by decide +kernel
theorem dX5_isUnder_40 : decode cX5_isUnder 40 = .ok (.iconst 0, 1) := by decide +kernel
theorem dX5_isUnder_41 : decode cX5_isUnder 41 = .ok (.ireturn, 1) := by decide +kernel
theorem dX5_says_0 : decode cX5_says 0 = .ok (.iload_n 1, 1) := by decide +kernel
theorem dX5_says_1 : decode cX5_says 1 = .ok (.i2l, 1) := by decide +kernel
theorem dX5_says_2 : decode cX5_says 2 = .ok (.lconst 0, 1) := by decide +kernel
theorem dX5_says_3 : decode cX5_says 3 = .ok (.ldc2_w 93, 3) := by decide +kernel
theorem dX5_says_6 : decode cX5_says 6 = .ok (.invokestatic 95, 3) := by decide +kernel
theorem dX5_says_9 : decode cX5_says 9 = .ok (.ifCond .eq 15, 3) := by decide +kernel
theorem dX5_says_12 : decode cX5_says 12 = .ok (.iload_n 2, 1) := by decide +kernel
theorem dX5_says_13 : decode cX5_says 13 = .ok (.i2l, 1) := by decide +kernel
theorem dX5_says_14 : decode cX5_says 14 = .ok (.lconst 0, 1) := by decide +kernel
theorem dX5_says_15 : decode cX5_says 15 = .ok (.ldc2_w 118, 3) := by decide +kernel
theorem dX5_says_18 : decode cX5_says 18 = .ok (.invokestatic 95, 3) := by decide +kernel
theorem dX5_says_21 : decode cX5_says 21 = .ok (.ifCond .ne 10, 3) := by decide +kernel
theorem dX5_says_24 : decode cX5_says 24 = .ok (.aload_n 0, 1) := by decide +kernel
theorem dX5_says_25 : decode cX5_says 25 = .ok (.bipush (-2), 2) := by decide +kernel
theorem dX5_says_27 : decode cX5_says 27 = .ok (.invokevirtual 103, 3) := by decide +kernel
theorem dX5_says_30 : decode cX5_says 30 = .ok (.ireturn, 1) := by decide +kernel
theorem dX5_says_31 : decode cX5_says 31 = .ok (.aload_n 0, 1) := by decide +kernel
theorem dX5_says_32 : decode cX5_says 32 = .ok (.getfield 7, 3) := by decide +kernel
theorem dX5_says_35 : decode cX5_says 35 = .ok (.iload_n 1, 1) := by decide +kernel
theorem dX5_says_36 : decode cX5_says 36 = .ok (.iaload, 1) := by decide +kernel
theorem dX5_says_37 : decode cX5_says 37 = .ok (.iconst 1, 1) := by decide +kernel
theorem dX5_says_38 : decode cX5_says 38 = .ok (.if_icmp .eq 26, 3) := by decide +kernel
theorem dX5_says_41 : decode cX5_says 41 = .ok (.aload_n 0, 1) := by decide +kernel
theorem dX5_says_42 : decode cX5_says 42 = .ok (.getfield 7, 3) := by decide +kernel
theorem dX5_says_45 : decode cX5_says 45 = .ok (.iload_n 1, 1) := by decide +kernel
theorem dX5_says_46 : decode cX5_says 46 = .ok (.iaload, 1) := by decide +kernel
theorem dX5_says_47 : decode cX5_says 47 = .ok (.iconst 2, 1) := by decide +kernel
theorem dX5_says_48 : decode cX5_says 48 = .ok (.if_icmp .ne 23, 3) := by decide +kernel
theorem dX5_says_51 : decode cX5_says 51 = .ok (.aload_n 0, 1) := by decide +kernel
theorem dX5_says_52 : decode cX5_says 52 = .ok (.getfield 28, 3) := by decide +kernel
theorem dX5_says_55 : decode cX5_says 55 = .ok (.iload_n 1, 1) := by decide +kernel
theorem dX5_says_56 : decode cX5_says 56 = .ok (.iaload, 1) := by decide +kernel
theorem dX5_says_57 : decode cX5_says 57 = .ok (.iload_n 2, 1) := by decide +kernel
theorem dX5_says_58 : decode cX5_says 58 = .ok (.invokestatic 122, 3) := by decide +kernel
theorem dX5_says_61 : decode cX5_says 61 = .ok (.ifCond .ne 10, 3) := by decide +kernel
theorem dX5_says_64 : decode cX5_says 64 = .ok (.aload_n 0, 1) := by decide +kernel
theorem dX5_says_65 : decode cX5_says 65 = .ok (.bipush (-3), 2) := by decide +kernel
theorem dX5_says_67 : decode cX5_says 67 = .ok (.invokevirtual 103, 3) := by decide +kernel
theorem dX5_says_70 : decode cX5_says 70 = .ok (.ireturn, 1) := by decide +kernel
theorem dX5_says_71 : decode cX5_says 71 = .ok (.aload_n 0, 1) := by decide +kernel
theorem dX5_says_72 : decode cX5_says 72 = .ok (.getfield 7, 3) := by decide +kernel
theorem dX5_says_75 : decode cX5_says 75 = .ok (.iload_n 1, 1) := by decide +kernel
theorem dX5_says_76 : decode cX5_says 76 = .ok (.iaload, 1) := by decide +kernel
theorem dX5_says_77 : decode cX5_says 77 = .ok (.ifCond .ne 10, 3) := by decide +kernel
theorem dX5_says_80 : decode cX5_says 80 = .ok (.aload_n 0, 1) := by decide +kernel
theorem dX5_says_81 : decode cX5_says 81 = .ok (.bipush (-4), 2) := by decide +kernel
theorem dX5_says_83 : decode cX5_says 83 = .ok (.invokevirtual 103, 3) := by decide +kernel
theorem dX5_says_86 : decode cX5_says 86 = .ok (.ireturn, 1) := by decide +kernel
theorem dX5_says_87 : decode cX5_says 87 = .ok (.iload_n 2, 1) := by decide +kernel
theorem dX5_says_88 : decode cX5_says 88 = .ok (.ifCond .ne 12, 3) := by decide +kernel
theorem dX5_says_91 : decode cX5_says 91 = .ok (.aload_n 0, 1) := by decide +kernel
theorem dX5_says_92 : decode cX5_says 92 = .ok (.getfield 31, 3) := by decide +kernel
theorem dX5_says_95 : decode cX5_says 95 = .ok (.iload_n 1, 1) := by decide +kernel
theorem dX5_says_96 : decode cX5_says 96 = .ok (.iaload, 1) := by decide +kernel
theorem dX5_says_97 : decode cX5_says 97 = .ok (.goto 20, 3) := by decide +kernel
theorem dX5_says_100 : decode cX5_says 100 = .ok (.aload_n 0, 1) := by decide +kernel
theorem dX5_says_101 : decode cX5_says 101 = .ok (.aload_n 0, 1) := by decide +kernel
theorem dX5_says_102 : decode cX5_says 102 = .ok (.getfield 28, 3) := by decide +kernel
theorem dX5_says_105 : decode cX5_says 105 = .ok (.iload_n 1, 1) := by decide +kernel
theorem dX5_says_106 : decode cX5_says 106 = .ok (.iaload, 1) := by decide +kernel
theorem dX5_says_107 : decode cX5_says 107 = .ok (.aload_n 0, 1) := by decide +kernel
theorem dX5_says_108 : decode cX5_says 108 = .ok (.getfield 31, 3) := by decide +kernel
theorem dX5_says_111 : decode cX5_says 111 = .ok (.iload_n 1, 1) := by decide +kernel
theorem dX5_says_112 : decode cX5_says 112 = .ok (.iaload, 1) := by decide +kernel
theorem dX5_says_113 : decode cX5_says 113 = .ok (.invokevirtual 126, 3) := by decide +kernel
theorem dX5_says_116 : decode cX5_says 116 = .ok (.l2i, 1) := by decide +kernel
theorem dX5_says_117 : decode cX5_says 117 = .ok (.ireturn, 1) := by decide +kernel
theorem dX5_allA_0 : decode cX5_allA 0 = .ok (.iconst 0, 1) := by decide +kernel
theorem dX5_allA_1 : decode cX5_allA 1 = .ok (.istore_n 1, 1) := by decide +kernel
theorem dX5_allA_2 : decode cX5_allA 2 = .ok (.iconst 0, 1) := by decide +kernel
theorem dX5_allA_3 : decode cX5_allA 3 = .ok (.istore_n 2, 1) := by decide +kernel
theorem dX5_allA_4 : decode cX5_allA 4 = .ok (.iload_n 2, 1) := by decide +kernel
theorem dX5_allA_5 : decode cX5_allA 5 = .ok (.aload_n 0, 1) := by decide +kernel
theorem dX5_allA_6 : decode cX5_allA 6 = .ok (.getfield 130, 3) := by decide +kernel
theorem dX5_allA_9 : decode cX5_allA 9 = .ok (.if_icmp .ge 18, 3) := by decide +kernel
theorem dX5_allA_12 : decode cX5_allA 12 = .ok (.iload_n 1, 1) := by decide +kernel
theorem dX5_allA_13 : decode cX5_allA 13 = .ok (.aload_n 0, 1) := by decide +kernel
theorem dX5_allA_14 : decode cX5_allA 14 = .ok (.getfield 40, 3) := by decide +kernel
theorem dX5_allA_17 : decode cX5_allA 17 = .ok (.iload_n 2, 1) := by decide +kernel
theorem dX5_allA_18 : decode cX5_allA 18 = .ok (.iaload, 1) := by decide +kernel
theorem dX5_allA_19 : decode cX5_allA 19 = .ok (.iadd, 1) := by decide +kernel
theorem dX5_allA_20 : decode cX5_allA 20 = .ok (.istore_n 1, 1) := by decide +kernel
theorem dX5_allA_21 : decode cX5_allA 21 = .ok (.iinc 2 1, 3) := by decide +kernel
theorem dX5_allA_24 : decode cX5_allA 24 = .ok (.goto (-20), 3) := by decide +kernel
theorem dX5_allA_27 : decode cX5_allA 27 = .ok (.iload_n 1, 1) := by decide +kernel
theorem dX5_allA_28 : decode cX5_allA 28 = .ok (.ireturn, 1) := by decide +kernel
theorem dX5_all_0 : decode cX5_all 0 = .ok (.aload_n 0, 1) := by decide +kernel
theorem dX5_all_1 : decode cX5_all 1 = .ok (.invokevirtual 133, 3) := by decide +kernel
theorem dX5_all_4 : decode cX5_all 4 = .ok (.istore_n 1, 1) := by decide +kernel
theorem dX5_all_5 : decode cX5_all 5 = .ok (.iconst 0, 1) := by decide +kernel
theorem dX5_all_6 : decode cX5_all 6 = .ok (.istore_n 2, 1) := by decide +kernel
theorem dX5_all_7 : decode cX5_all 7 = .ok (.iload_n 2, 1) := by decide +kernel
theorem dX5_all_8 : decode cX5_all 8 = .ok (.aload_n 0, 1) := by decide +kernel
theorem dX5_all_9 : decode cX5_all 9 = .ok (.getfield 130, 3) := by decide +kernel
theorem dX5_all_12 : decode cX5_all 12 = .ok (.if_icmp .ge 18, 3) := by decide +kernel
theorem dX5_all_15 : decode cX5_all 15 = .ok (.iload_n 1, 1) := by decide +kernel
theorem dX5_all_16 : decode cX5_all 16 = .ok (.aload_n 0, 1) := by decide +kernel
theorem dX5_all_17 : decode cX5_all 17 = .ok (.getfield 43, 3) := by decide +kernel
theorem dX5_all_20 : decode cX5_all 20 = .ok (.iload_n 2, 1) := by decide +kernel
theorem dX5_all_21 : decode cX5_all 21 = .ok (.iaload, 1) := by decide +kernel
theorem dX5_all_22 : decode cX5_all 22 = .ok (.iadd, 1) := by decide +kernel
theorem dX5_all_23 : decode cX5_all 23 = .ok (.istore_n 1, 1) := by decide +kernel
theorem dX5_all_24 : decode cX5_all 24 = .ok (.iinc 2 1, 3) := by decide +kernel
theorem dX5_all_27 : decode cX5_all 27 = .ok (.goto (-20), 3) := by decide +kernel
theorem dX5_all_30 : decode cX5_all 30 = .ok (.iload_n 1, 1) := by decide +kernel
theorem dX5_all_31 : decode cX5_all 31 = .ok (.ireturn, 1) := by decide +kernel
theorem dX5_heap_0 : decode cX5_heap 0 = .ok (.iload_n 1, 1) := by decide +kernel
theorem dX5_heap_1 : decode cX5_heap 1 = .ok (.i2l, 1) := by decide +kernel
theorem dX5_heap_2 : decode cX5_heap 2 = .ok (.lconst 0, 1) := by decide +kernel
theorem dX5_heap_3 : decode cX5_heap 3 = .ok (.ldc2_w 120, 3) := by decide +kernel
theorem dX5_heap_6 : decode cX5_heap 6 = .ok (.invokestatic 95, 3) := by decide +kernel
theorem dX5_heap_9 : decode cX5_heap 9 = .ok (.ifCond .eq 21, 3) := by decide +kernel
theorem dX5_heap_12 : decode cX5_heap 12 = .ok (.iload_n 2, 1) := by decide +kernel
theorem dX5_heap_13 : decode cX5_heap 13 = .ok (.i2l, 1) := by decide +kernel
theorem dX5_heap_14 : decode cX5_heap 14 = .ok (.lconst 0, 1) := by decide +kernel
theorem dX5_heap_15 : decode cX5_heap 15 = .ok (.ldc2_w 120, 3) := by decide +kernel
theorem dX5_heap_18 : decode cX5_heap 18 = .ok (.invokestatic 95, 3) := by decide +kernel
theorem dX5_heap_21 : decode cX5_heap 21 = .ok (.ifCond .eq 9, 3) := by decide +kernel
theorem dX5_heap_24 : decode cX5_heap 24 = .ok (.iload_n 1, 1) := by decide +kernel
theorem dX5_heap_25 : decode cX5_heap 25 = .ok (.iload_n 2, 1) := by decide +kernel
theorem dX5_heap_26 : decode cX5_heap 26 = .ok (.iadd, 1) := by decide +kernel
theorem dX5_heap_27 : decode cX5_heap 27 = .ok (.ifCond .ne 10, 3) := by decide +kernel
theorem dX5_heap_30 : decode cX5_heap 30 = .ok (.aload_n 0, 1) := by decide +kernel
theorem dX5_heap_31 : decode cX5_heap 31 = .ok (.bipush (-2), 2) := by decide +kernel
theorem dX5_heap_33 : decode cX5_heap 33 = .ok (.invokevirtual 103, 3) := by decide +kernel
theorem dX5_heap_36 : decode cX5_heap 36 = .ok (.ireturn, 1) := by decide +kernel
theorem dX5_heap_37 : decode cX5_heap 37 = .ok (.aload_n 0, 1) := by decide +kernel
theorem dX5_heap_38 : decode cX5_heap 38 = .ok (.getfield 137, 3) := by decide +kernel
theorem dX5_heap_41 : decode cX5_heap 41 = .ok (.ifCond .le 10, 3) := by decide +kernel
theorem dX5_heap_44 : decode cX5_heap 44 = .ok (.aload_n 0, 1) := by decide +kernel
theorem dX5_heap_45 : decode cX5_heap 45 = .ok (.bipush (-5), 2) := by decide +kernel
theorem dX5_heap_47 : decode cX5_heap 47 = .ok (.invokevirtual 103, 3) := by decide +kernel
theorem dX5_heap_50 : decode cX5_heap 50 = .ok (.ireturn, 1) := by decide +kernel
theorem dX5_heap_51 : decode cX5_heap 51 = .ok (.aload_n 0, 1) := by decide +kernel
theorem dX5_heap_52 : decode cX5_heap 52 = .ok (.getfield 130, 3) := by decide +kernel
theorem dX5_heap_55 : decode cX5_heap 55 = .ok (.iconst 4, 1) := by decide +kernel
theorem dX5_heap_56 : decode cX5_heap 56 = .ok (.if_icmp .eq 16, 3) := by decide +kernel
theorem dX5_heap_59 : decode cX5_heap 59 = .ok (.aload_n 0, 1) := by decide +kernel
theorem dX5_heap_60 : decode cX5_heap 60 = .ok (.invokevirtual 140, 3) := by decide +kernel
theorem dX5_heap_63 : decode cX5_heap 63 = .ok (.iload_n 1, 1) := by decide +kernel
theorem dX5_heap_64 : decode cX5_heap 64 = .ok (.iadd, 1) := by decide +kernel
theorem dX5_heap_65 : decode cX5_heap 65 = .ok (.iload_n 2, 1) := by decide +kernel
theorem dX5_heap_66 : decode cX5_heap 66 = .ok (.iadd, 1) := by decide +kernel
theorem dX5_heap_67 : decode cX5_heap 67 = .ok (.bipush 24, 2) := by decide +kernel
theorem dX5_heap_69 : decode cX5_heap 69 = .ok (.if_icmp .le 10, 3) := by decide +kernel
theorem dX5_heap_72 : decode cX5_heap 72 = .ok (.aload_n 0, 1) := by decide +kernel
theorem dX5_heap_73 : decode cX5_heap 73 = .ok (.bipush (-6), 2) := by decide +kernel
theorem dX5_heap_75 : decode cX5_heap 75 = .ok (.invokevirtual 103, 3) := by decide +kernel
theorem dX5_heap_78 : decode cX5_heap 78 = .ok (.ireturn, 1) := by decide +kernel
theorem dX5_heap_79 : decode cX5_heap 79 = .ok (.aload_n 0, 1) := by decide +kernel
theorem dX5_heap_80 : decode cX5_heap 80 = .ok (.iload_n 1, 1) := by decide +kernel
theorem dX5_heap_81 : decode cX5_heap 81 = .ok (.iload_n 2, 1) := by decide +kernel
theorem dX5_heap_82 : decode cX5_heap 82 = .ok (.invokevirtual 143, 3) := by decide +kernel
theorem dX5_heap_85 : decode cX5_heap 85 = .ok (.aload_n 0, 1) := by decide +kernel
theorem dX5_heap_86 : decode cX5_heap 86 = .ok (.getfield 130, 3) := by decide +kernel
theorem dX5_heap_89 : decode cX5_heap 89 = .ok (.iconst 1, 1) := by decide +kernel
theorem dX5_heap_90 : decode cX5_heap 90 = .ok (.isub, 1) := by decide +kernel
theorem dX5_heap_91 : decode cX5_heap 91 = .ok (.ireturn, 1) := by decide +kernel
theorem dX5_addHeap_0 : decode cX5_addHeap 0 = .ok (.aload_n 0, 1) := by decide +kernel
theorem dX5_addHeap_1 : decode cX5_addHeap 1 = .ok (.getfield 40, 3) := by decide +kernel
theorem dX5_addHeap_4 : decode cX5_addHeap 4 = .ok (.aload_n 0, 1) := by decide +kernel
theorem dX5_addHeap_5 : decode cX5_addHeap 5 = .ok (.getfield 130, 3) := by decide +kernel
theorem dX5_addHeap_8 : decode cX5_addHeap 8 = .ok (.iload_n 1, 1) := by decide +kernel
theorem dX5_addHeap_9 : decode cX5_addHeap 9 = .ok (.iastore, 1) := by decide +kernel
theorem dX5_addHeap_10 : decode cX5_addHeap 10 = .ok (.aload_n 0, 1) := by decide +kernel
theorem dX5_addHeap_11 : decode cX5_addHeap 11 = .ok (.getfield 43, 3) := by decide +kernel
theorem dX5_addHeap_14 : decode cX5_addHeap 14 = .ok (.aload_n 0, 1) := by decide +kernel
theorem dX5_addHeap_15 : decode cX5_addHeap 15 = .ok (.getfield 130, 3) := by decide +kernel
theorem dX5_addHeap_18 : decode cX5_addHeap 18 = .ok (.iload_n 2, 1) := by decide +kernel
theorem dX5_addHeap_19 : decode cX5_addHeap 19 = .ok (.iastore, 1) := by decide +kernel
theorem dX5_addHeap_20 : decode cX5_addHeap 20 = .ok (.aload_n 0, 1) := by decide +kernel
theorem dX5_addHeap_21 : decode cX5_addHeap 21 = .ok (.getfield 46, 3) := by decide +kernel
theorem dX5_addHeap_24 : decode cX5_addHeap 24 = .ok (.aload_n 0, 1) := by decide +kernel
theorem dX5_addHeap_25 : decode cX5_addHeap 25 = .ok (.getfield 130, 3) := by decide +kernel
theorem dX5_addHeap_28 : decode cX5_addHeap 28 = .ok (.aload_n 0, 1) := by decide +kernel
theorem dX5_addHeap_29 : decode cX5_addHeap 29 = .ok (.getfield 130, 3) := by decide +kernel
theorem dX5_addHeap_32 : decode cX5_addHeap 32 = .ok (.iastore, 1) := by decide +kernel
theorem dX5_addHeap_33 : decode cX5_addHeap 33 = .ok (.aload_n 0, 1) := by decide +kernel
theorem dX5_addHeap_34 : decode cX5_addHeap 34 = .ok (.dup, 1) := by decide +kernel
theorem dX5_addHeap_35 : decode cX5_addHeap 35 = .ok (.getfield 130, 3) := by decide +kernel
theorem dX5_addHeap_38 : decode cX5_addHeap 38 = .ok (.iconst 1, 1) := by decide +kernel
theorem dX5_addHeap_39 : decode cX5_addHeap 39 = .ok (.iadd, 1) := by decide +kernel
theorem dX5_addHeap_40 : decode cX5_addHeap 40 = .ok (.putfield 130, 3) := by decide +kernel
theorem dX5_addHeap_43 : decode cX5_addHeap 43 = .ok (.return_, 1) := by decide +kernel
theorem dX5_fact_0 : decode cX5_fact 0 = .ok (.iload_n 1, 1) := by decide +kernel
theorem dX5_fact_1 : decode cX5_fact 1 = .ok (.i2l, 1) := by decide +kernel
theorem dX5_fact_2 : decode cX5_fact 2 = .ok (.lconst 0, 1) := by decide +kernel
theorem dX5_fact_3 : decode cX5_fact 3 = .ok (.ldc2_w 147, 3) := by decide +kernel
theorem dX5_fact_6 : decode cX5_fact 6 = .ok (.invokestatic 95, 3) := by decide +kernel
theorem dX5_fact_9 : decode cX5_fact 9 = .ok (.ifCond .eq 27, 3) := by decide +kernel
theorem dX5_fact_12 : decode cX5_fact 12 = .ok (.iload_n 2, 1) := by decide +kernel
theorem dX5_fact_13 : decode cX5_fact 13 = .ok (.i2l, 1) := by decide +kernel
theorem dX5_fact_14 : decode cX5_fact 14 = .ok (.lconst 0, 1) := by decide +kernel
theorem dX5_fact_15 : decode cX5_fact 15 = .ok (.ldc2_w 149, 3) := by decide +kernel
theorem dX5_fact_18 : decode cX5_fact 18 = .ok (.invokestatic 95, 3) := by decide +kernel
theorem dX5_fact_21 : decode cX5_fact 21 = .ok (.ifCond .eq 15, 3) := by decide +kernel
theorem dX5_fact_24 : decode cX5_fact 24 = .ok (.iload_n 3, 1) := by decide +kernel
theorem dX5_fact_25 : decode cX5_fact 25 = .ok (.i2l, 1) := by decide +kernel
theorem dX5_fact_26 : decode cX5_fact 26 = .ok (.lconst 0, 1) := by decide +kernel
theorem dX5_fact_27 : decode cX5_fact 27 = .ok (.ldc2_w 149, 3) := by decide +kernel
theorem dX5_fact_30 : decode cX5_fact 30 = .ok (.invokestatic 95, 3) := by decide +kernel
theorem dX5_fact_33 : decode cX5_fact 33 = .ok (.ifCond .ne 10, 3) := by decide +kernel
theorem dX5_fact_36 : decode cX5_fact 36 = .ok (.aload_n 0, 1) := by decide +kernel
theorem dX5_fact_37 : decode cX5_fact 37 = .ok (.bipush (-2), 2) := by decide +kernel
theorem dX5_fact_39 : decode cX5_fact 39 = .ok (.invokevirtual 103, 3) := by decide +kernel
theorem dX5_fact_42 : decode cX5_fact 42 = .ok (.ireturn, 1) := by decide +kernel
theorem dX5_fact_43 : decode cX5_fact 43 = .ok (.aload_n 0, 1) := by decide +kernel
theorem dX5_fact_44 : decode cX5_fact 44 = .ok (.getfield 151, 3) := by decide +kernel
theorem dX5_fact_47 : decode cX5_fact 47 = .ok (.iconst 4, 1) := by decide +kernel
theorem dX5_fact_48 : decode cX5_fact 48 = .ok (.if_icmp .ne 10, 3) := by decide +kernel
theorem dX5_fact_51 : decode cX5_fact 51 = .ok (.aload_n 0, 1) := by decide +kernel
theorem dX5_fact_52 : decode cX5_fact 52 = .ok (.bipush (-6), 2) := by decide +kernel
theorem dX5_fact_54 : decode cX5_fact 54 = .ok (.invokevirtual 103, 3) := by decide +kernel
theorem dX5_fact_57 : decode cX5_fact 57 = .ok (.ireturn, 1) := by decide +kernel
theorem dX5_fact_58 : decode cX5_fact 58 = .ok (.aload_n 0, 1) := by decide +kernel
theorem dX5_fact_59 : decode cX5_fact 59 = .ok (.getfield 51, 3) := by decide +kernel
theorem dX5_fact_62 : decode cX5_fact 62 = .ok (.aload_n 0, 1) := by decide +kernel
theorem dX5_fact_63 : decode cX5_fact 63 = .ok (.getfield 151, 3) := by decide +kernel
theorem dX5_fact_66 : decode cX5_fact 66 = .ok (.aaload, 1) := by decide +kernel
theorem dX5_fact_67 : decode cX5_fact 67 = .ok (.iconst 0, 1) := by decide +kernel
theorem dX5_fact_68 : decode cX5_fact 68 = .ok (.iload_n 1, 1) := by decide +kernel
theorem dX5_fact_69 : decode cX5_fact 69 = .ok (.iastore, 1) := by decide +kernel
theorem dX5_fact_70 : decode cX5_fact 70 = .ok (.aload_n 0, 1) := by decide +kernel
theorem dX5_fact_71 : decode cX5_fact 71 = .ok (.getfield 51, 3) := by decide +kernel
theorem dX5_fact_74 : decode cX5_fact 74 = .ok (.aload_n 0, 1) := by decide +kernel
theorem dX5_fact_75 : decode cX5_fact 75 = .ok (.getfield 151, 3) := by decide +kernel
theorem dX5_fact_78 : decode cX5_fact 78 = .ok (.aaload, 1) := by decide +kernel
theorem dX5_fact_79 : decode cX5_fact 79 = .ok (.iconst 1, 1) := by decide +kernel
theorem dX5_fact_80 : decode cX5_fact 80 = .ok (.iload_n 2, 1) := by decide +kernel
theorem dX5_fact_81 : decode cX5_fact 81 = .ok (.iastore, 1) := by decide +kernel
theorem dX5_fact_82 : decode cX5_fact 82 = .ok (.aload_n 0, 1) := by decide +kernel
theorem dX5_fact_83 : decode cX5_fact 83 = .ok (.getfield 51, 3) := by decide +kernel
theorem dX5_fact_86 : decode cX5_fact 86 = .ok (.aload_n 0, 1) := by decide +kernel
theorem dX5_fact_87 : decode cX5_fact 87 = .ok (.getfield 151, 3) := by decide +kernel
theorem dX5_fact_90 : decode cX5_fact 90 = .ok (.aaload, 1) := by decide +kernel
theorem dX5_fact_91 : decode cX5_fact 91 = .ok (.iconst 2, 1) := by decide +kernel
theorem dX5_fact_92 : decode cX5_fact 92 = .ok (.iload_n 3, 1) := by decide +kernel
theorem dX5_fact_93 : decode cX5_fact 93 = .ok (.iastore, 1) := by decide +kernel
theorem dX5_fact_94 : decode cX5_fact 94 = .ok (.aload_n 0, 1) := by decide +kernel
theorem dX5_fact_95 : decode cX5_fact 95 = .ok (.dup, 1) := by decide +kernel
theorem dX5_fact_96 : decode cX5_fact 96 = .ok (.getfield 151, 3) := by decide +kernel
theorem dX5_fact_99 : decode cX5_fact 99 = .ok (.dup_x1, 1) := by decide +kernel
theorem dX5_fact_100 : decode cX5_fact 100 = .ok (.iconst 1, 1) := by decide +kernel
theorem dX5_fact_101 : decode cX5_fact 101 = .ok (.iadd, 1) := by decide +kernel
theorem dX5_fact_102 : decode cX5_fact 102 = .ok (.putfield 151, 3) := by decide +kernel
theorem dX5_fact_105 : decode cX5_fact 105 = .ok (.ireturn, 1) := by decide +kernel
theorem dX5_forget_0 : decode cX5_forget 0 = .ok (.iload_n 1, 1) := by decide +kernel
theorem dX5_forget_1 : decode cX5_forget 1 = .ok (.i2l, 1) := by decide +kernel
theorem dX5_forget_2 : decode cX5_forget 2 = .ok (.lconst 0, 1) := by decide +kernel
theorem dX5_forget_3 : decode cX5_forget 3 = .ok (.aload_n 0, 1) := by decide +kernel
theorem dX5_forget_4 : decode cX5_forget 4 = .ok (.getfield 151, 3) := by decide +kernel
theorem dX5_forget_7 : decode cX5_forget 7 = .ok (.iconst 1, 1) := by decide +kernel
theorem dX5_forget_8 : decode cX5_forget 8 = .ok (.isub, 1) := by decide +kernel
theorem dX5_forget_9 : decode cX5_forget 9 = .ok (.i2l, 1) := by decide +kernel
theorem dX5_forget_10 : decode cX5_forget 10 = .ok (.invokestatic 95, 3) := by decide +kernel
theorem dX5_forget_13 : decode cX5_forget 13 = .ok (.ifCond .ne 10, 3) := by decide +kernel
theorem dX5_forget_16 : decode cX5_forget 16 = .ok (.aload_n 0, 1) := by decide +kernel
theorem dX5_forget_17 : decode cX5_forget 17 = .ok (.bipush (-2), 2) := by decide +kernel
theorem dX5_forget_19 : decode cX5_forget 19 = .ok (.invokevirtual 103, 3) := by decide +kernel
theorem dX5_forget_22 : decode cX5_forget 22 = .ok (.ireturn, 1) := by decide +kernel
theorem dX5_forget_23 : decode cX5_forget 23 = .ok (.aload_n 0, 1) := by decide +kernel
theorem dX5_forget_24 : decode cX5_forget 24 = .ok (.dup, 1) := by decide +kernel
theorem dX5_forget_25 : decode cX5_forget 25 = .ok (.getfield 151, 3) := by decide +kernel
theorem dX5_forget_28 : decode cX5_forget 28 = .ok (.iconst 1, 1) := by decide +kernel
theorem dX5_forget_29 : decode cX5_forget 29 = .ok (.isub, 1) := by decide +kernel
theorem dX5_forget_30 : decode cX5_forget 30 = .ok (.putfield 151, 3) := by decide +kernel
theorem dX5_forget_33 : decode cX5_forget 33 = .ok (.iload_n 1, 1) := by decide +kernel
theorem dX5_forget_34 : decode cX5_forget 34 = .ok (.istore_n 2, 1) := by decide +kernel
theorem dX5_forget_35 : decode cX5_forget 35 = .ok (.iload_n 2, 1) := by decide +kernel
theorem dX5_forget_36 : decode cX5_forget 36 = .ok (.aload_n 0, 1) := by decide +kernel
theorem dX5_forget_37 : decode cX5_forget 37 = .ok (.getfield 151, 3) := by decide +kernel
theorem dX5_forget_40 : decode cX5_forget 40 = .ok (.if_icmp .ge 40, 3) := by decide +kernel
theorem dX5_forget_43 : decode cX5_forget 43 = .ok (.iconst 0, 1) := by decide +kernel
theorem dX5_forget_44 : decode cX5_forget 44 = .ok (.istore_n 3, 1) := by decide +kernel
theorem dX5_forget_45 : decode cX5_forget 45 = .ok (.iload_n 3, 1) := by decide +kernel
theorem dX5_forget_46 : decode cX5_forget 46 = .ok (.iconst 3, 1) := by decide +kernel
theorem dX5_forget_47 : decode cX5_forget 47 = .ok (.if_icmp .ge 27, 3) := by decide +kernel
theorem dX5_forget_50 : decode cX5_forget 50 = .ok (.aload_n 0, 1) := by decide +kernel
theorem dX5_forget_51 : decode cX5_forget 51 = .ok (.getfield 51, 3) := by decide +kernel
theorem dX5_forget_54 : decode cX5_forget 54 = .ok (.iload_n 2, 1) := by decide +kernel
theorem dX5_forget_55 : decode cX5_forget 55 = .ok (.aaload, 1) := by decide +kernel
theorem dX5_forget_56 : decode cX5_forget 56 = .ok (.iload_n 3, 1) := by decide +kernel
theorem dX5_forget_57 : decode cX5_forget 57 = .ok (.aload_n 0, 1) := by decide +kernel
theorem dX5_forget_58 : decode cX5_forget 58 = .ok (.getfield 51, 3) := by decide +kernel
theorem dX5_forget_61 : decode cX5_forget 61 = .ok (.iload_n 2, 1) := by decide +kernel
theorem dX5_forget_62 : decode cX5_forget 62 = .ok (.iconst 1, 1) := by decide +kernel
theorem dX5_forget_63 : decode cX5_forget 63 = .ok (.iadd, 1) := by decide +kernel
theorem dX5_forget_64 : decode cX5_forget 64 = .ok (.aaload, 1) := by decide +kernel
theorem dX5_forget_65 : decode cX5_forget 65 = .ok (.iload_n 3, 1) := by decide +kernel
theorem dX5_forget_66 : decode cX5_forget 66 = .ok (.iaload, 1) := by decide +kernel
theorem dX5_forget_67 : decode cX5_forget 67 = .ok (.iastore, 1) := by decide +kernel
theorem dX5_forget_68 : decode cX5_forget 68 = .ok (.iinc 3 1, 3) := by decide +kernel
theorem dX5_forget_71 : decode cX5_forget 71 = .ok (.goto (-26), 3) := by decide +kernel
theorem dX5_forget_74 : decode cX5_forget 74 = .ok (.iinc 2 1, 3) := by decide +kernel
theorem dX5_forget_77 : decode cX5_forget 77 = .ok (.goto (-42), 3) := by decide +kernel
theorem dX5_forget_80 : decode cX5_forget 80 = .ok (.aload_n 0, 1) := by decide +kernel
theorem dX5_forget_81 : decode cX5_forget 81 = .ok (.getfield 151, 3) := by decide +kernel
theorem dX5_forget_84 : decode cX5_forget 84 = .ok (.ireturn, 1) := by decide +kernel
theorem dX5_change_0 : decode cX5_change 0 = .ok (.aload_n 0, 1) := by decide +kernel
theorem dX5_change_1 : decode cX5_change 1 = .ok (.getfield 46, 3) := by decide +kernel
theorem dX5_change_4 : decode cX5_change 4 = .ok (.iload_n 1, 1) := by decide +kernel
theorem dX5_change_5 : decode cX5_change 5 = .ok (.iaload, 1) := by decide +kernel
theorem dX5_change_6 : decode cX5_change 6 = .ok (.istore_n 3, 1) := by decide +kernel
theorem dX5_change_7 : decode cX5_change 7 = .ok (.aload_n 0, 1) := by decide +kernel
theorem dX5_change_8 : decode cX5_change 8 = .ok (.getfield 46, 3) := by decide +kernel
theorem dX5_change_11 : decode cX5_change 11 = .ok (.iload_n 1, 1) := by decide +kernel
theorem dX5_change_12 : decode cX5_change 12 = .ok (.aload_n 0, 1) := by decide +kernel
theorem dX5_change_13 : decode cX5_change 13 = .ok (.getfield 46, 3) := by decide +kernel
theorem dX5_change_16 : decode cX5_change 16 = .ok (.iload_n 2, 1) := by decide +kernel
theorem dX5_change_17 : decode cX5_change 17 = .ok (.iaload, 1) := by decide +kernel
theorem dX5_change_18 : decode cX5_change 18 = .ok (.iastore, 1) := by decide +kernel
theorem dX5_change_19 : decode cX5_change 19 = .ok (.aload_n 0, 1) := by decide +kernel
theorem dX5_change_20 : decode cX5_change 20 = .ok (.getfield 46, 3) := by decide +kernel
theorem dX5_change_23 : decode cX5_change 23 = .ok (.iload_n 2, 1) := by decide +kernel
theorem dX5_change_24 : decode cX5_change 24 = .ok (.iload_n 3, 1) := by decide +kernel
theorem dX5_change_25 : decode cX5_change 25 = .ok (.iastore, 1) := by decide +kernel
theorem dX5_change_26 : decode cX5_change 26 = .ok (.return_, 1) := by decide +kernel
theorem dX5_swap_0 : decode cX5_swap 0 = .ok (.iload_n 1, 1) := by decide +kernel
theorem dX5_swap_1 : decode cX5_swap 1 = .ok (.i2l, 1) := by decide +kernel
theorem dX5_swap_2 : decode cX5_swap 2 = .ok (.lconst 0, 1) := by decide +kernel
theorem dX5_swap_3 : decode cX5_swap 3 = .ok (.aload_n 0, 1) := by decide +kernel
theorem dX5_swap_4 : decode cX5_swap 4 = .ok (.getfield 130, 3) := by decide +kernel
theorem dX5_swap_7 : decode cX5_swap 7 = .ok (.iconst 1, 1) := by decide +kernel
theorem dX5_swap_8 : decode cX5_swap 8 = .ok (.isub, 1) := by decide +kernel
theorem dX5_swap_9 : decode cX5_swap 9 = .ok (.i2l, 1) := by decide +kernel
theorem dX5_swap_10 : decode cX5_swap 10 = .ok (.invokestatic 95, 3) := by decide +kernel
theorem dX5_swap_13 : decode cX5_swap 13 = .ok (.ifCond .eq 19, 3) := by decide +kernel
theorem dX5_swap_16 : decode cX5_swap 16 = .ok (.iload_n 2, 1) := by decide +kernel
theorem dX5_swap_17 : decode cX5_swap 17 = .ok (.i2l, 1) := by decide +kernel
theorem dX5_swap_18 : decode cX5_swap 18 = .ok (.lconst 0, 1) := by decide +kernel
theorem dX5_swap_19 : decode cX5_swap 19 = .ok (.aload_n 0, 1) := by decide +kernel
theorem dX5_swap_20 : decode cX5_swap 20 = .ok (.getfield 130, 3) := by decide +kernel
theorem dX5_swap_23 : decode cX5_swap 23 = .ok (.iconst 1, 1) := by decide +kernel
theorem dX5_swap_24 : decode cX5_swap 24 = .ok (.isub, 1) := by decide +kernel
theorem dX5_swap_25 : decode cX5_swap 25 = .ok (.i2l, 1) := by decide +kernel
theorem dX5_swap_26 : decode cX5_swap 26 = .ok (.invokestatic 95, 3) := by decide +kernel
theorem dX5_swap_29 : decode cX5_swap 29 = .ok (.ifCond .ne 10, 3) := by decide +kernel
theorem dX5_swap_32 : decode cX5_swap 32 = .ok (.aload_n 0, 1) := by decide +kernel
theorem dX5_swap_33 : decode cX5_swap 33 = .ok (.bipush (-2), 2) := by decide +kernel
theorem dX5_swap_35 : decode cX5_swap 35 = .ok (.invokevirtual 103, 3) := by decide +kernel
theorem dX5_swap_38 : decode cX5_swap 38 = .ok (.ireturn, 1) := by decide +kernel
theorem dX5_swap_39 : decode cX5_swap 39 = .ok (.aload_n 0, 1) := by decide +kernel
theorem dX5_swap_40 : decode cX5_swap 40 = .ok (.getfield 137, 3) := by decide +kernel
theorem dX5_swap_43 : decode cX5_swap 43 = .ok (.ifCond .le 10, 3) := by decide +kernel
theorem dX5_swap_46 : decode cX5_swap 46 = .ok (.aload_n 0, 1) := by decide +kernel
theorem dX5_swap_47 : decode cX5_swap 47 = .ok (.bipush (-5), 2) := by decide +kernel
theorem dX5_swap_49 : decode cX5_swap 49 = .ok (.invokevirtual 103, 3) := by decide +kernel
theorem dX5_swap_52 : decode cX5_swap 52 = .ok (.ireturn, 1) := by decide +kernel
theorem dX5_swap_53 : decode cX5_swap 53 = .ok (.aload_n 0, 1) := by decide +kernel
theorem dX5_swap_54 : decode cX5_swap 54 = .ok (.iload_n 1, 1) := by decide +kernel
theorem dX5_swap_55 : decode cX5_swap 55 = .ok (.iload_n 2, 1) := by decide +kernel
theorem dX5_swap_56 : decode cX5_swap 56 = .ok (.invokevirtual 154, 3) := by decide +kernel
theorem dX5_swap_59 : decode cX5_swap 59 = .ok (.iload_n 1, 1) := by decide +kernel
theorem dX5_swap_60 : decode cX5_swap 60 = .ok (.iload_n 2, 1) := by decide +kernel
theorem dX5_swap_61 : decode cX5_swap 61 = .ok (.if_icmp .ne 7, 3) := by decide +kernel
theorem dX5_swap_64 : decode cX5_swap 64 = .ok (.iconst 0, 1) := by decide +kernel
theorem dX5_swap_65 : decode cX5_swap 65 = .ok (.goto 4, 3) := by decide +kernel
theorem dX5_swap_68 : decode cX5_swap 68 = .ok (.iconst 1, 1) := by decide +kernel
theorem dX5_swap_69 : decode cX5_swap 69 = .ok (.ireturn, 1) := by decide +kernel
theorem dX5_feed_0 : decode cX5_feed 0 = .ok (.iload_n 1, 1) := by decide +kernel
theorem dX5_feed_1 : decode cX5_feed 1 = .ok (.i2l, 1) := by decide +kernel
theorem dX5_feed_2 : decode cX5_feed 2 = .ok (.lconst 0, 1) := by decide +kernel
theorem dX5_feed_3 : decode cX5_feed 3 = .ok (.ldc2_w 157, 3) := by decide +kernel
theorem dX5_feed_6 : decode cX5_feed 6 = .ok (.invokestatic 95, 3) := by decide +kernel
theorem dX5_feed_9 : decode cX5_feed 9 = .ok (.ifCond .ne 10, 3) := by decide +kernel
theorem dX5_feed_12 : decode cX5_feed 12 = .ok (.aload_n 0, 1) := by decide +kernel
theorem dX5_feed_13 : decode cX5_feed 13 = .ok (.bipush (-2), 2) := by decide +kernel
theorem dX5_feed_15 : decode cX5_feed 15 = .ok (.invokevirtual 103, 3) := by decide +kernel
theorem dX5_feed_18 : decode cX5_feed 18 = .ok (.ireturn, 1) := by decide +kernel
theorem dX5_feed_19 : decode cX5_feed 19 = .ok (.aload_n 0, 1) := by decide +kernel
theorem dX5_feed_20 : decode cX5_feed 20 = .ok (.getfield 159, 3) := by decide +kernel
theorem dX5_feed_23 : decode cX5_feed 23 = .ok (.sipush 250, 3) := by decide +kernel
theorem dX5_feed_26 : decode cX5_feed 26 = .ok (.if_icmp .ne 10, 3) := by decide +kernel
theorem dX5_feed_29 : decode cX5_feed 29 = .ok (.aload_n 0, 1) := by decide +kernel
theorem dX5_feed_30 : decode cX5_feed 30 = .ok (.bipush (-6), 2) := by decide +kernel
theorem dX5_feed_32 : decode cX5_feed 32 = .ok (.invokevirtual 103, 3) := by decide +kernel
theorem dX5_feed_35 : decode cX5_feed 35 = .ok (.ireturn, 1) := by decide +kernel
theorem dX5_feed_36 : decode cX5_feed 36 = .ok (.aload_n 0, 1) := by decide +kernel
theorem dX5_feed_37 : decode cX5_feed 37 = .ok (.getfield 34, 3) := by decide +kernel
theorem dX5_feed_40 : decode cX5_feed 40 = .ok (.aload_n 0, 1) := by decide +kernel
theorem dX5_feed_41 : decode cX5_feed 41 = .ok (.dup, 1) := by decide +kernel
theorem dX5_feed_42 : decode cX5_feed 42 = .ok (.getfield 159, 3) := by decide +kernel
theorem dX5_feed_45 : decode cX5_feed 45 = .ok (.dup_x1, 1) := by decide +kernel
theorem dX5_feed_46 : decode cX5_feed 46 = .ok (.iconst 1, 1) := by decide +kernel
theorem dX5_feed_47 : decode cX5_feed 47 = .ok (.iadd, 1) := by decide +kernel
theorem dX5_feed_48 : decode cX5_feed 48 = .ok (.putfield 159, 3) := by decide +kernel
theorem dX5_feed_51 : decode cX5_feed 51 = .ok (.iload_n 1, 1) := by decide +kernel
theorem dX5_feed_52 : decode cX5_feed 52 = .ok (.iastore, 1) := by decide +kernel
theorem dX5_feed_53 : decode cX5_feed 53 = .ok (.aload_n 0, 1) := by decide +kernel
theorem dX5_feed_54 : decode cX5_feed 54 = .ok (.getfield 159, 3) := by decide +kernel
theorem dX5_feed_57 : decode cX5_feed 57 = .ok (.ireturn, 1) := by decide +kernel
theorem dX5_wipe_0 : decode cX5_wipe 0 = .ok (.aload_n 0, 1) := by decide +kernel
theorem dX5_wipe_1 : decode cX5_wipe 1 = .ok (.getfield 159, 3) := by decide +kernel
theorem dX5_wipe_4 : decode cX5_wipe 4 = .ok (.istore_n 1, 1) := by decide +kernel
theorem dX5_wipe_5 : decode cX5_wipe 5 = .ok (.aload_n 0, 1) := by decide +kernel
theorem dX5_wipe_6 : decode cX5_wipe 6 = .ok (.iconst 0, 1) := by decide +kernel
theorem dX5_wipe_7 : decode cX5_wipe 7 = .ok (.putfield 159, 3) := by decide +kernel
theorem dX5_wipe_10 : decode cX5_wipe 10 = .ok (.iload_n 1, 1) := by decide +kernel
theorem dX5_wipe_11 : decode cX5_wipe 11 = .ok (.ireturn, 1) := by decide +kernel
theorem dX5_isLetter_0 : decode cX5_isLetter 0 = .ok (.iload_n 0, 1) := by decide +kernel
theorem dX5_isLetter_1 : decode cX5_isLetter 1 = .ok (.bipush 97, 2) := by decide +kernel
theorem dX5_isLetter_3 : decode cX5_isLetter 3 = .ok (.if_icmp .lt 13, 3) := by decide +kernel
theorem dX5_isLetter_6 : decode cX5_isLetter 6 = .ok (.iload_n 0, 1) := by decide +kernel
theorem dX5_isLetter_7 : decode cX5_isLetter 7 = .ok (.bipush 122, 2) := by decide +kernel
theorem dX5_isLetter_9 : decode cX5_isLetter 9 = .ok (.if_icmp .gt 7, 3) := by decide +kernel
theorem dX5_isLetter_12 : decode cX5_isLetter 12 = .ok (.iconst 1, 1) := by decide +kernel
theorem dX5_isLetter_13 : decode cX5_isLetter 13 = .ok (.goto 4, 3) := by decide +kernel
theorem dX5_isLetter_16 : decode cX5_isLetter 16 = .ok (.iconst 0, 1) := by decide +kernel
theorem dX5_isLetter_17 : decode cX5_isLetter 17 = .ok (.ireturn, 1) := by decide +kernel
theorem dX5_isDigit_0 : decode cX5_isDigit 0 = .ok (.iload_n 0, 1) := by decide +kernel
theorem dX5_isDigit_1 : decode cX5_isDigit 1 = .ok (.bipush 48, 2) := by decide +kernel
theorem dX5_isDigit_3 : decode cX5_isDigit 3 = .ok (.if_icmp .lt 13, 3) := by decide +kernel
theorem dX5_isDigit_6 : decode cX5_isDigit 6 = .ok (.iload_n 0, 1) := by decide +kernel
theorem dX5_isDigit_7 : decode cX5_isDigit 7 = .ok (.bipush 57, 2) := by decide +kernel
theorem dX5_isDigit_9 : decode cX5_isDigit 9 = .ok (.if_icmp .gt 7, 3) := by decide +kernel
theorem dX5_isDigit_12 : decode cX5_isDigit 12 = .ok (.iconst 1, 1) := by decide +kernel
theorem dX5_isDigit_13 : decode cX5_isDigit 13 = .ok (.goto 4, 3) := by decide +kernel
theorem dX5_isDigit_16 : decode cX5_isDigit 16 = .ok (.iconst 0, 1) := by decide +kernel
theorem dX5_isDigit_17 : decode cX5_isDigit 17 = .ok (.ireturn, 1) := by decide +kernel
theorem dX5_look_0 : decode cX5_look 0 = .ok (.aload_n 0, 1) := by decide +kernel
theorem dX5_look_1 : decode cX5_look 1 = .ok (.getfield 162, 3) := by decide +kernel
theorem dX5_look_4 : decode cX5_look 4 = .ok (.aload_n 0, 1) := by decide +kernel
theorem dX5_look_5 : decode cX5_look 5 = .ok (.getfield 159, 3) := by decide +kernel
theorem dX5_look_8 : decode cX5_look 8 = .ok (.if_icmp .ge 30, 3) := by decide +kernel
theorem dX5_look_11 : decode cX5_look 11 = .ok (.aload_n 0, 1) := by decide +kernel
theorem dX5_look_12 : decode cX5_look 12 = .ok (.getfield 34, 3) := by decide +kernel
theorem dX5_look_15 : decode cX5_look 15 = .ok (.aload_n 0, 1) := by decide +kernel
theorem dX5_look_16 : decode cX5_look 16 = .ok (.getfield 162, 3) := by decide +kernel
theorem dX5_look_19 : decode cX5_look 19 = .ok (.iaload, 1) := by decide +kernel
theorem dX5_look_20 : decode cX5_look 20 = .ok (.bipush 32, 2) := by decide +kernel
theorem dX5_look_22 : decode cX5_look 22 = .ok (.if_icmp .ne 16, 3) := by decide +kernel
theorem dX5_look_25 : decode cX5_look 25 = .ok (.aload_n 0, 1) := by decide +kernel
theorem dX5_look_26 : decode cX5_look 26 = .ok (.dup, 1) := by decide +kernel
theorem dX5_look_27 : decode cX5_look 27 = .ok (.getfield 162, 3) := by decide +kernel
theorem dX5_look_30 : decode cX5_look 30 = .ok (.iconst 1, 1) := by decide +kernel
theorem dX5_look_31 : decode cX5_look 31 = .ok (.iadd, 1) := by decide +kernel
theorem dX5_look_32 : decode cX5_look 32 = .ok (.putfield 162, 3) := by decide +kernel
theorem dX5_look_35 : decode cX5_look 35 = .ok (.goto (-35), 3) := by decide +kernel
theorem dX5_look_38 : decode cX5_look 38 = .ok (.aload_n 0, 1) := by decide +kernel
theorem dX5_look_39 : decode cX5_look 39 = .ok (.aload_n 0, 1) := by decide +kernel
theorem dX5_look_40 : decode cX5_look 40 = .ok (.getfield 162, 3) := by decide +kernel
theorem dX5_look_43 : decode cX5_look 43 = .ok (.putfield 165, 3) := by decide +kernel
theorem dX5_look_46 : decode cX5_look 46 = .ok (.aload_n 0, 1) := by decide +kernel
theorem dX5_look_47 : decode cX5_look 47 = .ok (.iconst 0, 1) := by decide +kernel
theorem dX5_look_48 : decode cX5_look 48 = .ok (.putfield 168, 3) := by decide +kernel
theorem dX5_look_51 : decode cX5_look 51 = .ok (.aload_n 0, 1) := by decide +kernel
theorem dX5_look_52 : decode cX5_look 52 = .ok (.getfield 162, 3) := by decide +kernel
theorem dX5_look_55 : decode cX5_look 55 = .ok (.aload_n 0, 1) := by decide +kernel
theorem dX5_look_56 : decode cX5_look 56 = .ok (.getfield 159, 3) := by decide +kernel
theorem dX5_look_59 : decode cX5_look 59 = .ok (.if_icmp .ne 11, 3) := by decide +kernel
theorem dX5_look_62 : decode cX5_look 62 = .ok (.aload_n 0, 1) := by decide +kernel
theorem dX5_look_63 : decode cX5_look 63 = .ok (.iconst 0, 1) := by decide +kernel
theorem dX5_look_64 : decode cX5_look 64 = .ok (.putfield 171, 3) := by decide +kernel
theorem dX5_look_67 : decode cX5_look 67 = .ok (.goto 196, 3) := by decide +kernel
theorem dX5_look_70 : decode cX5_look 70 = .ok (.aload_n 0, 1) := by decide +kernel
theorem dX5_look_71 : decode cX5_look 71 = .ok (.getfield 34, 3) := by decide +kernel
theorem dX5_look_74 : decode cX5_look 74 = .ok (.aload_n 0, 1) := by decide +kernel
theorem dX5_look_75 : decode cX5_look 75 = .ok (.getfield 162, 3) := by decide +kernel
theorem dX5_look_78 : decode cX5_look 78 = .ok (.iaload, 1) := by decide +kernel
theorem dX5_look_79 : decode cX5_look 79 = .ok (.invokestatic 174, 3) := by decide +kernel
theorem dX5_look_82 : decode cX5_look 82 = .ok (.ifCond .eq 47, 3) := by decide +kernel
theorem dX5_look_85 : decode cX5_look 85 = .ok (.aload_n 0, 1) := by decide +kernel
theorem dX5_look_86 : decode cX5_look 86 = .ok (.iconst 1, 1) := by decide +kernel
theorem dX5_look_87 : decode cX5_look 87 = .ok (.putfield 171, 3) := by decide +kernel
theorem dX5_look_90 : decode cX5_look 90 = .ok (.aload_n 0, 1) := by decide +kernel
theorem dX5_look_91 : decode cX5_look 91 = .ok (.getfield 162, 3) := by decide +kernel
theorem dX5_look_94 : decode cX5_look 94 = .ok (.aload_n 0, 1) := by decide +kernel
theorem dX5_look_95 : decode cX5_look 95 = .ok (.getfield 159, 3) := by decide +kernel
theorem dX5_look_98 : decode cX5_look 98 = .ok (.if_icmp .ge 165, 3) := by decide +kernel
theorem dX5_look_101 : decode cX5_look 101 = .ok (.aload_n 0, 1) := by decide +kernel
theorem dX5_look_102 : decode cX5_look 102 = .ok (.getfield 34, 3) := by decide +kernel
theorem dX5_look_105 : decode cX5_look 105 = .ok (.aload_n 0, 1) := by decide +kernel
theorem dX5_look_106 : decode cX5_look 106 = .ok (.getfield 162, 3) := by decide +kernel
theorem dX5_look_109 : decode cX5_look 109 = .ok (.iaload, 1) := by decide +kernel
theorem dX5_look_110 : decode cX5_look 110 = .ok (.invokestatic 174, 3) := by decide +kernel
theorem dX5_look_113 : decode cX5_look 113 = .ok (.ifCond .eq 150, 3) := by decide +kernel
theorem dX5_look_116 : decode cX5_look 116 = .ok (.aload_n 0, 1) := by decide +kernel
theorem dX5_look_117 : decode cX5_look 117 = .ok (.dup, 1) := by decide +kernel
theorem dX5_look_118 : decode cX5_look 118 = .ok (.getfield 162, 3) := by decide +kernel
theorem dX5_look_121 : decode cX5_look 121 = .ok (.iconst 1, 1) := by decide +kernel
theorem dX5_look_122 : decode cX5_look 122 = .ok (.iadd, 1) := by decide +kernel
theorem dX5_look_123 : decode cX5_look 123 = .ok (.putfield 162, 3) := by decide +kernel
theorem dX5_look_126 : decode cX5_look 126 = .ok (.goto (-36), 3) := by decide +kernel
theorem dX5_look_129 : decode cX5_look 129 = .ok (.aload_n 0, 1) := by decide +kernel
theorem dX5_look_130 : decode cX5_look 130 = .ok (.getfield 34, 3) := by decide +kernel
theorem dX5_look_133 : decode cX5_look 133 = .ok (.aload_n 0, 1) := by decide +kernel
theorem dX5_look_134 : decode cX5_look 134 = .ok (.getfield 162, 3) := by decide +kernel
theorem dX5_look_137 : decode cX5_look 137 = .ok (.iaload, 1) := by decide +kernel
theorem dX5_look_138 : decode cX5_look 138 = .ok (.invokestatic 178, 3) := by decide +kernel
theorem dX5_look_141 : decode cX5_look 141 = .ok (.ifCond .eq 89, 3) := by decide +kernel
theorem dX5_look_144 : decode cX5_look 144 = .ok (.aload_n 0, 1) := by decide +kernel
theorem dX5_look_145 : decode cX5_look 145 = .ok (.iconst 2, 1) := by decide +kernel
theorem dX5_look_146 : decode cX5_look 146 = .ok (.putfield 171, 3) := by decide +kernel
theorem dX5_look_149 : decode cX5_look 149 = .ok (.aload_n 0, 1) := by decide +kernel
theorem dX5_look_150 : decode cX5_look 150 = .ok (.getfield 162, 3) := by decide +kernel
theorem dX5_look_153 : decode cX5_look 153 = .ok (.aload_n 0, 1) := by decide +kernel
theorem dX5_look_154 : decode cX5_look 154 = .ok (.getfield 159, 3) := by decide +kernel
theorem dX5_look_157 : decode cX5_look 157 = .ok (.if_icmp .ge 106, 3) := by decide +kernel
theorem dX5_look_160 : decode cX5_look 160 = .ok (.aload_n 0, 1) := by decide +kernel
theorem dX5_look_161 : decode cX5_look 161 = .ok (.getfield 34, 3) := by decide +kernel
theorem dX5_look_164 : decode cX5_look 164 = .ok (.aload_n 0, 1) := by decide +kernel
theorem dX5_look_165 : decode cX5_look 165 = .ok (.getfield 162, 3) := by decide +kernel
theorem dX5_look_168 : decode cX5_look 168 = .ok (.iaload, 1) := by decide +kernel
theorem dX5_look_169 : decode cX5_look 169 = .ok (.invokestatic 178, 3) := by decide +kernel
theorem dX5_look_172 : decode cX5_look 172 = .ok (.ifCond .eq 91, 3) := by decide +kernel
theorem dX5_look_175 : decode cX5_look 175 = .ok (.aload_n 0, 1) := by decide +kernel
theorem dX5_look_176 : decode cX5_look 176 = .ok (.aload_n 0, 1) := by decide +kernel
theorem dX5_look_177 : decode cX5_look 177 = .ok (.getfield 162, 3) := by decide +kernel
theorem dX5_look_180 : decode cX5_look 180 = .ok (.aload_n 0, 1) := by decide +kernel
theorem dX5_look_181 : decode cX5_look 181 = .ok (.getfield 165, 3) := by decide +kernel
theorem dX5_look_184 : decode cX5_look 184 = .ok (.isub, 1) := by decide +kernel
theorem dX5_look_185 : decode cX5_look 185 = .ok (.iconst 2, 1) := by decide +kernel
theorem dX5_look_186 : decode cX5_look 186 = .ok (.if_icmp .ge 26, 3) := by decide +kernel
theorem dX5_look_189 : decode cX5_look 189 = .ok (.aload_n 0, 1) := by decide +kernel
theorem dX5_look_190 : decode cX5_look 190 = .ok (.getfield 168, 3) := by decide +kernel
theorem dX5_look_193 : decode cX5_look 193 = .ok (.bipush 10, 2) := by decide +kernel
theorem dX5_look_195 : decode cX5_look 195 = .ok (.imul, 1) := by decide +kernel
theorem dX5_look_196 : decode cX5_look 196 = .ok (.aload_n 0, 1) := by decide +kernel
theorem dX5_look_197 : decode cX5_look 197 = .ok (.getfield 34, 3) := by decide +kernel
theorem dX5_look_200 : decode cX5_look 200 = .ok (.aload_n 0, 1) := by decide +kernel
theorem dX5_look_201 : decode cX5_look 201 = .ok (.getfield 162, 3) := by decide +kernel
theorem dX5_look_204 : decode cX5_look 204 = .ok (.iaload, 1) := by decide +kernel
theorem dX5_look_205 : decode cX5_look 205 = .ok (.iadd, 1) := by decide +kernel
theorem dX5_look_206 : decode cX5_look 206 = .ok (.bipush 48, 2) := by decide +kernel
theorem dX5_look_208 : decode cX5_look 208 = .ok (.isub, 1) := by decide +kernel
theorem dX5_look_209 : decode cX5_look 209 = .ok (.goto 5, 3) := by decide +kernel
theorem dX5_look_212 : decode cX5_look 212 = .ok (.ldc 181, 2) := by decide +kernel
theorem dX5_look_214 : decode cX5_look 214 = .ok (.putfield 168, 3) := by decide +kernel
theorem dX5_look_217 : decode cX5_look 217 = .ok (.aload_n 0, 1) := by decide +kernel
theorem dX5_look_218 : decode cX5_look 218 = .ok (.dup, 1) := by decide +kernel
theorem dX5_look_219 : decode cX5_look 219 = .ok (.getfield 162, 3) := by decide +kernel
