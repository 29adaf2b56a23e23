theorem dX7_below_42 : decode cX7_below 42 = .ok (.lconst 1, 1) := by decide +kernel
theorem dX7_below_43 : decode cX7_below 43 = .ok (.iload 6, 2) := by decide +kernel
theorem dX7_below_45 : decode cX7_below 45 = .ok (.lshl, 1) := by decide +kernel
theorem dX7_below_46 : decode cX7_below 46 = .ok (.lor, 1) := by decide +kernel
theorem dX7_below_47 : decode cX7_below 47 = .ok (.lstore 4, 2) := by decide +kernel
theorem dX7_below_49 : decode cX7_below 49 = .ok (.iinc 6 1, 3) := by decide +kernel
theorem dX7_below_52 : decode cX7_below 52 = .ok (.goto (-46), 3) := by decide +kernel
theorem dX7_below_55 : decode cX7_below 55 = .ok (.lload 4, 2) := by decide +kernel
theorem dX7_below_57 : decode cX7_below 57 = .ok (.lreturn, 1) := by decide +kernel
theorem dX7_covers_0 : decode cX7_covers 0 = .ok (.aload_n 0, 1) := by decide +kernel
theorem dX7_covers_1 : decode cX7_covers 1 = .ok (.getfield 35, 3) := by decide +kernel
theorem dX7_covers_4 : decode cX7_covers 4 = .ok (.iload_n 1, 1) := by decide +kernel
theorem dX7_covers_5 : decode cX7_covers 5 = .ok (.iaload, 1) := by decide +kernel
theorem dX7_covers_6 : decode cX7_covers 6 = .ok (.bipush 16, 2) := by decide +kernel
theorem dX7_covers_8 : decode cX7_covers 8 = .ok (.if_icmp .ne 34, 3) := by decide +kernel
theorem dX7_covers_11 : decode cX7_covers 11 = .ok (.aload_n 0, 1) := by decide +kernel
theorem dX7_covers_12 : decode cX7_covers 12 = .ok (.getfield 32, 3) := by decide +kernel
theorem dX7_covers_15 : decode cX7_covers 15 = .ok (.iload_n 1, 1) := by decide +kernel
theorem dX7_covers_16 : decode cX7_covers 16 = .ok (.iaload, 1) := by decide +kernel
theorem dX7_covers_17 : decode cX7_covers 17 = .ok (.iload_n 2, 1) := by decide +kernel
theorem dX7_covers_18 : decode cX7_covers 18 = .ok (.if_icmp .ge 24, 3) := by decide +kernel
theorem dX7_covers_21 : decode cX7_covers 21 = .ok (.iload_n 2, 1) := by decide +kernel
theorem dX7_covers_22 : decode cX7_covers 22 = .ok (.aload_n 0, 1) := by decide +kernel
theorem dX7_covers_23 : decode cX7_covers 23 = .ok (.getfield 32, 3) := by decide +kernel
theorem dX7_covers_26 : decode cX7_covers 26 = .ok (.iload_n 1, 1) := by decide +kernel
theorem dX7_covers_27 : decode cX7_covers 27 = .ok (.iaload, 1) := by decide +kernel
theorem dX7_covers_28 : decode cX7_covers 28 = .ok (.aload_n 0, 1) := by decide +kernel
theorem dX7_covers_29 : decode cX7_covers 29 = .ok (.getfield 41, 3) := by decide +kernel
theorem dX7_covers_32 : decode cX7_covers 32 = .ok (.iload_n 1, 1) := by decide +kernel
theorem dX7_covers_33 : decode cX7_covers 33 = .ok (.iaload, 1) := by decide +kernel
theorem dX7_covers_34 : decode cX7_covers 34 = .ok (.iadd, 1) := by decide +kernel
theorem dX7_covers_35 : decode cX7_covers 35 = .ok (.if_icmp .gt 7, 3) := by decide +kernel
theorem dX7_covers_38 : decode cX7_covers 38 = .ok (.iconst 1, 1) := by decide +kernel
theorem dX7_covers_39 : decode cX7_covers 39 = .ok (.goto 4, 3) := by decide +kernel
theorem dX7_covers_42 : decode cX7_covers 42 = .ok (.iconst 0, 1) := by decide +kernel
theorem dX7_covers_43 : decode cX7_covers 43 = .ok (.ireturn, 1) := by decide +kernel
theorem dX7_raised_0 : decode cX7_raised 0 = .ok (.lload_n 3, 1) := by decide +kernel
theorem dX7_raised_1 : decode cX7_raised 1 = .ok (.lstore 5, 2) := by decide +kernel
theorem dX7_raised_3 : decode cX7_raised 3 = .ok (.aload_n 0, 1) := by decide +kernel
theorem dX7_raised_4 : decode cX7_raised 4 = .ok (.getfield 50, 3) := by decide +kernel
theorem dX7_raised_7 : decode cX7_raised 7 = .ok (.iload_n 1, 1) := by decide +kernel
theorem dX7_raised_8 : decode cX7_raised 8 = .ok (.iaload, 1) := by decide +kernel
theorem dX7_raised_9 : decode cX7_raised 9 = .ok (.istore 7, 2) := by decide +kernel
theorem dX7_raised_11 : decode cX7_raised 11 = .ok (.aload_n 0, 1) := by decide +kernel
theorem dX7_raised_12 : decode cX7_raised 12 = .ok (.getfield 32, 3) := by decide +kernel
theorem dX7_raised_15 : decode cX7_raised 15 = .ok (.iload_n 2, 1) := by decide +kernel
theorem dX7_raised_16 : decode cX7_raised 16 = .ok (.iaload, 1) := by decide +kernel
theorem dX7_raised_17 : decode cX7_raised 17 = .ok (.iconst 1, 1) := by decide +kernel
theorem dX7_raised_18 : decode cX7_raised 18 = .ok (.isub, 1) := by decide +kernel
theorem dX7_raised_19 : decode cX7_raised 19 = .ok (.istore 8, 2) := by decide +kernel
theorem dX7_raised_21 : decode cX7_raised 21 = .ok (.iload 8, 2) := by decide +kernel
theorem dX7_raised_23 : decode cX7_raised 23 = .ok (.ifCond .lt 79, 3) := by decide +kernel
theorem dX7_raised_26 : decode cX7_raised 26 = .ok (.aload_n 0, 1) := by decide +kernel
theorem dX7_raised_27 : decode cX7_raised 27 = .ok (.getfield 26, 3) := by decide +kernel
theorem dX7_raised_30 : decode cX7_raised 30 = .ok (.bipush 90, 2) := by decide +kernel
theorem dX7_raised_32 : decode cX7_raised 32 = .ok (.iload 7, 2) := by decide +kernel
theorem dX7_raised_34 : decode cX7_raised 34 = .ok (.imul, 1) := by decide +kernel
theorem dX7_raised_35 : decode cX7_raised 35 = .ok (.iload 8, 2) := by decide +kernel
theorem dX7_raised_37 : decode cX7_raised 37 = .ok (.iadd, 1) := by decide +kernel
theorem dX7_raised_38 : decode cX7_raised 38 = .ok (.iaload, 1) := by decide +kernel
theorem dX7_raised_39 : decode cX7_raised 39 = .ok (.istore 9, 2) := by decide +kernel
theorem dX7_raised_41 : decode cX7_raised 41 = .ok (.aload_n 0, 1) := by decide +kernel
theorem dX7_raised_42 : decode cX7_raised 42 = .ok (.iload 9, 2) := by decide +kernel
theorem dX7_raised_44 : decode cX7_raised 44 = .ok (.aload_n 0, 1) := by decide +kernel
theorem dX7_raised_45 : decode cX7_raised 45 = .ok (.getfield 32, 3) := by decide +kernel
theorem dX7_raised_48 : decode cX7_raised 48 = .ok (.iload_n 2, 1) := by decide +kernel
theorem dX7_raised_49 : decode cX7_raised 49 = .ok (.iaload, 1) := by decide +kernel
theorem dX7_raised_50 : decode cX7_raised 50 = .ok (.invokevirtual 181, 3) := by decide +kernel
theorem dX7_raised_53 : decode cX7_raised 53 = .ok (.ifCond .eq 43, 3) := by decide +kernel
theorem dX7_raised_56 : decode cX7_raised 56 = .ok (.aload_n 0, 1) := by decide +kernel
theorem dX7_raised_57 : decode cX7_raised 57 = .ok (.lload 5, 2) := by decide +kernel
theorem dX7_raised_59 : decode cX7_raised 59 = .ok (.aload_n 0, 1) := by decide +kernel
theorem dX7_raised_60 : decode cX7_raised 60 = .ok (.getfield 44, 3) := by decide +kernel
theorem dX7_raised_63 : decode cX7_raised 63 = .ok (.iload 9, 2) := by decide +kernel
theorem dX7_raised_65 : decode cX7_raised 65 = .ok (.iaload, 1) := by decide +kernel
theorem dX7_raised_66 : decode cX7_raised 66 = .ok (.invokevirtual 184, 3) := by decide +kernel
theorem dX7_raised_69 : decode cX7_raised 69 = .ok (.lstore 10, 2) := by decide +kernel
theorem dX7_raised_71 : decode cX7_raised 71 = .ok (.aload_n 0, 1) := by decide +kernel
theorem dX7_raised_72 : decode cX7_raised 72 = .ok (.iload_n 1, 1) := by decide +kernel
theorem dX7_raised_73 : decode cX7_raised 73 = .ok (.aload_n 0, 1) := by decide +kernel
theorem dX7_raised_74 : decode cX7_raised 74 = .ok (.getfield 38, 3) := by decide +kernel
theorem dX7_raised_77 : decode cX7_raised 77 = .ok (.iload 9, 2) := by decide +kernel
theorem dX7_raised_79 : decode cX7_raised 79 = .ok (.iaload, 1) := by decide +kernel
theorem dX7_raised_80 : decode cX7_raised 80 = .ok (.lload 10, 2) := by decide +kernel
theorem dX7_raised_82 : decode cX7_raised 82 = .ok (.invokevirtual 188, 3) := by decide +kernel
theorem dX7_raised_85 : decode cX7_raised 85 = .ok (.lload 5, 2) := by decide +kernel
theorem dX7_raised_87 : decode cX7_raised 87 = .ok (.lload 10, 2) := by decide +kernel
theorem dX7_raised_89 : decode cX7_raised 89 = .ok (.ldc2_w 192, 3) := by decide +kernel
theorem dX7_raised_92 : decode cX7_raised 92 = .ok (.lxor, 1) := by decide +kernel
theorem dX7_raised_93 : decode cX7_raised 93 = .ok (.land, 1) := by decide +kernel
theorem dX7_raised_94 : decode cX7_raised 94 = .ok (.lstore 5, 2) := by decide +kernel
theorem dX7_raised_96 : decode cX7_raised 96 = .ok (.iinc 8 (-1), 3) := by decide +kernel
theorem dX7_raised_99 : decode cX7_raised 99 = .ok (.goto (-78), 3) := by decide +kernel
theorem dX7_raised_102 : decode cX7_raised 102 = .ok (.aload_n 0, 1) := by decide +kernel
theorem dX7_raised_103 : decode cX7_raised 103 = .ok (.iload_n 1, 1) := by decide +kernel
theorem dX7_raised_104 : decode cX7_raised 104 = .ok (.bipush 7, 2) := by decide +kernel
theorem dX7_raised_106 : decode cX7_raised 106 = .ok (.lload 5, 2) := by decide +kernel
theorem dX7_raised_108 : decode cX7_raised 108 = .ok (.invokevirtual 188, 3) := by decide +kernel
theorem dX7_raised_111 : decode cX7_raised 111 = .ok (.return_, 1) := by decide +kernel
theorem dX7_joins_0 : decode cX7_joins 0 = .ok (.aload_n 0, 1) := by decide +kernel
theorem dX7_joins_1 : decode cX7_joins 1 = .ok (.iload_n 3, 1) := by decide +kernel
theorem dX7_joins_2 : decode cX7_joins 2 = .ok (.iconst 1, 1) := by decide +kernel
theorem dX7_joins_3 : decode cX7_joins 3 = .ok (.aload_n 0, 1) := by decide +kernel
theorem dX7_joins_4 : decode cX7_joins 4 = .ok (.getfield 59, 3) := by decide +kernel
theorem dX7_joins_7 : decode cX7_joins 7 = .ok (.bipush 8, 2) := by decide +kernel
theorem dX7_joins_9 : decode cX7_joins 9 = .ok (.iload_n 1, 1) := by decide +kernel
theorem dX7_joins_10 : decode cX7_joins 10 = .ok (.imul, 1) := by decide +kernel
theorem dX7_joins_11 : decode cX7_joins 11 = .ok (.aload_n 0, 1) := by decide +kernel
theorem dX7_joins_12 : decode cX7_joins 12 = .ok (.getfield 47, 3) := by decide +kernel
theorem dX7_joins_15 : decode cX7_joins 15 = .ok (.iload_n 2, 1) := by decide +kernel
theorem dX7_joins_16 : decode cX7_joins 16 = .ok (.iaload, 1) := by decide +kernel
theorem dX7_joins_17 : decode cX7_joins 17 = .ok (.iadd, 1) := by decide +kernel
theorem dX7_joins_18 : decode cX7_joins 18 = .ok (.laload, 1) := by decide +kernel
theorem dX7_joins_19 : decode cX7_joins 19 = .ok (.invokevirtual 188, 3) := by decide +kernel
theorem dX7_joins_22 : decode cX7_joins 22 = .ok (.aload_n 0, 1) := by decide +kernel
theorem dX7_joins_23 : decode cX7_joins 23 = .ok (.iload_n 1, 1) := by decide +kernel
theorem dX7_joins_24 : decode cX7_joins 24 = .ok (.aload_n 0, 1) := by decide +kernel
theorem dX7_joins_25 : decode cX7_joins 25 = .ok (.getfield 38, 3) := by decide +kernel
theorem dX7_joins_28 : decode cX7_joins 28 = .ok (.iload_n 2, 1) := by decide +kernel
theorem dX7_joins_29 : decode cX7_joins 29 = .ok (.iaload, 1) := by decide +kernel
theorem dX7_joins_30 : decode cX7_joins 30 = .ok (.aload_n 0, 1) := by decide +kernel
theorem dX7_joins_31 : decode cX7_joins 31 = .ok (.getfield 59, 3) := by decide +kernel
theorem dX7_joins_34 : decode cX7_joins 34 = .ok (.bipush 8, 2) := by decide +kernel
theorem dX7_joins_36 : decode cX7_joins 36 = .ok (.iload_n 3, 1) := by decide +kernel
theorem dX7_joins_37 : decode cX7_joins 37 = .ok (.imul, 1) := by decide +kernel
theorem dX7_joins_38 : decode cX7_joins 38 = .ok (.bipush 6, 2) := by decide +kernel
theorem dX7_joins_40 : decode cX7_joins 40 = .ok (.iadd, 1) := by decide +kernel
theorem dX7_joins_41 : decode cX7_joins 41 = .ok (.laload, 1) := by decide +kernel
theorem dX7_joins_42 : decode cX7_joins 42 = .ok (.invokevirtual 188, 3) := by decide +kernel
theorem dX7_joins_45 : decode cX7_joins 45 = .ok (.aload_n 0, 1) := by decide +kernel
theorem dX7_joins_46 : decode cX7_joins 46 = .ok (.iload_n 1, 1) := by decide +kernel
theorem dX7_joins_47 : decode cX7_joins 47 = .ok (.iload_n 2, 1) := by decide +kernel
theorem dX7_joins_48 : decode cX7_joins 48 = .ok (.aload_n 0, 1) := by decide +kernel
theorem dX7_joins_49 : decode cX7_joins 49 = .ok (.getfield 59, 3) := by decide +kernel
theorem dX7_joins_52 : decode cX7_joins 52 = .ok (.bipush 8, 2) := by decide +kernel
theorem dX7_joins_54 : decode cX7_joins 54 = .ok (.iload_n 3, 1) := by decide +kernel
theorem dX7_joins_55 : decode cX7_joins 55 = .ok (.imul, 1) := by decide +kernel
theorem dX7_joins_56 : decode cX7_joins 56 = .ok (.bipush 7, 2) := by decide +kernel
theorem dX7_joins_58 : decode cX7_joins 58 = .ok (.iadd, 1) := by decide +kernel
theorem dX7_joins_59 : decode cX7_joins 59 = .ok (.laload, 1) := by decide +kernel
theorem dX7_joins_60 : decode cX7_joins 60 = .ok (.invokevirtual 194, 3) := by decide +kernel
theorem dX7_joins_63 : decode cX7_joins 63 = .ok (.return_, 1) := by decide +kernel
theorem dX7_goes_0 : decode cX7_goes 0 = .ok (.aload_n 0, 1) := by decide +kernel
theorem dX7_goes_1 : decode cX7_goes 1 = .ok (.getfield 38, 3) := by decide +kernel
theorem dX7_goes_4 : decode cX7_goes 4 = .ok (.iload_n 2, 1) := by decide +kernel
theorem dX7_goes_5 : decode cX7_goes 5 = .ok (.iaload, 1) := by decide +kernel
theorem dX7_goes_6 : decode cX7_goes 6 = .ok (.istore_n 3, 1) := by decide +kernel
theorem dX7_goes_7 : decode cX7_goes 7 = .ok (.aload_n 0, 1) := by decide +kernel
theorem dX7_goes_8 : decode cX7_goes 8 = .ok (.getfield 41, 3) := by decide +kernel
theorem dX7_goes_11 : decode cX7_goes 11 = .ok (.iload_n 2, 1) := by decide +kernel
theorem dX7_goes_12 : decode cX7_goes 12 = .ok (.iaload, 1) := by decide +kernel
theorem dX7_goes_13 : decode cX7_goes 13 = .ok (.istore 4, 2) := by decide +kernel
theorem dX7_goes_15 : decode cX7_goes 15 = .ok (.aload_n 0, 1) := by decide +kernel
theorem dX7_goes_16 : decode cX7_goes 16 = .ok (.getfield 44, 3) := by decide +kernel
theorem dX7_goes_19 : decode cX7_goes 19 = .ok (.iload_n 2, 1) := by decide +kernel
theorem dX7_goes_20 : decode cX7_goes 20 = .ok (.iaload, 1) := by decide +kernel
theorem dX7_goes_21 : decode cX7_goes 21 = .ok (.istore 5, 2) := by decide +kernel
theorem dX7_goes_23 : decode cX7_goes 23 = .ok (.iload 4, 2) := by decide +kernel
theorem dX7_goes_25 : decode cX7_goes 25 = .ok (.invokestatic 129, 3) := by decide +kernel
theorem dX7_goes_28 : decode cX7_goes 28 = .ok (.ifCond .eq 18, 3) := by decide +kernel
theorem dX7_goes_31 : decode cX7_goes 31 = .ok (.aload_n 0, 1) := by decide +kernel
theorem dX7_goes_32 : decode cX7_goes 32 = .ok (.getfield 59, 3) := by decide +kernel
theorem dX7_goes_35 : decode cX7_goes 35 = .ok (.bipush 8, 2) := by decide +kernel
theorem dX7_goes_37 : decode cX7_goes 37 = .ok (.iload_n 1, 1) := by decide +kernel
theorem dX7_goes_38 : decode cX7_goes 38 = .ok (.imul, 1) := by decide +kernel
theorem dX7_goes_39 : decode cX7_goes 39 = .ok (.iload 4, 2) := by decide +kernel
theorem dX7_goes_41 : decode cX7_goes 41 = .ok (.iadd, 1) := by decide +kernel
theorem dX7_goes_42 : decode cX7_goes 42 = .ok (.laload, 1) := by decide +kernel
theorem dX7_goes_43 : decode cX7_goes 43 = .ok (.goto 4, 3) := by decide +kernel
theorem dX7_goes_46 : decode cX7_goes 46 = .ok (.lconst 0, 1) := by decide +kernel
theorem dX7_goes_47 : decode cX7_goes 47 = .ok (.lstore 6, 2) := by decide +kernel
theorem dX7_goes_49 : decode cX7_goes 49 = .ok (.iload_n 3, 1) := by decide +kernel
theorem dX7_goes_50 : decode cX7_goes 50 = .ok (.invokestatic 129, 3) := by decide +kernel
theorem dX7_goes_53 : decode cX7_goes 53 = .ok (.ifCond .eq 17, 3) := by decide +kernel
theorem dX7_goes_56 : decode cX7_goes 56 = .ok (.aload_n 0, 1) := by decide +kernel
theorem dX7_goes_57 : decode cX7_goes 57 = .ok (.getfield 59, 3) := by decide +kernel
theorem dX7_goes_60 : decode cX7_goes 60 = .ok (.bipush 8, 2) := by decide +kernel
theorem dX7_goes_62 : decode cX7_goes 62 = .ok (.iload_n 1, 1) := by decide +kernel
theorem dX7_goes_63 : decode cX7_goes 63 = .ok (.imul, 1) := by decide +kernel
theorem dX7_goes_64 : decode cX7_goes 64 = .ok (.iload_n 3, 1) := by decide +kernel
theorem dX7_goes_65 : decode cX7_goes 65 = .ok (.iadd, 1) := by decide +kernel
theorem dX7_goes_66 : decode cX7_goes 66 = .ok (.laload, 1) := by decide +kernel
theorem dX7_goes_67 : decode cX7_goes 67 = .ok (.goto 4, 3) := by decide +kernel
theorem dX7_goes_70 : decode cX7_goes 70 = .ok (.lconst 0, 1) := by decide +kernel
theorem dX7_goes_71 : decode cX7_goes 71 = .ok (.lstore 8, 2) := by decide +kernel
theorem dX7_goes_73 : decode cX7_goes 73 = .ok (.aload_n 0, 1) := by decide +kernel
theorem dX7_goes_74 : decode cX7_goes 74 = .ok (.getfield 35, 3) := by decide +kernel
theorem dX7_goes_77 : decode cX7_goes 77 = .ok (.iload_n 2, 1) := by decide +kernel
theorem dX7_goes_78 : decode cX7_goes 78 = .ok (.iaload, 1) := by decide +kernel
theorem dX7_goes_79 : decode cX7_goes 79 = .ok (.tableswitch 572 0 15 #[77, 77, 105, 572, 116, 207, 116, 259, 326, 343, 448, 481, 572, 493, 545, 561], 77) := by decide +kernel
theorem dX7_goes_156 : decode cX7_goes 156 = .ok (.aload_n 0, 1) := by decide +kernel
theorem dX7_goes_157 : decode cX7_goes 157 = .ok (.iload_n 1, 1) := by decide +kernel
theorem dX7_goes_158 : decode cX7_goes 158 = .ok (.iload_n 2, 1) := by decide +kernel
theorem dX7_goes_159 : decode cX7_goes 159 = .ok (.invokevirtual 197, 3) := by decide +kernel
theorem dX7_goes_162 : decode cX7_goes 162 = .ok (.istore 10, 2) := by decide +kernel
theorem dX7_goes_164 : decode cX7_goes 164 = .ok (.aload_n 0, 1) := by decide +kernel
theorem dX7_goes_165 : decode cX7_goes 165 = .ok (.getfield 161, 3) := by decide +kernel
theorem dX7_goes_168 : decode cX7_goes 168 = .ok (.ifCond .ne 483, 3) := by decide +kernel
theorem dX7_goes_171 : decode cX7_goes 171 = .ok (.aload_n 0, 1) := by decide +kernel
theorem dX7_goes_172 : decode cX7_goes 172 = .ok (.iload_n 1, 1) := by decide +kernel
theorem dX7_goes_173 : decode cX7_goes 173 = .ok (.iload_n 3, 1) := by decide +kernel
theorem dX7_goes_174 : decode cX7_goes 174 = .ok (.lconst 1, 1) := by decide +kernel
theorem dX7_goes_175 : decode cX7_goes 175 = .ok (.iload 10, 2) := by decide +kernel
theorem dX7_goes_177 : decode cX7_goes 177 = .ok (.lshl, 1) := by decide +kernel
theorem dX7_goes_178 : decode cX7_goes 178 = .ok (.invokevirtual 188, 3) := by decide +kernel
theorem dX7_goes_181 : decode cX7_goes 181 = .ok (.goto 470, 3) := by decide +kernel
theorem dX7_goes_184 : decode cX7_goes 184 = .ok (.aload_n 0, 1) := by decide +kernel
theorem dX7_goes_185 : decode cX7_goes 185 = .ok (.iload_n 1, 1) := by decide +kernel
theorem dX7_goes_186 : decode cX7_goes 186 = .ok (.iload_n 3, 1) := by decide +kernel
theorem dX7_goes_187 : decode cX7_goes 187 = .ok (.lload 6, 2) := by decide +kernel
theorem dX7_goes_189 : decode cX7_goes 189 = .ok (.invokevirtual 188, 3) := by decide +kernel
theorem dX7_goes_192 : decode cX7_goes 192 = .ok (.goto 459, 3) := by decide +kernel
theorem dX7_goes_195 : decode cX7_goes 195 = .ok (.iconst 0, 1) := by decide +kernel
theorem dX7_goes_196 : decode cX7_goes 196 = .ok (.istore 11, 2) := by decide +kernel
theorem dX7_goes_198 : decode cX7_goes 198 = .ok (.iload 11, 2) := by decide +kernel
theorem dX7_goes_200 : decode cX7_goes 200 = .ok (.aload_n 0, 1) := by decide +kernel
theorem dX7_goes_201 : decode cX7_goes 201 = .ok (.getfield 167, 3) := by decide +kernel
theorem dX7_goes_204 : decode cX7_goes 204 = .ok (.if_icmp .ge 79, 3) := by decide +kernel
theorem dX7_goes_207 : decode cX7_goes 207 = .ok (.lload 6, 2) := by decide +kernel
theorem dX7_goes_209 : decode cX7_goes 209 = .ok (.iload 11, 2) := by decide +kernel
theorem dX7_goes_211 : decode cX7_goes 211 = .ok (.lshr, 1) := by decide +kernel
theorem dX7_goes_212 : decode cX7_goes 212 = .ok (.lconst 1, 1) := by decide +kernel
theorem dX7_goes_213 : decode cX7_goes 213 = .ok (.land, 1) := by decide +kernel
theorem dX7_goes_214 : decode cX7_goes 214 = .ok (.lconst 1, 1) := by decide +kernel
theorem dX7_goes_215 : decode cX7_goes 215 = .ok (.lcmp, 1) := by decide +kernel
theorem dX7_goes_216 : decode cX7_goes 216 = .ok (.ifCond .ne 61, 3) := by decide +kernel
theorem dX7_goes_219 : decode cX7_goes 219 = .ok (.aload_n 0, 1) := by decide +kernel
theorem dX7_goes_220 : decode cX7_goes 220 = .ok (.iload 11, 2) := by decide +kernel
theorem dX7_goes_222 : decode cX7_goes 222 = .ok (.invokevirtual 200, 3) := by decide +kernel
theorem dX7_goes_225 : decode cX7_goes 225 = .ok (.aload_n 0, 1) := by decide +kernel
theorem dX7_goes_226 : decode cX7_goes 226 = .ok (.getfield 35, 3) := by decide +kernel
theorem dX7_goes_229 : decode cX7_goes 229 = .ok (.iload_n 2, 1) := by decide +kernel
theorem dX7_goes_230 : decode cX7_goes 230 = .ok (.iaload, 1) := by decide +kernel
theorem dX7_goes_231 : decode cX7_goes 231 = .ok (.bipush 6, 2) := by decide +kernel
theorem dX7_goes_233 : decode cX7_goes 233 = .ok (.if_icmp .ne 7, 3) := by decide +kernel
theorem dX7_goes_236 : decode cX7_goes 236 = .ok (.iconst 1, 1) := by decide +kernel
theorem dX7_goes_237 : decode cX7_goes 237 = .ok (.goto 4, 3) := by decide +kernel
theorem dX7_goes_240 : decode cX7_goes 240 = .ok (.iconst 0, 1) := by decide +kernel
theorem dX7_goes_241 : decode cX7_goes 241 = .ok (.if_icmp .ne 36, 3) := by decide +kernel
theorem dX7_goes_244 : decode cX7_goes 244 = .ok (.aload_n 0, 1) := by decide +kernel
theorem dX7_goes_245 : decode cX7_goes 245 = .ok (.iload_n 1, 1) := by decide +kernel
theorem dX7_goes_246 : decode cX7_goes 246 = .ok (.iload_n 3, 1) := by decide +kernel
theorem dX7_goes_247 : decode cX7_goes 247 = .ok (.aload_n 0, 1) := by decide +kernel
theorem dX7_goes_248 : decode cX7_goes 248 = .ok (.getfield 69, 3) := by decide +kernel
theorem dX7_goes_251 : decode cX7_goes 251 = .ok (.iconst 5, 1) := by decide +kernel
theorem dX7_goes_252 : decode cX7_goes 252 = .ok (.iload 11, 2) := by decide +kernel
theorem dX7_goes_254 : decode cX7_goes 254 = .ok (.imul, 1) := by decide +kernel
theorem dX7_goes_255 : decode cX7_goes 255 = .ok (.aload_n 0, 1) := by decide +kernel
theorem dX7_goes_256 : decode cX7_goes 256 = .ok (.getfield 35, 3) := by decide +kernel
theorem dX7_goes_259 : decode cX7_goes 259 = .ok (.iload_n 2, 1) := by decide +kernel
theorem dX7_goes_260 : decode cX7_goes 260 = .ok (.iaload, 1) := by decide +kernel
theorem dX7_goes_261 : decode cX7_goes 261 = .ok (.bipush 6, 2) := by decide +kernel
theorem dX7_goes_263 : decode cX7_goes 263 = .ok (.if_icmp .ne 7, 3) := by decide +kernel
theorem dX7_goes_266 : decode cX7_goes 266 = .ok (.iconst 4, 1) := by decide +kernel
theorem dX7_goes_267 : decode cX7_goes 267 = .ok (.goto 5, 3) := by decide +kernel
theorem dX7_goes_270 : decode cX7_goes 270 = .ok (.iload 5, 2) := by decide +kernel
theorem dX7_goes_272 : decode cX7_goes 272 = .ok (.iadd, 1) := by decide +kernel
theorem dX7_goes_273 : decode cX7_goes 273 = .ok (.laload, 1) := by decide +kernel
theorem dX7_goes_274 : decode cX7_goes 274 = .ok (.invokevirtual 188, 3) := by decide +kernel
theorem dX7_goes_277 : decode cX7_goes 277 = .ok (.iinc 11 1, 3) := by decide +kernel
theorem dX7_goes_280 : decode cX7_goes 280 = .ok (.goto (-82), 3) := by decide +kernel
theorem dX7_goes_283 : decode cX7_goes 283 = .ok (.goto 368, 3) := by decide +kernel
theorem dX7_goes_286 : decode cX7_goes 286 = .ok (.iconst 0, 1) := by decide +kernel
theorem dX7_goes_287 : decode cX7_goes 287 = .ok (.istore 11, 2) := by decide +kernel
theorem dX7_goes_289 : decode cX7_goes 289 = .ok (.iload 11, 2) := by decide +kernel
theorem dX7_goes_291 : decode cX7_goes 291 = .ok (.aload_n 0, 1) := by decide +kernel
theorem dX7_goes_292 : decode cX7_goes 292 = .ok (.getfield 167, 3) := by decide +kernel
theorem dX7_goes_295 : decode cX7_goes 295 = .ok (.if_icmp .ge 40, 3) := by decide +kernel
theorem dX7_goes_298 : decode cX7_goes 298 = .ok (.lload 8, 2) := by decide +kernel
theorem dX7_goes_300 : decode cX7_goes 300 = .ok (.iload 11, 2) := by decide +kernel
theorem dX7_goes_302 : decode cX7_goes 302 = .ok (.lshr, 1) := by decide +kernel
theorem dX7_goes_303 : decode cX7_goes 303 = .ok (.lconst 1, 1) := by decide +kernel
theorem dX7_goes_304 : decode cX7_goes 304 = .ok (.land, 1) := by decide +kernel
theorem dX7_goes_305 : decode cX7_goes 305 = .ok (.lconst 1, 1) := by decide +kernel
theorem dX7_goes_306 : decode cX7_goes 306 = .ok (.lcmp, 1) := by decide +kernel
theorem dX7_goes_307 : decode cX7_goes 307 = .ok (.ifCond .ne 22, 3) := by decide +kernel
theorem dX7_goes_310 : decode cX7_goes 310 = .ok (.aload_n 0, 1) := by decide +kernel
theorem dX7_goes_311 : decode cX7_goes 311 = .ok (.iload 11, 2) := by decide +kernel
theorem dX7_goes_313 : decode cX7_goes 313 = .ok (.invokevirtual 200, 3) := by decide +kernel
theorem dX7_goes_316 : decode cX7_goes 316 = .ok (.ifCond .ne 13, 3) := by decide +kernel
theorem dX7_goes_319 : decode cX7_goes 319 = .ok (.aload_n 0, 1) := by decide +kernel
theorem dX7_goes_320 : decode cX7_goes 320 = .ok (.iload 11, 2) := by decide +kernel
theorem dX7_goes_322 : decode cX7_goes 322 = .ok (.iload 5, 2) := by decide +kernel
theorem dX7_goes_324 : decode cX7_goes 324 = .ok (.lload 6, 2) := by decide +kernel
theorem dX7_goes_326 : decode cX7_goes 326 = .ok (.invokevirtual 203, 3) := by decide +kernel
theorem dX7_goes_329 : decode cX7_goes 329 = .ok (.iinc 11 1, 3) := by decide +kernel
theorem dX7_goes_332 : decode cX7_goes 332 = .ok (.goto (-43), 3) := by decide +kernel
theorem dX7_goes_335 : decode cX7_goes 335 = .ok (.goto 316, 3) := by decide +kernel
theorem dX7_goes_338 : decode cX7_goes 338 = .ok (.iconst 0, 1) := by decide +kernel
theorem dX7_goes_339 : decode cX7_goes 339 = .ok (.istore 11, 2) := by decide +kernel
theorem dX7_goes_341 : decode cX7_goes 341 = .ok (.iload 11, 2) := by decide +kernel
theorem dX7_goes_343 : decode cX7_goes 343 = .ok (.aload_n 0, 1) := by decide +kernel
theorem dX7_goes_344 : decode cX7_goes 344 = .ok (.getfield 167, 3) := by decide +kernel
theorem dX7_goes_347 : decode cX7_goes 347 = .ok (.if_icmp .ge 55, 3) := by decide +kernel
theorem dX7_goes_350 : decode cX7_goes 350 = .ok (.lload 8, 2) := by decide +kernel
theorem dX7_goes_352 : decode cX7_goes 352 = .ok (.iload 11, 2) := by decide +kernel
theorem dX7_goes_354 : decode cX7_goes 354 = .ok (.lshr, 1) := by decide +kernel
theorem dX7_goes_355 : decode cX7_goes 355 = .ok (.lconst 1, 1) := by decide +kernel
theorem dX7_goes_356 : decode cX7_goes 356 = .ok (.land, 1) := by decide +kernel
theorem dX7_goes_357 : decode cX7_goes 357 = .ok (.lconst 1, 1) := by decide +kernel
theorem dX7_goes_358 : decode cX7_goes 358 = .ok (.lcmp, 1) := by decide +kernel
theorem dX7_goes_359 : decode cX7_goes 359 = .ok (.ifCond .ne 37, 3) := by decide +kernel
theorem dX7_goes_362 : decode cX7_goes 362 = .ok (.aload_n 0, 1) := by decide +kernel
theorem dX7_goes_363 : decode cX7_goes 363 = .ok (.iload 11, 2) := by decide +kernel
theorem dX7_goes_365 : decode cX7_goes 365 = .ok (.invokevirtual 200, 3) := by decide +kernel
theorem dX7_goes_368 : decode cX7_goes 368 = .ok (.ifCond .eq 28, 3) := by decide +kernel
theorem dX7_goes_371 : decode cX7_goes 371 = .ok (.aload_n 0, 1) := by decide +kernel
theorem dX7_goes_372 : decode cX7_goes 372 = .ok (.iload 11, 2) := by decide +kernel
theorem dX7_goes_374 : decode cX7_goes 374 = .ok (.iconst 4, 1) := by decide +kernel
theorem dX7_goes_375 : decode cX7_goes 375 = .ok (.aload_n 0, 1) := by decide +kernel
theorem dX7_goes_376 : decode cX7_goes 376 = .ok (.lload 6, 2) := by decide +kernel
theorem dX7_goes_378 : decode cX7_goes 378 = .ok (.aload_n 0, 1) := by decide +kernel
theorem dX7_goes_379 : decode cX7_goes 379 = .ok (.getfield 41, 3) := by decide +kernel
theorem dX7_goes_382 : decode cX7_goes 382 = .ok (.aload_n 0, 1) := by decide +kernel
theorem dX7_goes_383 : decode cX7_goes 383 = .ok (.getfield 63, 3) := by decide +kernel
theorem dX7_goes_386 : decode cX7_goes 386 = .ok (.iload 11, 2) := by decide +kernel
theorem dX7_goes_388 : decode cX7_goes 388 = .ok (.iaload, 1) := by decide +kernel
theorem dX7_goes_389 : decode cX7_goes 389 = .ok (.iaload, 1) := by decide +kernel
theorem dX7_goes_390 : decode cX7_goes 390 = .ok (.invokevirtual 184, 3) := by decide +kernel
theorem dX7_goes_393 : decode cX7_goes 393 = .ok (.invokevirtual 203, 3) := by decide +kernel
theorem dX7_goes_396 : decode cX7_goes 396 = .ok (.iinc 11 1, 3) := by decide +kernel
theorem dX7_goes_399 : decode cX7_goes 399 = .ok (.goto (-58), 3) := by decide +kernel
theorem dX7_goes_402 : decode cX7_goes 402 = .ok (.goto 249, 3) := by decide +kernel
theorem dX7_goes_405 : decode cX7_goes 405 = .ok (.aload_n 0, 1) := by decide +kernel
theorem dX7_goes_406 : decode cX7_goes 406 = .ok (.iload_n 1, 1) := by decide +kernel
theorem dX7_goes_407 : decode cX7_goes 407 = .ok (.iload_n 3, 1) := by decide +kernel
theorem dX7_goes_408 : decode cX7_goes 408 = .ok (.aload_n 0, 1) := by decide +kernel
theorem dX7_goes_409 : decode cX7_goes 409 = .ok (.lload 6, 2) := by decide +kernel
theorem dX7_goes_411 : decode cX7_goes 411 = .ok (.iload 5, 2) := by decide +kernel
theorem dX7_goes_413 : decode cX7_goes 413 = .ok (.invokevirtual 184, 3) := by decide +kernel
theorem dX7_goes_416 : decode cX7_goes 416 = .ok (.invokevirtual 188, 3) := by decide +kernel
theorem dX7_goes_419 : decode cX7_goes 419 = .ok (.goto 232, 3) := by decide +kernel
theorem dX7_goes_422 : decode cX7_goes 422 = .ok (.iconst 0, 1) := by decide +kernel
theorem dX7_goes_423 : decode cX7_goes 423 = .ok (.istore 11, 2) := by decide +kernel
theorem dX7_goes_425 : decode cX7_goes 425 = .ok (.iload 11, 2) := by decide +kernel
theorem dX7_goes_427 : decode cX7_goes 427 = .ok (.aload_n 0, 1) := by decide +kernel
theorem dX7_goes_428 : decode cX7_goes 428 = .ok (.getfield 167, 3) := by decide +kernel
theorem dX7_goes_431 : decode cX7_goes 431 = .ok (.if_icmp .ge 93, 3) := by decide +kernel
theorem dX7_goes_434 : decode cX7_goes 434 = .ok (.aload_n 0, 1) := by decide +kernel
theorem dX7_goes_435 : decode cX7_goes 435 = .ok (.getfield 161, 3) := by decide +kernel
theorem dX7_goes_438 : decode cX7_goes 438 = .ok (.ifCond .ne 86, 3) := by decide +kernel
theorem dX7_goes_441 : decode cX7_goes 441 = .ok (.lload 6, 2) := by decide +kernel
theorem dX7_goes_443 : decode cX7_goes 443 = .ok (.iload 11, 2) := by decide +kernel
theorem dX7_goes_445 : decode cX7_goes 445 = .ok (.lshr, 1) := by decide +kernel
theorem dX7_goes_446 : decode cX7_goes 446 = .ok (.lconst 1, 1) := by decide +kernel
theorem dX7_goes_447 : decode cX7_goes 447 = .ok (.land, 1) := by decide +kernel
theorem dX7_goes_448 : decode cX7_goes 448 = .ok (.lconst 1, 1) := by decide +kernel
theorem dX7_goes_449 : decode cX7_goes 449 = .ok (.lcmp, 1) := by decide +kernel
theorem dX7_goes_450 : decode cX7_goes 450 = .ok (.ifCond .ne 18, 3) := by decide +kernel
theorem dX7_goes_453 : decode cX7_goes 453 = .ok (.aload_n 0, 1) := by decide +kernel
theorem dX7_goes_454 : decode cX7_goes 454 = .ok (.aload_n 0, 1) := by decide +kernel
theorem dX7_goes_455 : decode cX7_goes 455 = .ok (.iload 11, 2) := by decide +kernel
theorem dX7_goes_457 : decode cX7_goes 457 = .ok (.invokevirtual 174, 3) := by decide +kernel
theorem dX7_goes_460 : decode cX7_goes 460 = .ok (.iload 5, 2) := by decide +kernel
theorem dX7_goes_462 : decode cX7_goes 462 = .ok (.invokevirtual 206, 3) := by decide +kernel
theorem dX7_goes_465 : decode cX7_goes 465 = .ok (.goto 4, 3) := by decide +kernel
theorem dX7_goes_468 : decode cX7_goes 468 = .ok (.iconst (-1), 1) := by decide +kernel
theorem dX7_goes_469 : decode cX7_goes 469 = .ok (.istore 12, 2) := by decide +kernel
theorem dX7_goes_471 : decode cX7_goes 471 = .ok (.iload 12, 2) := by decide +kernel
theorem dX7_goes_473 : decode cX7_goes 473 = .ok (.ifCond .lt 45, 3) := by decide +kernel
theorem dX7_goes_476 : decode cX7_goes 476 = .ok (.aload_n 0, 1) := by decide +kernel
theorem dX7_goes_477 : decode cX7_goes 477 = .ok (.iload_n 1, 1) := by decide +kernel
theorem dX7_goes_478 : decode cX7_goes 478 = .ok (.iload_n 2, 1) := by decide +kernel
theorem dX7_goes_479 : decode cX7_goes 479 = .ok (.iload 11, 2) := by decide +kernel
theorem dX7_goes_481 : decode cX7_goes 481 = .ok (.invokevirtual 209, 3) := by decide +kernel
theorem dX7_goes_484 : decode cX7_goes 484 = .ok (.aload_n 0, 1) := by decide +kernel
theorem dX7_goes_485 : decode cX7_goes 485 = .ok (.iload 12, 2) := by decide +kernel
theorem dX7_goes_487 : decode cX7_goes 487 = .ok (.invokevirtual 213, 3) := by decide +kernel
theorem dX7_goes_490 : decode cX7_goes 490 = .ok (.istore 13, 2) := by decide +kernel
theorem dX7_goes_492 : decode cX7_goes 492 = .ok (.aload_n 0, 1) := by decide +kernel
theorem dX7_goes_493 : decode cX7_goes 493 = .ok (.getfield 161, 3) := by decide +kernel
theorem dX7_goes_496 : decode cX7_goes 496 = .ok (.ifCond .ne 22, 3) := by decide +kernel
theorem dX7_goes_499 : decode cX7_goes 499 = .ok (.aload_n 0, 1) := by decide +kernel
theorem dX7_goes_500 : decode cX7_goes 500 = .ok (.iload 13, 2) := by decide +kernel
theorem dX7_goes_502 : decode cX7_goes 502 = .ok (.iconst 0, 1) := by decide +kernel
theorem dX7_goes_503 : decode cX7_goes 503 = .ok (.lconst 1, 1) := by decide +kernel
theorem dX7_goes_504 : decode cX7_goes 504 = .ok (.iload 11, 2) := by decide +kernel
theorem dX7_goes_506 : decode cX7_goes 506 = .ok (.lshl, 1) := by decide +kernel
theorem dX7_goes_507 : decode cX7_goes 507 = .ok (.invokevirtual 188, 3) := by decide +kernel
theorem dX7_goes_510 : decode cX7_goes 510 = .ok (.aload_n 0, 1) := by decide +kernel
theorem dX7_goes_511 : decode cX7_goes 511 = .ok (.iload_n 1, 1) := by decide +kernel
theorem dX7_goes_512 : decode cX7_goes 512 = .ok (.iload_n 2, 1) := by decide +kernel
theorem dX7_goes_513 : decode cX7_goes 513 = .ok (.iload 13, 2) := by decide +kernel
theorem dX7_goes_515 : decode cX7_goes 515 = .ok (.invokevirtual 216, 3) := by decide +kernel
theorem dX7_goes_518 : decode cX7_goes 518 = .ok (.iinc 11 1, 3) := by decide +kernel
theorem dX7_goes_521 : decode cX7_goes 521 = .ok (.goto (-96), 3) := by decide +kernel
theorem dX7_goes_524 : decode cX7_goes 524 = .ok (.goto 127, 3) := by decide +kernel
theorem dX7_goes_527 : decode cX7_goes 527 = .ok (.aload_n 0, 1) := by decide +kernel
theorem dX7_goes_528 : decode cX7_goes 528 = .ok (.iload_n 1, 1) := by decide +kernel
theorem dX7_goes_529 : decode cX7_goes 529 = .ok (.iload_n 2, 1) := by decide +kernel
theorem dX7_goes_530 : decode cX7_goes 530 = .ok (.iconst (-1), 1) := by decide +kernel
theorem dX7_goes_531 : decode cX7_goes 531 = .ok (.invokevirtual 209, 3) := by decide +kernel
theorem dX7_goes_534 : decode cX7_goes 534 = .ok (.aload_n 0, 1) := by decide +kernel
theorem dX7_goes_535 : decode cX7_goes 535 = .ok (.iload 5, 2) := by decide +kernel
theorem dX7_goes_537 : decode cX7_goes 537 = .ok (.invokevirtual 213, 3) := by decide +kernel
theorem dX7_goes_540 : decode cX7_goes 540 = .ok (.istore 11, 2) := by decide +kernel
theorem dX7_goes_542 : decode cX7_goes 542 = .ok (.aload_n 0, 1) := by decide +kernel
theorem dX7_goes_543 : decode cX7_goes 543 = .ok (.getfield 161, 3) := by decide +kernel
theorem dX7_goes_546 : decode cX7_goes 546 = .ok (.ifCond .ne 105, 3) := by decide +kernel
theorem dX7_goes_549 : decode cX7_goes 549 = .ok (.aload_n 0, 1) := by decide +kernel
theorem dX7_goes_550 : decode cX7_goes 550 = .ok (.iload_n 1, 1) := by decide +kernel
theorem dX7_goes_551 : decode cX7_goes 551 = .ok (.iload_n 2, 1) := by decide +kernel
theorem dX7_goes_552 : decode cX7_goes 552 = .ok (.iload 11, 2) := by decide +kernel
theorem dX7_goes_554 : decode cX7_goes 554 = .ok (.invokevirtual 216, 3) := by decide +kernel
theorem dX7_goes_557 : decode cX7_goes 557 = .ok (.goto 94, 3) := by decide +kernel
theorem dX7_goes_560 : decode cX7_goes 560 = .ok (.aload_n 0, 1) := by decide +kernel
theorem dX7_goes_561 : decode cX7_goes 561 = .ok (.iload_n 1, 1) := by decide +kernel
theorem dX7_goes_562 : decode cX7_goes 562 = .ok (.bipush 6, 2) := by decide +kernel
theorem dX7_goes_564 : decode cX7_goes 564 = .ok (.lload 8, 2) := by decide +kernel
theorem dX7_goes_566 : decode cX7_goes 566 = .ok (.invokevirtual 188, 3) := by decide +kernel
theorem dX7_goes_569 : decode cX7_goes 569 = .ok (.goto 82, 3) := by decide +kernel
theorem dX7_goes_572 : decode cX7_goes 572 = .ok (.aload_n 0, 1) := by decide +kernel
theorem dX7_goes_573 : decode cX7_goes 573 = .ok (.aload_n 0, 1) := by decide +kernel
theorem dX7_goes_574 : decode cX7_goes 574 = .ok (.getfield 164, 3) := by decide +kernel
theorem dX7_goes_577 : decode cX7_goes 577 = .ok (.ifCond .ne 24, 3) := by decide +kernel
theorem dX7_goes_580 : decode cX7_goes 580 = .ok (.aload_n 0, 1) := by decide +kernel
theorem dX7_goes_581 : decode cX7_goes 581 = .ok (.getfield 72, 3) := by decide +kernel
theorem dX7_goes_584 : decode cX7_goes 584 = .ok (.iload 5, 2) := by decide +kernel
theorem dX7_goes_586 : decode cX7_goes 586 = .ok (.laload, 1) := by decide +kernel
theorem dX7_goes_587 : decode cX7_goes 587 = .ok (.lload 8, 2) := by decide +kernel
theorem dX7_goes_589 : decode cX7_goes 589 = .ok (.lor, 1) := by decide +kernel
theorem dX7_goes_590 : decode cX7_goes 590 = .ok (.aload_n 0, 1) := by decide +kernel
theorem dX7_goes_591 : decode cX7_goes 591 = .ok (.getfield 72, 3) := by decide +kernel
theorem dX7_goes_594 : decode cX7_goes 594 = .ok (.iload 5, 2) := by decide +kernel
theorem dX7_goes_596 : decode cX7_goes 596 = .ok (.laload, 1) := by decide +kernel
theorem dX7_goes_597 : decode cX7_goes 597 = .ok (.lcmp, 1) := by decide +kernel
theorem dX7_goes_598 : decode cX7_goes 598 = .ok (.ifCond .eq 7, 3) := by decide +kernel
theorem dX7_goes_601 : decode cX7_goes 601 = .ok (.iconst 1, 1) := by decide +kernel
theorem dX7_goes_602 : decode cX7_goes 602 = .ok (.goto 4, 3) := by decide +kernel
theorem dX7_goes_605 : decode cX7_goes 605 = .ok (.iconst 0, 1) := by decide +kernel
theorem dX7_goes_606 : decode cX7_goes 606 = .ok (.putfield 164, 3) := by decide +kernel
theorem dX7_goes_609 : decode cX7_goes 609 = .ok (.aload_n 0, 1) := by decide +kernel
theorem dX7_goes_610 : decode cX7_goes 610 = .ok (.getfield 72, 3) := by decide +kernel
theorem dX7_goes_613 : decode cX7_goes 613 = .ok (.iload 5, 2) := by decide +kernel
theorem dX7_goes_615 : decode cX7_goes 615 = .ok (.dup2, 1) := by decide +kernel
theorem dX7_goes_616 : decode cX7_goes 616 = .ok (.laload, 1) := by decide +kernel
theorem dX7_goes_617 : decode cX7_goes 617 = .ok (.lload 8, 2) := by decide +kernel
theorem dX7_goes_619 : decode cX7_goes 619 = .ok (.lor, 1) := by decide +kernel
theorem dX7_goes_620 : decode cX7_goes 620 = .ok (.lastore, 1) := by decide +kernel
theorem dX7_goes_621 : decode cX7_goes 621 = .ok (.goto 30, 3) := by decide +kernel
theorem dX7_goes_624 : decode cX7_goes 624 = .ok (.aload_n 0, 1) := by decide +kernel
theorem dX7_goes_625 : decode cX7_goes 625 = .ok (.iload_n 1, 1) := by decide +kernel
theorem dX7_goes_626 : decode cX7_goes 626 = .ok (.iload_n 3, 1) := by decide +kernel
theorem dX7_goes_627 : decode cX7_goes 627 = .ok (.aload_n 0, 1) := by decide +kernel
theorem dX7_goes_628 : decode cX7_goes 628 = .ok (.getfield 72, 3) := by decide +kernel
theorem dX7_goes_631 : decode cX7_goes 631 = .ok (.iload 5, 2) := by decide +kernel
theorem dX7_goes_633 : decode cX7_goes 633 = .ok (.laload, 1) := by decide +kernel
theorem dX7_goes_634 : decode cX7_goes 634 = .ok (.invokevirtual 188, 3) := by decide +kernel
theorem dX7_goes_637 : decode cX7_goes 637 = .ok (.goto 14, 3) := by decide +kernel
theorem dX7_goes_640 : decode cX7_goes 640 = .ok (.aload_n 0, 1) := by decide +kernel
theorem dX7_goes_641 : decode cX7_goes 641 = .ok (.iload_n 1, 1) := by decide +kernel
theorem dX7_goes_642 : decode cX7_goes 642 = .ok (.iload_n 2, 1) := by decide +kernel
theorem dX7_goes_643 : decode cX7_goes 643 = .ok (.lload 8, 2) := by decide +kernel
theorem dX7_goes_645 : decode cX7_goes 645 = .ok (.invokevirtual 194, 3) := by decide +kernel
theorem dX7_goes_648 : decode cX7_goes 648 = .ok (.goto 3, 3) := by decide +kernel
theorem dX7_goes_651 : decode cX7_goes 651 = .ok (.return_, 1) := by decide +kernel
theorem dX7_finds_0 : decode cX7_finds 0 = .ok (.aload_n 0, 1) := by decide +kernel
theorem dX7_finds_1 : decode cX7_finds 1 = .ok (.iconst 0, 1) := by decide +kernel
theorem dX7_finds_2 : decode cX7_finds 2 = .ok (.putfield 108, 3) := by decide +kernel
theorem dX7_finds_5 : decode cX7_finds 5 = .ok (.aload_n 0, 1) := by decide +kernel
theorem dX7_finds_6 : decode cX7_finds 6 = .ok (.iconst 0, 1) := by decide +kernel
theorem dX7_finds_7 : decode cX7_finds 7 = .ok (.putfield 167, 3) := by decide +kernel
theorem dX7_finds_10 : decode cX7_finds 10 = .ok (.aload_n 0, 1) := by decide +kernel
theorem dX7_finds_11 : decode cX7_finds 11 = .ok (.iconst 0, 1) := by decide +kernel
theorem dX7_finds_12 : decode cX7_finds 12 = .ok (.putfield 219, 3) := by decide +kernel
theorem dX7_finds_15 : decode cX7_finds 15 = .ok (.aload_n 0, 1) := by decide +kernel
theorem dX7_finds_16 : decode cX7_finds 16 = .ok (.iconst 0, 1) := by decide +kernel
theorem dX7_finds_17 : decode cX7_finds 17 = .ok (.putfield 161, 3) := by decide +kernel
theorem dX7_finds_20 : decode cX7_finds 20 = .ok (.iconst 0, 1) := by decide +kernel
theorem dX7_finds_21 : decode cX7_finds 21 = .ok (.istore_n 1, 1) := by decide +kernel
theorem dX7_finds_22 : decode cX7_finds 22 = .ok (.iload_n 1, 1) := by decide +kernel
theorem dX7_finds_23 : decode cX7_finds 23 = .ok (.iconst 4, 1) := by decide +kernel
theorem dX7_finds_24 : decode cX7_finds 24 = .ok (.if_icmp .ge 16, 3) := by decide +kernel
theorem dX7_finds_27 : decode cX7_finds 27 = .ok (.aload_n 0, 1) := by decide +kernel
theorem dX7_finds_28 : decode cX7_finds 28 = .ok (.getfield 72, 3) := by decide +kernel
theorem dX7_finds_31 : decode cX7_finds 31 = .ok (.iload_n 1, 1) := by decide +kernel
theorem dX7_finds_32 : decode cX7_finds 32 = .ok (.lconst 0, 1) := by decide +kernel
theorem dX7_finds_33 : decode cX7_finds 33 = .ok (.lastore, 1) := by decide +kernel
theorem dX7_finds_34 : decode cX7_finds 34 = .ok (.iinc 1 1, 3) := by decide +kernel
theorem dX7_finds_37 : decode cX7_finds 37 = .ok (.goto (-15), 3) := by decide +kernel
theorem dX7_finds_40 : decode cX7_finds 40 = .ok (.aload_n 0, 1) := by decide +kernel
theorem dX7_finds_41 : decode cX7_finds 41 = .ok (.iconst (-1), 1) := by decide +kernel
theorem dX7_finds_42 : decode cX7_finds 42 = .ok (.putfield 148, 3) := by decide +kernel
theorem dX7_finds_45 : decode cX7_finds 45 = .ok (.aload_n 0, 1) := by decide +kernel
theorem dX7_finds_46 : decode cX7_finds 46 = .ok (.iconst (-1), 1) := by decide +kernel
theorem dX7_finds_47 : decode cX7_finds 47 = .ok (.putfield 151, 3) := by decide +kernel
theorem dX7_finds_50 : decode cX7_finds 50 = .ok (.aload_n 0, 1) := by decide +kernel
theorem dX7_finds_51 : decode cX7_finds 51 = .ok (.aload_n 0, 1) := by decide +kernel
theorem dX7_finds_52 : decode cX7_finds 52 = .ok (.getfield 222, 3) := by decide +kernel
theorem dX7_finds_55 : decode cX7_finds 55 = .ok (.invokevirtual 213, 3) := by decide +kernel
theorem dX7_finds_58 : decode cX7_finds 58 = .ok (.istore_n 1, 1) := by decide +kernel
theorem dX7_finds_59 : decode cX7_finds 59 = .ok (.aload_n 0, 1) := by decide +kernel
theorem dX7_finds_60 : decode cX7_finds 60 = .ok (.iconst 1, 1) := by decide +kernel
theorem dX7_finds_61 : decode cX7_finds 61 = .ok (.putfield 164, 3) := by decide +kernel
theorem dX7_finds_64 : decode cX7_finds 64 = .ok (.aload_n 0, 1) := by decide +kernel
theorem dX7_finds_65 : decode cX7_finds 65 = .ok (.getfield 164, 3) := by decide +kernel
theorem dX7_finds_68 : decode cX7_finds 68 = .ok (.ifCond .eq 102, 3) := by decide +kernel
theorem dX7_finds_71 : decode cX7_finds 71 = .ok (.aload_n 0, 1) := by decide +kernel
theorem dX7_finds_72 : decode cX7_finds 72 = .ok (.getfield 161, 3) := by decide +kernel
theorem dX7_finds_75 : decode cX7_finds 75 = .ok (.ifCond .ne 95, 3) := by decide +kernel
theorem dX7_finds_78 : decode cX7_finds 78 = .ok (.aload_n 0, 1) := by decide +kernel
theorem dX7_finds_79 : decode cX7_finds 79 = .ok (.iconst 0, 1) := by decide +kernel
theorem dX7_finds_80 : decode cX7_finds 80 = .ok (.putfield 164, 3) := by decide +kernel
theorem dX7_finds_83 : decode cX7_finds 83 = .ok (.aload_n 0, 1) := by decide +kernel
theorem dX7_finds_84 : decode cX7_finds 84 = .ok (.dup, 1) := by decide +kernel
theorem dX7_finds_85 : decode cX7_finds 85 = .ok (.getfield 219, 3) := by decide +kernel
theorem dX7_finds_88 : decode cX7_finds 88 = .ok (.iconst 1, 1) := by decide +kernel
theorem dX7_finds_89 : decode cX7_finds 89 = .ok (.iadd, 1) := by decide +kernel
theorem dX7_finds_90 : decode cX7_finds 90 = .ok (.putfield 219, 3) := by decide +kernel
theorem dX7_finds_93 : decode cX7_finds 93 = .ok (.iconst 0, 1) := by decide +kernel
theorem dX7_finds_94 : decode cX7_finds 94 = .ok (.istore_n 2, 1) := by decide +kernel
theorem dX7_finds_95 : decode cX7_finds 95 = .ok (.iload_n 2, 1) := by decide +kernel
theorem dX7_finds_96 : decode cX7_finds 96 = .ok (.aload_n 0, 1) := by decide +kernel
theorem dX7_finds_97 : decode cX7_finds 97 = .ok (.getfield 108, 3) := by decide +kernel
theorem dX7_finds_100 : decode cX7_finds 100 = .ok (.if_icmp .ge 67, 3) := by decide +kernel
theorem dX7_finds_103 : decode cX7_finds 103 = .ok (.aload_n 0, 1) := by decide +kernel
theorem dX7_finds_104 : decode cX7_finds 104 = .ok (.getfield 161, 3) := by decide +kernel
theorem dX7_finds_107 : decode cX7_finds 107 = .ok (.ifCond .ne 60, 3) := by decide +kernel
theorem dX7_finds_110 : decode cX7_finds 110 = .ok (.iconst 0, 1) := by decide +kernel
theorem dX7_finds_111 : decode cX7_finds 111 = .ok (.istore_n 3, 1) := by decide +kernel
theorem dX7_finds_112 : decode cX7_finds 112 = .ok (.iload_n 3, 1) := by decide +kernel
theorem dX7_finds_113 : decode cX7_finds 113 = .ok (.aload_n 0, 1) := by decide +kernel
theorem dX7_finds_114 : decode cX7_finds 114 = .ok (.getfield 23, 3) := by decide +kernel
theorem dX7_finds_117 : decode cX7_finds 117 = .ok (.aload_n 0, 1) := by decide +kernel
theorem dX7_finds_118 : decode cX7_finds 118 = .ok (.getfield 50, 3) := by decide +kernel
theorem dX7_finds_121 : decode cX7_finds 121 = .ok (.iload_n 2, 1) := by decide +kernel
theorem dX7_finds_122 : decode cX7_finds 122 = .ok (.iaload, 1) := by decide +kernel
theorem dX7_finds_123 : decode cX7_finds 123 = .ok (.iaload, 1) := by decide +kernel
theorem dX7_finds_124 : decode cX7_finds 124 = .ok (.if_icmp .ge 37, 3) := by decide +kernel
theorem dX7_finds_127 : decode cX7_finds 127 = .ok (.aload_n 0, 1) := by decide +kernel
theorem dX7_finds_128 : decode cX7_finds 128 = .ok (.getfield 161, 3) := by decide +kernel
theorem dX7_finds_131 : decode cX7_finds 131 = .ok (.ifCond .ne 30, 3) := by decide +kernel
theorem dX7_finds_134 : decode cX7_finds 134 = .ok (.aload_n 0, 1) := by decide +kernel
theorem dX7_finds_135 : decode cX7_finds 135 = .ok (.iload_n 2, 1) := by decide +kernel
theorem dX7_finds_136 : decode cX7_finds 136 = .ok (.aload_n 0, 1) := by decide +kernel
theorem dX7_finds_137 : decode cX7_finds 137 = .ok (.getfield 26, 3) := by decide +kernel
theorem dX7_finds_140 : decode cX7_finds 140 = .ok (.bipush 90, 2) := by decide +kernel
theorem dX7_finds_142 : decode cX7_finds 142 = .ok (.aload_n 0, 1) := by decide +kernel
theorem dX7_finds_143 : decode cX7_finds 143 = .ok (.getfield 50, 3) := by decide +kernel
theorem dX7_finds_146 : decode cX7_finds 146 = .ok (.iload_n 2, 1) := by decide +kernel
theorem dX7_finds_147 : decode cX7_finds 147 = .ok (.iaload, 1) := by decide +kernel
theorem dX7_finds_148 : decode cX7_finds 148 = .ok (.imul, 1) := by decide +kernel
theorem dX7_finds_149 : decode cX7_finds 149 = .ok (.iload_n 3, 1) := by decide +kernel
theorem dX7_finds_150 : decode cX7_finds 150 = .ok (.iadd, 1) := by decide +kernel
theorem dX7_finds_151 : decode cX7_finds 151 = .ok (.iaload, 1) := by decide +kernel
theorem dX7_finds_152 : decode cX7_finds 152 = .ok (.invokevirtual 225, 3) := by decide +kernel
theorem dX7_finds_155 : decode cX7_finds 155 = .ok (.iinc 3 1, 3) := by decide +kernel
theorem dX7_finds_158 : decode cX7_finds 158 = .ok (.goto (-46), 3) := by decide +kernel
theorem dX7_finds_161 : decode cX7_finds 161 = .ok (.iinc 2 1, 3) := by decide +kernel
theorem dX7_finds_164 : decode cX7_finds 164 = .ok (.goto (-69), 3) := by decide +kernel
theorem dX7_finds_167 : decode cX7_finds 167 = .ok (.goto (-103), 3) := by decide +kernel
theorem dX7_finds_170 : decode cX7_finds 170 = .ok (.return_, 1) := by decide +kernel
theorem dX7_findsAll_0 : decode cX7_findsAll 0 = .ok (.aload_n 0, 1) := by decide +kernel
theorem dX7_findsAll_1 : decode cX7_findsAll 1 = .ok (.iload_n 1, 1) := by decide +kernel
theorem dX7_findsAll_2 : decode cX7_findsAll 2 = .ok (.putfield 145, 3) := by decide +kernel
theorem dX7_findsAll_5 : decode cX7_findsAll 5 = .ok (.aload_n 0, 1) := by decide +kernel
theorem dX7_findsAll_6 : decode cX7_findsAll 6 = .ok (.iload_n 2, 1) := by decide +kernel
theorem dX7_findsAll_7 : decode cX7_findsAll 7 = .ok (.putfield 154, 3) := by decide +kernel
theorem dX7_findsAll_10 : decode cX7_findsAll 10 = .ok (.aload_n 0, 1) := by decide +kernel
theorem dX7_findsAll_11 : decode cX7_findsAll 11 = .ok (.invokevirtual 229, 3) := by decide +kernel
theorem dX7_findsAll_14 : decode cX7_findsAll 14 = .ok (.aload_n 0, 1) := by decide +kernel
theorem dX7_findsAll_15 : decode cX7_findsAll 15 = .ok (.getfield 161, 3) := by decide +kernel
theorem dX7_findsAll_18 : decode cX7_findsAll 18 = .ok (.ifCond .eq 20, 3) := by decide +kernel
theorem dX7_findsAll_21 : decode cX7_findsAll 21 = .ok (.aload_n 0, 1) := by decide +kernel
theorem dX7_findsAll_22 : decode cX7_findsAll 22 = .ok (.dup, 1) := by decide +kernel
theorem dX7_findsAll_23 : decode cX7_findsAll 23 = .ok (.getfield 154, 3) := by decide +kernel
theorem dX7_findsAll_26 : decode cX7_findsAll 26 = .ok (.iconst 1, 1) := by decide +kernel
theorem dX7_findsAll_27 : decode cX7_findsAll 27 = .ok (.isub, 1) := by decide +kernel
theorem dX7_findsAll_28 : decode cX7_findsAll 28 = .ok (.putfield 154, 3) := by decide +kernel
theorem dX7_findsAll_31 : decode cX7_findsAll 31 = .ok (.aload_n 0, 1) := by decide +kernel
theorem dX7_findsAll_32 : decode cX7_findsAll 32 = .ok (.invokevirtual 229, 3) := by decide +kernel
theorem dX7_findsAll_35 : decode cX7_findsAll 35 = .ok (.goto (-21), 3) := by decide +kernel
theorem dX7_findsAll_38 : decode cX7_findsAll 38 = .ok (.return_, 1) := by decide +kernel
theorem dX7_work_0 : decode cX7_work 0 = .ok (.aload_n 0, 1) := by decide +kernel
theorem dX7_work_1 : decode cX7_work 1 = .ok (.iload_n 1, 1) := by decide +kernel
theorem dX7_work_2 : decode cX7_work 2 = .ok (.invokevirtual 132, 3) := by decide +kernel
theorem dX7_work_5 : decode cX7_work 5 = .ok (.ifCond .eq 21, 3) := by decide +kernel
theorem dX7_work_8 : decode cX7_work 8 = .ok (.iload_n 2, 1) := by decide +kernel
theorem dX7_work_9 : decode cX7_work 9 = .ok (.iconst 0, 1) := by decide +kernel
theorem dX7_work_10 : decode cX7_work 10 = .ok (.iconst 2, 1) := by decide +kernel
theorem dX7_work_11 : decode cX7_work 11 = .ok (.invokestatic 111, 3) := by decide +kernel
theorem dX7_work_14 : decode cX7_work 14 = .ok (.ifCond .eq 12, 3) := by decide +kernel
theorem dX7_work_17 : decode cX7_work 17 = .ok (.iload_n 3, 1) := by decide +kernel
theorem dX7_work_18 : decode cX7_work 18 = .ok (.iconst 0, 1) := by decide +kernel
theorem dX7_work_19 : decode cX7_work 19 = .ok (.iconst 2, 1) := by decide +kernel
theorem dX7_work_20 : decode cX7_work 20 = .ok (.invokestatic 111, 3) := by decide +kernel
theorem dX7_work_23 : decode cX7_work 23 = .ok (.ifCond .ne 5, 3) := by decide +kernel
theorem dX7_work_26 : decode cX7_work 26 = .ok (.iconst (-1), 1) := by decide +kernel
theorem dX7_work_27 : decode cX7_work 27 = .ok (.ireturn, 1) := by decide +kernel
theorem dX7_work_28 : decode cX7_work 28 = .ok (.aload_n 0, 1) := by decide +kernel
theorem dX7_work_29 : decode cX7_work 29 = .ok (.iload_n 1, 1) := by decide +kernel
theorem dX7_work_30 : decode cX7_work 30 = .ok (.putfield 222, 3) := by decide +kernel
theorem dX7_work_33 : decode cX7_work 33 = .ok (.aload_n 0, 1) := by decide +kernel
theorem dX7_work_34 : decode cX7_work 34 = .ok (.iload_n 2, 1) := by decide +kernel
theorem dX7_work_35 : decode cX7_work 35 = .ok (.iload_n 3, 1) := by decide +kernel
theorem dX7_work_36 : decode cX7_work 36 = .ok (.invokevirtual 232, 3) := by decide +kernel
theorem dX7_work_39 : decode cX7_work 39 = .ok (.aload_n 0, 1) := by decide +kernel
theorem dX7_work_40 : decode cX7_work 40 = .ok (.iload_n 3, 1) := by decide +kernel
theorem dX7_work_41 : decode cX7_work 41 = .ok (.putfield 235, 3) := by decide +kernel
theorem dX7_work_44 : decode cX7_work 44 = .ok (.aload_n 0, 1) := by decide +kernel
theorem dX7_work_45 : decode cX7_work 45 = .ok (.iconst 1, 1) := by decide +kernel
theorem dX7_work_46 : decode cX7_work 46 = .ok (.putfield 122, 3) := by decide +kernel
theorem dX7_work_49 : decode cX7_work 49 = .ok (.aload_n 0, 1) := by decide +kernel
theorem dX7_work_50 : decode cX7_work 50 = .ok (.iconst 0, 1) := by decide +kernel
theorem dX7_work_51 : decode cX7_work 51 = .ok (.putfield 126, 3) := by decide +kernel
theorem dX7_work_54 : decode cX7_work 54 = .ok (.aload_n 0, 1) := by decide +kernel
theorem dX7_work_55 : decode cX7_work 55 = .ok (.getfield 154, 3) := by decide +kernel
theorem dX7_work_58 : decode cX7_work 58 = .ok (.ireturn, 1) := by decide +kernel
theorem dX7_isLed_0 : decode cX7_isLed 0 = .ok (.aload_n 0, 1) := by decide +kernel
theorem dX7_isLed_1 : decode cX7_isLed 1 = .ok (.getfield 35, 3) := by decide +kernel
theorem dX7_isLed_4 : decode cX7_isLed 4 = .ok (.iload_n 2, 1) := by decide +kernel
theorem dX7_isLed_5 : decode cX7_isLed 5 = .ok (.iaload, 1) := by decide +kernel
theorem dX7_isLed_6 : decode cX7_isLed 6 = .ok (.bipush 10, 2) := by decide +kernel
theorem dX7_isLed_8 : decode cX7_isLed 8 = .ok (.if_icmp .ne 57, 3) := by decide +kernel
theorem dX7_isLed_11 : decode cX7_isLed 11 = .ok (.aload_n 0, 1) := by decide +kernel
theorem dX7_isLed_12 : decode cX7_isLed 12 = .ok (.iload_n 1, 1) := by decide +kernel
theorem dX7_isLed_13 : decode cX7_isLed 13 = .ok (.iload_n 2, 1) := by decide +kernel
theorem dX7_isLed_14 : decode cX7_isLed 14 = .ok (.iconst (-1), 1) := by decide +kernel
theorem dX7_isLed_15 : decode cX7_isLed 15 = .ok (.invokevirtual 209, 3) := by decide +kernel
theorem dX7_isLed_18 : decode cX7_isLed 18 = .ok (.aload_n 0, 1) := by decide +kernel
theorem dX7_isLed_19 : decode cX7_isLed 19 = .ok (.getfield 50, 3) := by decide +kernel
theorem dX7_isLed_22 : decode cX7_isLed 22 = .ok (.iload_n 3, 1) := by decide +kernel
theorem dX7_isLed_23 : decode cX7_isLed 23 = .ok (.iaload, 1) := by decide +kernel
theorem dX7_isLed_24 : decode cX7_isLed 24 = .ok (.aload_n 0, 1) := by decide +kernel
theorem dX7_isLed_25 : decode cX7_isLed 25 = .ok (.getfield 44, 3) := by decide +kernel
theorem dX7_isLed_28 : decode cX7_isLed 28 = .ok (.iload_n 2, 1) := by decide +kernel
theorem dX7_isLed_29 : decode cX7_isLed 29 = .ok (.iaload, 1) := by decide +kernel
theorem dX7_isLed_30 : decode cX7_isLed 30 = .ok (.if_icmp .ne 33, 3) := by decide +kernel
theorem dX7_isLed_33 : decode cX7_isLed 33 = .ok (.aload_n 0, 1) := by decide +kernel
theorem dX7_isLed_34 : decode cX7_isLed 34 = .ok (.getfield 53, 3) := by decide +kernel
theorem dX7_isLed_37 : decode cX7_isLed 37 = .ok (.iload_n 3, 1) := by decide +kernel
theorem dX7_isLed_38 : decode cX7_isLed 38 = .ok (.iaload, 1) := by decide +kernel
theorem dX7_isLed_39 : decode cX7_isLed 39 = .ok (.aload_n 0, 1) := by decide +kernel
theorem dX7_isLed_40 : decode cX7_isLed 40 = .ok (.getfield 148, 3) := by decide +kernel
theorem dX7_isLed_43 : decode cX7_isLed 43 = .ok (.if_icmp .ne 20, 3) := by decide +kernel
theorem dX7_isLed_46 : decode cX7_isLed 46 = .ok (.aload_n 0, 1) := by decide +kernel
theorem dX7_isLed_47 : decode cX7_isLed 47 = .ok (.getfield 56, 3) := by decide +kernel
theorem dX7_isLed_50 : decode cX7_isLed 50 = .ok (.iload_n 3, 1) := by decide +kernel
theorem dX7_isLed_51 : decode cX7_isLed 51 = .ok (.iaload, 1) := by decide +kernel
theorem dX7_isLed_52 : decode cX7_isLed 52 = .ok (.aload_n 0, 1) := by decide +kernel
theorem dX7_isLed_53 : decode cX7_isLed 53 = .ok (.getfield 151, 3) := by decide +kernel
theorem dX7_isLed_56 : decode cX7_isLed 56 = .ok (.if_icmp .ne 7, 3) := by decide +kernel
theorem dX7_isLed_59 : decode cX7_isLed 59 = .ok (.iconst 1, 1) := by decide +kernel
theorem dX7_isLed_60 : decode cX7_isLed 60 = .ok (.goto 4, 3) := by decide +kernel
theorem dX7_isLed_63 : decode cX7_isLed 63 = .ok (.iconst 0, 1) := by decide +kernel
theorem dX7_isLed_64 : decode cX7_isLed 64 = .ok (.ireturn, 1) := by decide +kernel
theorem dX7_isLed_65 : decode cX7_isLed 65 = .ok (.aload_n 0, 1) := by decide +kernel
theorem dX7_isLed_66 : decode cX7_isLed 66 = .ok (.getfield 59, 3) := by decide +kernel
theorem dX7_isLed_69 : decode cX7_isLed 69 = .ok (.bipush 8, 2) := by decide +kernel
theorem dX7_isLed_71 : decode cX7_isLed 71 = .ok (.iload_n 1, 1) := by decide +kernel
theorem dX7_isLed_72 : decode cX7_isLed 72 = .ok (.imul, 1) := by decide +kernel
theorem dX7_isLed_73 : decode cX7_isLed 73 = .ok (.aload_n 0, 1) := by decide +kernel
theorem dX7_isLed_74 : decode cX7_isLed 74 = .ok (.getfield 41, 3) := by decide +kernel
theorem dX7_isLed_77 : decode cX7_isLed 77 = .ok (.iload_n 2, 1) := by decide +kernel
theorem dX7_isLed_78 : decode cX7_isLed 78 = .ok (.iaload, 1) := by decide +kernel
theorem dX7_isLed_79 : decode cX7_isLed 79 = .ok (.iadd, 1) := by decide +kernel
theorem dX7_isLed_80 : decode cX7_isLed 80 = .ok (.laload, 1) := by decide +kernel
theorem dX7_isLed_81 : decode cX7_isLed 81 = .ok (.lstore 4, 2) := by decide +kernel
theorem dX7_isLed_83 : decode cX7_isLed 83 = .ok (.iconst 0, 1) := by decide +kernel
theorem dX7_isLed_84 : decode cX7_isLed 84 = .ok (.istore 6, 2) := by decide +kernel
theorem dX7_isLed_86 : decode cX7_isLed 86 = .ok (.iload 6, 2) := by decide +kernel
theorem dX7_isLed_88 : decode cX7_isLed 88 = .ok (.aload_n 0, 1) := by decide +kernel
theorem dX7_isLed_89 : decode cX7_isLed 89 = .ok (.getfield 167, 3) := by decide +kernel
theorem dX7_isLed_92 : decode cX7_isLed 92 = .ok (.if_icmp .ge 90, 3) := by decide +kernel
theorem dX7_isLed_95 : decode cX7_isLed 95 = .ok (.lload 4, 2) := by decide +kernel
theorem dX7_isLed_97 : decode cX7_isLed 97 = .ok (.iload 6, 2) := by decide +kernel
theorem dX7_isLed_99 : decode cX7_isLed 99 = .ok (.lshr, 1) := by decide +kernel
theorem dX7_isLed_100 : decode cX7_isLed 100 = .ok (.lconst 1, 1) := by decide +kernel
theorem dX7_isLed_101 : decode cX7_isLed 101 = .ok (.land, 1) := by decide +kernel
theorem dX7_isLed_102 : decode cX7_isLed 102 = .ok (.lconst 1, 1) := by decide +kernel
theorem dX7_isLed_103 : decode cX7_isLed 103 = .ok (.lcmp, 1) := by decide +kernel
theorem dX7_isLed_104 : decode cX7_isLed 104 = .ok (.ifCond .ne 22, 3) := by decide +kernel
theorem dX7_isLed_107 : decode cX7_isLed 107 = .ok (.aload_n 0, 1) := by decide +kernel
theorem dX7_isLed_108 : decode cX7_isLed 108 = .ok (.aload_n 0, 1) := by decide +kernel
theorem dX7_isLed_109 : decode cX7_isLed 109 = .ok (.iload 6, 2) := by decide +kernel
theorem dX7_isLed_111 : decode cX7_isLed 111 = .ok (.invokevirtual 174, 3) := by decide +kernel
theorem dX7_isLed_114 : decode cX7_isLed 114 = .ok (.aload_n 0, 1) := by decide +kernel
theorem dX7_isLed_115 : decode cX7_isLed 115 = .ok (.getfield 44, 3) := by decide +kernel
theorem dX7_isLed_118 : decode cX7_isLed 118 = .ok (.iload_n 2, 1) := by decide +kernel
theorem dX7_isLed_119 : decode cX7_isLed 119 = .ok (.iaload, 1) := by decide +kernel
theorem dX7_isLed_120 : decode cX7_isLed 120 = .ok (.invokevirtual 206, 3) := by decide +kernel
theorem dX7_isLed_123 : decode cX7_isLed 123 = .ok (.goto 4, 3) := by decide +kernel
theorem dX7_isLed_126 : decode cX7_isLed 126 = .ok (.iconst (-1), 1) := by decide +kernel
theorem dX7_isLed_127 : decode cX7_isLed 127 = .ok (.istore 7, 2) := by decide +kernel
theorem dX7_isLed_129 : decode cX7_isLed 129 = .ok (.iload 7, 2) := by decide +kernel
theorem dX7_isLed_131 : decode cX7_isLed 131 = .ok (.aload_n 0, 1) := by decide +kernel
theorem dX7_isLed_132 : decode cX7_isLed 132 = .ok (.getfield 50, 3) := by decide +kernel
theorem dX7_isLed_135 : decode cX7_isLed 135 = .ok (.iload_n 3, 1) := by decide +kernel
theorem dX7_isLed_136 : decode cX7_isLed 136 = .ok (.iaload, 1) := by decide +kernel
theorem dX7_isLed_137 : decode cX7_isLed 137 = .ok (.if_icmp .ne 39, 3) := by decide +kernel
theorem dX7_isLed_140 : decode cX7_isLed 140 = .ok (.aload_n 0, 1) := by decide +kernel
theorem dX7_isLed_141 : decode cX7_isLed 141 = .ok (.iload_n 1, 1) := by decide +kernel
theorem dX7_isLed_142 : decode cX7_isLed 142 = .ok (.iload_n 2, 1) := by decide +kernel
theorem dX7_isLed_143 : decode cX7_isLed 143 = .ok (.iload 6, 2) := by decide +kernel
theorem dX7_isLed_145 : decode cX7_isLed 145 = .ok (.invokevirtual 209, 3) := by decide +kernel
theorem dX7_isLed_148 : decode cX7_isLed 148 = .ok (.aload_n 0, 1) := by decide +kernel
theorem dX7_isLed_149 : decode cX7_isLed 149 = .ok (.getfield 53, 3) := by decide +kernel
theorem dX7_isLed_152 : decode cX7_isLed 152 = .ok (.iload_n 3, 1) := by decide +kernel
theorem dX7_isLed_153 : decode cX7_isLed 153 = .ok (.iaload, 1) := by decide +kernel
theorem dX7_isLed_154 : decode cX7_isLed 154 = .ok (.aload_n 0, 1) := by decide +kernel
theorem dX7_isLed_155 : decode cX7_isLed 155 = .ok (.getfield 148, 3) := by decide +kernel
theorem dX7_isLed_158 : decode cX7_isLed 158 = .ok (.if_icmp .ne 18, 3) := by decide +kernel
theorem dX7_isLed_161 : decode cX7_isLed 161 = .ok (.aload_n 0, 1) := by decide +kernel
theorem dX7_isLed_162 : decode cX7_isLed 162 = .ok (.getfield 56, 3) := by decide +kernel
theorem dX7_isLed_165 : decode cX7_isLed 165 = .ok (.iload_n 3, 1) := by decide +kernel
theorem dX7_isLed_166 : decode cX7_isLed 166 = .ok (.iaload, 1) := by decide +kernel
theorem dX7_isLed_167 : decode cX7_isLed 167 = .ok (.aload_n 0, 1) := by decide +kernel
theorem dX7_isLed_168 : decode cX7_isLed 168 = .ok (.getfield 151, 3) := by decide +kernel
theorem dX7_isLed_171 : decode cX7_isLed 171 = .ok (.if_icmp .ne 5, 3) := by decide +kernel
theorem dX7_isLed_174 : decode cX7_isLed 174 = .ok (.iconst 1, 1) := by decide +kernel
theorem dX7_isLed_175 : decode cX7_isLed 175 = .ok (.ireturn, 1) := by decide +kernel
theorem dX7_isLed_176 : decode cX7_isLed 176 = .ok (.iinc 6 1, 3) := by decide +kernel
theorem dX7_isLed_179 : decode cX7_isLed 179 = .ok (.goto (-93), 3) := by decide +kernel
theorem dX7_isLed_182 : decode cX7_isLed 182 = .ok (.iconst 0, 1) := by decide +kernel
theorem dX7_isLed_183 : decode cX7_isLed 183 = .ok (.ireturn, 1) := by decide +kernel
theorem dX7_ledBy_0 : decode cX7_ledBy 0 = .ok (.iconst 0, 1) := by decide +kernel
theorem dX7_ledBy_1 : decode cX7_ledBy 1 = .ok (.istore_n 2, 1) := by decide +kernel
theorem dX7_ledBy_2 : decode cX7_ledBy 2 = .ok (.iconst 0, 1) := by decide +kernel
theorem dX7_ledBy_3 : decode cX7_ledBy 3 = .ok (.istore_n 3, 1) := by decide +kernel
theorem dX7_ledBy_4 : decode cX7_ledBy 4 = .ok (.iload_n 3, 1) := by decide +kernel
theorem dX7_ledBy_5 : decode cX7_ledBy 5 = .ok (.aload_n 0, 1) := by decide +kernel
theorem dX7_ledBy_6 : decode cX7_ledBy 6 = .ok (.getfield 108, 3) := by decide +kernel
theorem dX7_ledBy_9 : decode cX7_ledBy 9 = .ok (.if_icmp .ge 96, 3) := by decide +kernel
theorem dX7_ledBy_12 : decode cX7_ledBy 12 = .ok (.iconst 0, 1) := by decide +kernel
theorem dX7_ledBy_13 : decode cX7_ledBy 13 = .ok (.istore 4, 2) := by decide +kernel
theorem dX7_ledBy_15 : decode cX7_ledBy 15 = .ok (.iload 4, 2) := by decide +kernel
theorem dX7_ledBy_17 : decode cX7_ledBy 17 = .ok (.aload_n 0, 1) := by decide +kernel
theorem dX7_ledBy_18 : decode cX7_ledBy 18 = .ok (.getfield 23, 3) := by decide +kernel
theorem dX7_ledBy_21 : decode cX7_ledBy 21 = .ok (.aload_n 0, 1) := by decide +kernel
theorem dX7_ledBy_22 : decode cX7_ledBy 22 = .ok (.getfield 50, 3) := by decide +kernel
theorem dX7_ledBy_25 : decode cX7_ledBy 25 = .ok (.iload_n 3, 1) := by decide +kernel
theorem dX7_ledBy_26 : decode cX7_ledBy 26 = .ok (.iaload, 1) := by decide +kernel
theorem dX7_ledBy_27 : decode cX7_ledBy 27 = .ok (.iaload, 1) := by decide +kernel
theorem dX7_ledBy_28 : decode cX7_ledBy 28 = .ok (.if_icmp .ge 71, 3) := by decide +kernel
theorem dX7_ledBy_31 : decode cX7_ledBy 31 = .ok (.aload_n 0, 1) := by decide +kernel
theorem dX7_ledBy_32 : decode cX7_ledBy 32 = .ok (.getfield 26, 3) := by decide +kernel
theorem dX7_ledBy_35 : decode cX7_ledBy 35 = .ok (.bipush 90, 2) := by decide +kernel
theorem dX7_ledBy_37 : decode cX7_ledBy 37 = .ok (.aload_n 0, 1) := by decide +kernel
theorem dX7_ledBy_38 : decode cX7_ledBy 38 = .ok (.getfield 50, 3) := by decide +kernel
theorem dX7_ledBy_41 : decode cX7_ledBy 41 = .ok (.iload_n 3, 1) := by decide +kernel
theorem dX7_ledBy_42 : decode cX7_ledBy 42 = .ok (.iaload, 1) := by decide +kernel
theorem dX7_ledBy_43 : decode cX7_ledBy 43 = .ok (.imul, 1) := by decide +kernel
theorem dX7_ledBy_44 : decode cX7_ledBy 44 = .ok (.iload 4, 2) := by decide +kernel
theorem dX7_ledBy_46 : decode cX7_ledBy 46 = .ok (.iadd, 1) := by decide +kernel
theorem dX7_ledBy_47 : decode cX7_ledBy 47 = .ok (.iaload, 1) := by decide +kernel
theorem dX7_ledBy_48 : decode cX7_ledBy 48 = .ok (.istore 5, 2) := by decide +kernel
theorem dX7_ledBy_50 : decode cX7_ledBy 50 = .ok (.aload_n 0, 1) := by decide +kernel
theorem dX7_ledBy_51 : decode cX7_ledBy 51 = .ok (.getfield 35, 3) := by decide +kernel
theorem dX7_ledBy_54 : decode cX7_ledBy 54 = .ok (.iload 5, 2) := by decide +kernel
theorem dX7_ledBy_56 : decode cX7_ledBy 56 = .ok (.iaload, 1) := by decide +kernel
theorem dX7_ledBy_57 : decode cX7_ledBy 57 = .ok (.bipush 9, 2) := by decide +kernel
theorem dX7_ledBy_59 : decode cX7_ledBy 59 = .ok (.if_icmp .eq 15, 3) := by decide +kernel
theorem dX7_ledBy_62 : decode cX7_ledBy 62 = .ok (.aload_n 0, 1) := by decide +kernel
theorem dX7_ledBy_63 : decode cX7_ledBy 63 = .ok (.getfield 35, 3) := by decide +kernel
theorem dX7_ledBy_66 : decode cX7_ledBy 66 = .ok (.iload 5, 2) := by decide +kernel
theorem dX7_ledBy_68 : decode cX7_ledBy 68 = .ok (.iaload, 1) := by decide +kernel
theorem dX7_ledBy_69 : decode cX7_ledBy 69 = .ok (.bipush 10, 2) := by decide +kernel
theorem dX7_ledBy_71 : decode cX7_ledBy 71 = .ok (.if_icmp .ne 22, 3) := by decide +kernel
theorem dX7_ledBy_74 : decode cX7_ledBy 74 = .ok (.aload_n 0, 1) := by decide +kernel
theorem dX7_ledBy_75 : decode cX7_ledBy 75 = .ok (.iload_n 3, 1) := by decide +kernel
theorem dX7_ledBy_76 : decode cX7_ledBy 76 = .ok (.iload 5, 2) := by decide +kernel
theorem dX7_ledBy_78 : decode cX7_ledBy 78 = .ok (.iload_n 1, 1) := by decide +kernel
theorem dX7_ledBy_79 : decode cX7_ledBy 79 = .ok (.invokevirtual 238, 3) := by decide +kernel
theorem dX7_ledBy_82 : decode cX7_ledBy 82 = .ok (.ifCond .eq 11, 3) := by decide +kernel
theorem dX7_ledBy_85 : decode cX7_ledBy 85 = .ok (.iinc 2 1, 3) := by decide +kernel
theorem dX7_ledBy_88 : decode cX7_ledBy 88 = .ok (.aload_n 0, 1) := by decide +kernel
theorem dX7_ledBy_89 : decode cX7_ledBy 89 = .ok (.iload_n 3, 1) := by decide +kernel
theorem dX7_ledBy_90 : decode cX7_ledBy 90 = .ok (.putfield 241, 3) := by decide +kernel
theorem dX7_ledBy_93 : decode cX7_ledBy 93 = .ok (.iinc 4 1, 3) := by decide +kernel
theorem dX7_ledBy_96 : decode cX7_ledBy 96 = .ok (.goto (-81), 3) := by decide +kernel
theorem dX7_ledBy_99 : decode cX7_ledBy 99 = .ok (.iinc 3 1, 3) := by decide +kernel
theorem dX7_ledBy_102 : decode cX7_ledBy 102 = .ok (.goto (-98), 3) := by decide +kernel
theorem dX7_ledBy_105 : decode cX7_ledBy 105 = .ok (.iload_n 2, 1) := by decide +kernel
theorem dX7_ledBy_106 : decode cX7_ledBy 106 = .ok (.ireturn, 1) := by decide +kernel
theorem dX7_isOnce_0 : decode cX7_isOnce 0 = .ok (.iload_n 1, 1) := by decide +kernel
theorem dX7_isOnce_1 : decode cX7_isOnce 1 = .ok (.istore_n 2, 1) := by decide +kernel
theorem dX7_isOnce_2 : decode cX7_isOnce 2 = .ok (.iconst 0, 1) := by decide +kernel
theorem dX7_isOnce_3 : decode cX7_isOnce 3 = .ok (.istore_n 3, 1) := by decide +kernel
theorem dX7_isOnce_4 : decode cX7_isOnce 4 = .ok (.iload_n 3, 1) := by decide +kernel
theorem dX7_isOnce_5 : decode cX7_isOnce 5 = .ok (.aload_n 0, 1) := by decide +kernel
theorem dX7_isOnce_6 : decode cX7_isOnce 6 = .ok (.getfield 108, 3) := by decide +kernel
theorem dX7_isOnce_9 : decode cX7_isOnce 9 = .ok (.if_icmp .gt 44, 3) := by decide +kernel
theorem dX7_isOnce_12 : decode cX7_isOnce 12 = .ok (.aload_n 0, 1) := by decide +kernel
theorem dX7_isOnce_13 : decode cX7_isOnce 13 = .ok (.iload_n 2, 1) := by decide +kernel
theorem dX7_isOnce_14 : decode cX7_isOnce 14 = .ok (.invokevirtual 244, 3) := by decide +kernel
theorem dX7_isOnce_17 : decode cX7_isOnce 17 = .ok (.istore 4, 2) := by decide +kernel
theorem dX7_isOnce_19 : decode cX7_isOnce 19 = .ok (.iload_n 2, 1) := by decide +kernel
theorem dX7_isOnce_20 : decode cX7_isOnce 20 = .ok (.ifCond .ne 14, 3) := by decide +kernel
theorem dX7_isOnce_23 : decode cX7_isOnce 23 = .ok (.iload 4, 2) := by decide +kernel
theorem dX7_isOnce_25 : decode cX7_isOnce 25 = .ok (.ifCond .ne 7, 3) := by decide +kernel
theorem dX7_isOnce_28 : decode cX7_isOnce 28 = .ok (.iconst 1, 1) := by decide +kernel
theorem dX7_isOnce_29 : decode cX7_isOnce 29 = .ok (.goto 4, 3) := by decide +kernel
theorem dX7_isOnce_32 : decode cX7_isOnce 32 = .ok (.iconst 0, 1) := by decide +kernel
theorem dX7_isOnce_33 : decode cX7_isOnce 33 = .ok (.ireturn, 1) := by decide +kernel
theorem dX7_isOnce_34 : decode cX7_isOnce 34 = .ok (.iload 4, 2) := by decide +kernel
theorem dX7_isOnce_36 : decode cX7_isOnce 36 = .ok (.iconst 1, 1) := by decide +kernel
theorem dX7_isOnce_37 : decode cX7_isOnce 37 = .ok (.if_icmp .eq 5, 3) := by decide +kernel
theorem dX7_isOnce_40 : decode cX7_isOnce 40 = .ok (.iconst 0, 1) := by decide +kernel
theorem dX7_isOnce_41 : decode cX7_isOnce 41 = .ok (.ireturn, 1) := by decide +kernel
theorem dX7_isOnce_42 : decode cX7_isOnce 42 = .ok (.aload_n 0, 1) := by decide +kernel
theorem dX7_isOnce_43 : decode cX7_isOnce 43 = .ok (.getfield 241, 3) := by decide +kernel
theorem dX7_isOnce_46 : decode cX7_isOnce 46 = .ok (.istore_n 2, 1) := by decide +kernel
theorem dX7_isOnce_47 : decode cX7_isOnce 47 = .ok (.iinc 3 1, 3) := by decide +kernel
theorem dX7_isOnce_50 : decode cX7_isOnce 50 = .ok (.goto (-46), 3) := by decide +kernel
theorem dX7_isOnce_53 : decode cX7_isOnce 53 = .ok (.iconst 0, 1) := by decide +kernel
theorem dX7_isOnce_54 : decode cX7_isOnce 54 = .ok (.ireturn, 1) := by decide +kernel
theorem dX7_name_0 : decode cX7_name 0 = .ok (.iload_n 2, 1) := by decide +kernel
theorem dX7_name_1 : decode cX7_name 1 = .ok (.iconst 0, 1) := by decide +kernel
theorem dX7_name_2 : decode cX7_name 2 = .ok (.iconst 4, 1) := by decide +kernel
theorem dX7_name_3 : decode cX7_name 3 = .ok (.invokestatic 111, 3) := by decide +kernel
theorem dX7_name_6 : decode cX7_name 6 = .ok (.ifCond .ne 5, 3) := by decide +kernel
theorem dX7_name_9 : decode cX7_name 9 = .ok (.iconst (-1), 1) := by decide +kernel
theorem dX7_name_10 : decode cX7_name 10 = .ok (.ireturn, 1) := by decide +kernel
theorem dX7_name_11 : decode cX7_name 11 = .ok (.aload_n 0, 1) := by decide +kernel
theorem dX7_name_12 : decode cX7_name 12 = .ok (.getfield 122, 3) := by decide +kernel
theorem dX7_name_15 : decode cX7_name 15 = .ok (.ifCond .ne 6, 3) := by decide +kernel
theorem dX7_name_18 : decode cX7_name 18 = .ok (.bipush (-2), 2) := by decide +kernel
theorem dX7_name_20 : decode cX7_name 20 = .ok (.ireturn, 1) := by decide +kernel
theorem dX7_name_21 : decode cX7_name 21 = .ok (.iload_n 1, 1) := by decide +kernel
theorem dX7_name_22 : decode cX7_name 22 = .ok (.iconst 0, 1) := by decide +kernel
theorem dX7_name_23 : decode cX7_name 23 = .ok (.aload_n 0, 1) := by decide +kernel
theorem dX7_name_24 : decode cX7_name 24 = .ok (.getfield 167, 3) := by decide +kernel
theorem dX7_name_27 : decode cX7_name 27 = .ok (.iconst 1, 1) := by decide +kernel
theorem dX7_name_28 : decode cX7_name 28 = .ok (.isub, 1) := by decide +kernel
theorem dX7_name_29 : decode cX7_name 29 = .ok (.invokestatic 111, 3) := by decide +kernel
theorem dX7_name_32 : decode cX7_name 32 = .ok (.ifCond .ne 5, 3) := by decide +kernel
theorem dX7_name_35 : decode cX7_name 35 = .ok (.iconst (-1), 1) := by decide +kernel
theorem dX7_name_36 : decode cX7_name 36 = .ok (.ireturn, 1) := by decide +kernel
theorem dX7_name_37 : decode cX7_name 37 = .ok (.iload_n 2, 1) := by decide +kernel
theorem dX7_name_38 : decode cX7_name 38 = .ok (.tableswitch 70 0 3 #[30, 37, 49, 63], 30) := by decide +kernel
theorem dX7_name_68 : decode cX7_name 68 = .ok (.aload_n 0, 1) := by decide +kernel
theorem dX7_name_69 : decode cX7_name 69 = .ok (.getfield 63, 3) := by decide +kernel
theorem dX7_name_72 : decode cX7_name 72 = .ok (.iload_n 1, 1) := by decide +kernel
theorem dX7_name_73 : decode cX7_name 73 = .ok (.iaload, 1) := by decide +kernel
theorem dX7_name_74 : decode cX7_name 74 = .ok (.ireturn, 1) := by decide +kernel
theorem dX7_name_75 : decode cX7_name 75 = .ok (.aload_n 0, 1) := by decide +kernel
theorem dX7_name_76 : decode cX7_name 76 = .ok (.getfield 41, 3) := by decide +kernel
theorem dX7_name_79 : decode cX7_name 79 = .ok (.aload_n 0, 1) := by decide +kernel
theorem dX7_name_80 : decode cX7_name 80 = .ok (.getfield 63, 3) := by decide +kernel
theorem dX7_name_83 : decode cX7_name 83 = .ok (.iload_n 1, 1) := by decide +kernel
theorem dX7_name_84 : decode cX7_name 84 = .ok (.iaload, 1) := by decide +kernel
theorem dX7_name_85 : decode cX7_name 85 = .ok (.iaload, 1) := by decide +kernel
theorem dX7_name_86 : decode cX7_name 86 = .ok (.ireturn, 1) := by decide +kernel
theorem dX7_name_87 : decode cX7_name 87 = .ok (.aload_n 0, 1) := by decide +kernel
theorem dX7_name_88 : decode cX7_name 88 = .ok (.iload_n 1, 1) := by decide +kernel
theorem dX7_name_89 : decode cX7_name 89 = .ok (.invokevirtual 200, 3) := by decide +kernel
theorem dX7_name_92 : decode cX7_name 92 = .ok (.ifCond .eq 7, 3) := by decide +kernel
theorem dX7_name_95 : decode cX7_name 95 = .ok (.iconst 1, 1) := by decide +kernel
theorem dX7_name_96 : decode cX7_name 96 = .ok (.goto 4, 3) := by decide +kernel
theorem dX7_name_99 : decode cX7_name 99 = .ok (.iconst 0, 1) := by decide +kernel
theorem dX7_name_100 : decode cX7_name 100 = .ok (.ireturn, 1) := by decide +kernel
theorem dX7_name_101 : decode cX7_name 101 = .ok (.aload_n 0, 1) := by decide +kernel
theorem dX7_name_102 : decode cX7_name 102 = .ok (.getfield 66, 3) := by decide +kernel
theorem dX7_name_105 : decode cX7_name 105 = .ok (.iload_n 1, 1) := by decide +kernel
theorem dX7_name_106 : decode cX7_name 106 = .ok (.iaload, 1) := by decide +kernel
theorem dX7_name_107 : decode cX7_name 107 = .ok (.ireturn, 1) := by decide +kernel
theorem dX7_name_108 : decode cX7_name 108 = .ok (.aload_n 0, 1) := by decide +kernel
theorem dX7_name_109 : decode cX7_name 109 = .ok (.aload_n 0, 1) := by decide +kernel
theorem dX7_name_110 : decode cX7_name 110 = .ok (.getfield 66, 3) := by decide +kernel
theorem dX7_name_113 : decode cX7_name 113 = .ok (.iload_n 1, 1) := by decide +kernel
theorem dX7_name_114 : decode cX7_name 114 = .ok (.iaload, 1) := by decide +kernel
theorem dX7_name_115 : decode cX7_name 115 = .ok (.invokevirtual 247, 3) := by decide +kernel
theorem dX7_name_118 : decode cX7_name 118 = .ok (.ifCond .eq 7, 3) := by decide +kernel
theorem dX7_name_121 : decode cX7_name 121 = .ok (.iconst 1, 1) := by decide +kernel
theorem dX7_name_122 : decode cX7_name 122 = .ok (.goto 4, 3) := by decide +kernel
theorem dX7_name_125 : decode cX7_name 125 = .ok (.iconst 0, 1) := by decide +kernel
theorem dX7_name_126 : decode cX7_name 126 = .ok (.ireturn, 1) := by decide +kernel
theorem dX7_node_0 : decode cX7_node 0 = .ok (.iload_n 2, 1) := by decide +kernel
theorem dX7_node_1 : decode cX7_node 1 = .ok (.iconst 0, 1) := by decide +kernel
theorem dX7_node_2 : decode cX7_node 2 = .ok (.iconst 4, 1) := by decide +kernel
theorem dX7_node_3 : decode cX7_node 3 = .ok (.invokestatic 111, 3) := by decide +kernel
theorem dX7_node_6 : decode cX7_node 6 = .ok (.ifCond .ne 5, 3) := by decide +kernel
theorem dX7_node_9 : decode cX7_node 9 = .ok (.iconst (-1), 1) := by decide +kernel
theorem dX7_node_10 : decode cX7_node 10 = .ok (.ireturn, 1) := by decide +kernel
theorem dX7_node_11 : decode cX7_node 11 = .ok (.aload_n 0, 1) := by decide +kernel
theorem dX7_node_12 : decode cX7_node 12 = .ok (.getfield 122, 3) := by decide +kernel
theorem dX7_node_15 : decode cX7_node 15 = .ok (.ifCond .ne 6, 3) := by decide +kernel
theorem dX7_node_18 : decode cX7_node 18 = .ok (.bipush (-2), 2) := by decide +kernel
theorem dX7_node_20 : decode cX7_node 20 = .ok (.ireturn, 1) := by decide +kernel
theorem dX7_node_21 : decode cX7_node 21 = .ok (.iload_n 1, 1) := by decide +kernel
theorem dX7_node_22 : decode cX7_node 22 = .ok (.iconst 0, 1) := by decide +kernel
theorem dX7_node_23 : decode cX7_node 23 = .ok (.aload_n 0, 1) := by decide +kernel
theorem dX7_node_24 : decode cX7_node 24 = .ok (.getfield 108, 3) := by decide +kernel
theorem dX7_node_27 : decode cX7_node 27 = .ok (.iconst 1, 1) := by decide +kernel
theorem dX7_node_28 : decode cX7_node 28 = .ok (.isub, 1) := by decide +kernel
theorem dX7_node_29 : decode cX7_node 29 = .ok (.invokestatic 111, 3) := by decide +kernel
theorem dX7_node_32 : decode cX7_node 32 = .ok (.ifCond .ne 5, 3) := by decide +kernel
theorem dX7_node_35 : decode cX7_node 35 = .ok (.iconst (-1), 1) := by decide +kernel
theorem dX7_node_36 : decode cX7_node 36 = .ok (.ireturn, 1) := by decide +kernel
theorem dX7_node_37 : decode cX7_node 37 = .ok (.iload_n 2, 1) := by decide +kernel
theorem dX7_node_38 : decode cX7_node 38 = .ok (.tableswitch 93 0 3 #[30, 37, 58, 79], 30) := by decide +kernel
theorem dX7_node_68 : decode cX7_node 68 = .ok (.aload_n 0, 1) := by decide +kernel
theorem dX7_node_69 : decode cX7_node 69 = .ok (.getfield 50, 3) := by decide +kernel
theorem dX7_node_72 : decode cX7_node 72 = .ok (.iload_n 1, 1) := by decide +kernel
theorem dX7_node_73 : decode cX7_node 73 = .ok (.iaload, 1) := by decide +kernel
theorem dX7_node_74 : decode cX7_node 74 = .ok (.ireturn, 1) := by decide +kernel
theorem dX7_node_75 : decode cX7_node 75 = .ok (.aload_n 0, 1) := by decide +kernel
theorem dX7_node_76 : decode cX7_node 76 = .ok (.getfield 53, 3) := by decide +kernel
theorem dX7_node_79 : decode cX7_node 79 = .ok (.iload_n 1, 1) := by decide +kernel
theorem dX7_node_80 : decode cX7_node 80 = .ok (.iaload, 1) := by decide +kernel
theorem dX7_node_81 : decode cX7_node 81 = .ok (.ifCond .ge 8, 3) := by decide +kernel
theorem dX7_node_84 : decode cX7_node 84 = .ok (.bipush (-9), 2) := by decide +kernel
theorem dX7_node_86 : decode cX7_node 86 = .ok (.goto 9, 3) := by decide +kernel
theorem dX7_node_89 : decode cX7_node 89 = .ok (.aload_n 0, 1) := by decide +kernel
theorem dX7_node_90 : decode cX7_node 90 = .ok (.getfield 53, 3) := by decide +kernel
theorem dX7_node_93 : decode cX7_node 93 = .ok (.iload_n 1, 1) := by decide +kernel
theorem dX7_node_94 : decode cX7_node 94 = .ok (.iaload, 1) := by decide +kernel
theorem dX7_node_95 : decode cX7_node 95 = .ok (.ireturn, 1) := by decide +kernel
theorem dX7_node_96 : decode cX7_node 96 = .ok (.aload_n 0, 1) := by decide +kernel
theorem dX7_node_97 : decode cX7_node 97 = .ok (.getfield 56, 3) := by decide +kernel
theorem dX7_node_100 : decode cX7_node 100 = .ok (.iload_n 1, 1) := by decide +kernel
theorem dX7_node_101 : decode cX7_node 101 = .ok (.iaload, 1) := by decide +kernel
theorem dX7_node_102 : decode cX7_node 102 = .ok (.ifCond .ge 8, 3) := by decide +kernel
theorem dX7_node_105 : decode cX7_node 105 = .ok (.bipush (-9), 2) := by decide +kernel
theorem dX7_node_107 : decode cX7_node 107 = .ok (.goto 9, 3) := by decide +kernel
theorem dX7_node_110 : decode cX7_node 110 = .ok (.aload_n 0, 1) := by decide +kernel
theorem dX7_node_111 : decode cX7_node 111 = .ok (.getfield 56, 3) := by decide +kernel
theorem dX7_node_114 : decode cX7_node 114 = .ok (.iload_n 1, 1) := by decide +kernel
theorem dX7_node_115 : decode cX7_node 115 = .ok (.iaload, 1) := by decide +kernel
theorem dX7_node_116 : decode cX7_node 116 = .ok (.ireturn, 1) := by decide +kernel
theorem dX7_node_117 : decode cX7_node 117 = .ok (.aload_n 0, 1) := by decide +kernel
theorem dX7_node_118 : decode cX7_node 118 = .ok (.iload_n 1, 1) := by decide +kernel
theorem dX7_node_119 : decode cX7_node 119 = .ok (.invokevirtual 247, 3) := by decide +kernel
theorem dX7_node_122 : decode cX7_node 122 = .ok (.ifCond .eq 7, 3) := by decide +kernel
theorem dX7_node_125 : decode cX7_node 125 = .ok (.iconst 1, 1) := by decide +kernel
theorem dX7_node_126 : decode cX7_node 126 = .ok (.goto 4, 3) := by decide +kernel
theorem dX7_node_129 : decode cX7_node 129 = .ok (.iconst 0, 1) := by decide +kernel
theorem dX7_node_130 : decode cX7_node 130 = .ok (.ireturn, 1) := by decide +kernel
theorem dX7_node_131 : decode cX7_node 131 = .ok (.aload_n 0, 1) := by decide +kernel
theorem dX7_node_132 : decode cX7_node 132 = .ok (.iload_n 1, 1) := by decide +kernel
theorem dX7_node_133 : decode cX7_node 133 = .ok (.invokevirtual 244, 3) := by decide +kernel
theorem dX7_node_136 : decode cX7_node 136 = .ok (.ireturn, 1) := by decide +kernel
theorem dX7_held_0 : decode cX7_held 0 = .ok (.iload_n 2, 1) := by decide +kernel
theorem dX7_held_1 : decode cX7_held 1 = .ok (.iconst 0, 1) := by decide +kernel
theorem dX7_held_2 : decode cX7_held 2 = .ok (.bipush 7, 2) := by decide +kernel
theorem dX7_held_4 : decode cX7_held 4 = .ok (.invokestatic 111, 3) := by decide +kernel
theorem dX7_held_7 : decode cX7_held 7 = .ok (.ifCond .ne 9, 3) := by decide +kernel
theorem dX7_held_10 : decode cX7_held 10 = .ok (.ldc2_w 192, 3) := by decide +kernel
theorem dX7_held_13 : decode cX7_held 13 = .ok (.goto 47, 3) := by decide +kernel
theorem dX7_held_16 : decode cX7_held 16 = .ok (.aload_n 0, 1) := by decide +kernel
theorem dX7_held_17 : decode cX7_held 17 = .ok (.getfield 122, 3) := by decide +kernel
theorem dX7_held_20 : decode cX7_held 20 = .ok (.ifCond .ne 9, 3) := by decide +kernel
theorem dX7_held_23 : decode cX7_held 23 = .ok (.ldc2_w 250, 3) := by decide +kernel
theorem dX7_held_26 : decode cX7_held 26 = .ok (.goto 34, 3) := by decide +kernel
theorem dX7_held_29 : decode cX7_held 29 = .ok (.iload_n 1, 1) := by decide +kernel
theorem dX7_held_30 : decode cX7_held 30 = .ok (.iconst 0, 1) := by decide +kernel
theorem dX7_held_31 : decode cX7_held 31 = .ok (.aload_n 0, 1) := by decide +kernel
theorem dX7_held_32 : decode cX7_held 32 = .ok (.getfield 108, 3) := by decide +kernel
theorem dX7_held_35 : decode cX7_held 35 = .ok (.iconst 1, 1) := by decide +kernel
theorem dX7_held_36 : decode cX7_held 36 = .ok (.isub, 1) := by decide +kernel
theorem dX7_held_37 : decode cX7_held 37 = .ok (.invokestatic 111, 3) := by decide +kernel
theorem dX7_held_40 : decode cX7_held 40 = .ok (.ifCond .ne 9, 3) := by decide +kernel
theorem dX7_held_43 : decode cX7_held 43 = .ok (.ldc2_w 192, 3) := by decide +kernel
theorem dX7_held_46 : decode cX7_held 46 = .ok (.goto 14, 3) := by decide +kernel
theorem dX7_held_49 : decode cX7_held 49 = .ok (.aload_n 0, 1) := by decide +kernel
theorem dX7_held_50 : decode cX7_held 50 = .ok (.getfield 59, 3) := by decide +kernel
theorem dX7_held_53 : decode cX7_held 53 = .ok (.bipush 8, 2) := by decide +kernel
theorem dX7_held_55 : decode cX7_held 55 = .ok (.iload_n 1, 1) := by decide +kernel
theorem dX7_held_56 : decode cX7_held 56 = .ok (.imul, 1) := by decide +kernel
theorem dX7_held_57 : decode cX7_held 57 = .ok (.iload_n 2, 1) := by decide +kernel
theorem dX7_held_58 : decode cX7_held 58 = .ok (.iadd, 1) := by decide +kernel
theorem dX7_held_59 : decode cX7_held 59 = .ok (.laload, 1) := by decide +kernel
theorem dX7_held_60 : decode cX7_held 60 = .ok (.lreturn, 1) := by decide +kernel
theorem dX7_inside_0 : decode cX7_inside 0 = .ok (.iload_n 2, 1) := by decide +kernel
theorem dX7_inside_1 : decode cX7_inside 1 = .ok (.iconst 0, 1) := by decide +kernel
theorem dX7_inside_2 : decode cX7_inside 2 = .ok (.iconst 4, 1) := by decide +kernel
theorem dX7_inside_3 : decode cX7_inside 3 = .ok (.invokestatic 111, 3) := by decide +kernel
theorem dX7_inside_6 : decode cX7_inside 6 = .ok (.ifCond .ne 9, 3) := by decide +kernel
theorem dX7_inside_9 : decode cX7_inside 9 = .ok (.ldc2_w 192, 3) := by decide +kernel
theorem dX7_inside_12 : decode cX7_inside 12 = .ok (.goto 46, 3) := by decide +kernel
theorem dX7_inside_15 : decode cX7_inside 15 = .ok (.aload_n 0, 1) := by decide +kernel
theorem dX7_inside_16 : decode cX7_inside 16 = .ok (.getfield 122, 3) := by decide +kernel
theorem dX7_inside_19 : decode cX7_inside 19 = .ok (.ifCond .ne 9, 3) := by decide +kernel
theorem dX7_inside_22 : decode cX7_inside 22 = .ok (.ldc2_w 250, 3) := by decide +kernel
theorem dX7_inside_25 : decode cX7_inside 25 = .ok (.goto 33, 3) := by decide +kernel
theorem dX7_inside_28 : decode cX7_inside 28 = .ok (.iload_n 1, 1) := by decide +kernel
theorem dX7_inside_29 : decode cX7_inside 29 = .ok (.iconst 0, 1) := by decide +kernel
theorem dX7_inside_30 : decode cX7_inside 30 = .ok (.aload_n 0, 1) := by decide +kernel
theorem dX7_inside_31 : decode cX7_inside 31 = .ok (.getfield 167, 3) := by decide +kernel
theorem dX7_inside_34 : decode cX7_inside 34 = .ok (.iconst 1, 1) := by decide +kernel
theorem dX7_inside_35 : decode cX7_inside 35 = .ok (.isub, 1) := by decide +kernel
theorem dX7_inside_36 : decode cX7_inside 36 = .ok (.invokestatic 111, 3) := by decide +kernel
theorem dX7_inside_39 : decode cX7_inside 39 = .ok (.ifCond .ne 9, 3) := by decide +kernel
theorem dX7_inside_42 : decode cX7_inside 42 = .ok (.ldc2_w 192, 3) := by decide +kernel
theorem dX7_inside_45 : decode cX7_inside 45 = .ok (.goto 13, 3) := by decide +kernel
theorem dX7_inside_48 : decode cX7_inside 48 = .ok (.aload_n 0, 1) := by decide +kernel
theorem dX7_inside_49 : decode cX7_inside 49 = .ok (.getfield 69, 3) := by decide +kernel
theorem dX7_inside_52 : decode cX7_inside 52 = .ok (.iconst 5, 1) := by decide +kernel
theorem dX7_inside_53 : decode cX7_inside 53 = .ok (.iload_n 1, 1) := by decide +kernel
theorem dX7_inside_54 : decode cX7_inside 54 = .ok (.imul, 1) := by decide +kernel
theorem dX7_inside_55 : decode cX7_inside 55 = .ok (.iload_n 2, 1) := by decide +kernel
theorem dX7_inside_56 : decode cX7_inside 56 = .ok (.iadd, 1) := by decide +kernel
theorem dX7_inside_57 : decode cX7_inside 57 = .ok (.laload, 1) := by decide +kernel
theorem dX7_inside_58 : decode cX7_inside 58 = .ok (.lreturn, 1) := by decide +kernel
theorem dX7_global_0 : decode cX7_global 0 = .ok (.iload_n 1, 1) := by decide +kernel
theorem dX7_global_1 : decode cX7_global 1 = .ok (.iconst 0, 1) := by decide +kernel
theorem dX7_global_2 : decode cX7_global 2 = .ok (.iconst 3, 1) := by decide +kernel
theorem dX7_global_3 : decode cX7_global 3 = .ok (.invokestatic 111, 3) := by decide +kernel
theorem dX7_global_6 : decode cX7_global 6 = .ok (.ifCond .ne 9, 3) := by decide +kernel
theorem dX7_global_9 : decode cX7_global 9 = .ok (.ldc2_w 192, 3) := by decide +kernel
theorem dX7_global_12 : decode cX7_global 12 = .ok (.goto 22, 3) := by decide +kernel
theorem dX7_global_15 : decode cX7_global 15 = .ok (.aload_n 0, 1) := by decide +kernel
theorem dX7_global_16 : decode cX7_global 16 = .ok (.getfield 122, 3) := by decide +kernel
theorem dX7_global_19 : decode cX7_global 19 = .ok (.ifCond .ne 9, 3) := by decide +kernel
theorem dX7_global_22 : decode cX7_global 22 = .ok (.ldc2_w 250, 3) := by decide +kernel
theorem dX7_global_25 : decode cX7_global 25 = .ok (.goto 9, 3) := by decide +kernel
theorem dX7_global_28 : decode cX7_global 28 = .ok (.aload_n 0, 1) := by decide +kernel
theorem dX7_global_29 : decode cX7_global 29 = .ok (.getfield 72, 3) := by decide +kernel
theorem dX7_global_32 : decode cX7_global 32 = .ok (.iload_n 1, 1) := by decide +kernel
theorem dX7_global_33 : decode cX7_global 33 = .ok (.laload, 1) := by decide +kernel
theorem dX7_global_34 : decode cX7_global 34 = .ok (.lreturn, 1) := by decide +kernel
theorem dX7_leads_0 : decode cX7_leads 0 = .ok (.iload_n 2, 1) := by decide +kernel
theorem dX7_leads_1 : decode cX7_leads 1 = .ok (.iconst 0, 1) := by decide +kernel
theorem dX7_leads_2 : decode cX7_leads 2 = .ok (.aload_n 0, 1) := by decide +kernel
theorem dX7_leads_3 : decode cX7_leads 3 = .ok (.getfield 139, 3) := by decide +kernel
theorem dX7_leads_6 : decode cX7_leads 6 = .ok (.iconst 1, 1) := by decide +kernel
theorem dX7_leads_7 : decode cX7_leads 7 = .ok (.isub, 1) := by decide +kernel
theorem dX7_leads_8 : decode cX7_leads 8 = .ok (.invokestatic 111, 3) := by decide +kernel
theorem dX7_leads_11 : decode cX7_leads 11 = .ok (.ifCond .eq 25, 3) := by decide +kernel
theorem dX7_leads_14 : decode cX7_leads 14 = .ok (.aload_n 0, 1) := by decide +kernel
theorem dX7_leads_15 : decode cX7_leads 15 = .ok (.getfield 35, 3) := by decide +kernel
theorem dX7_leads_18 : decode cX7_leads 18 = .ok (.iload_n 2, 1) := by decide +kernel
theorem dX7_leads_19 : decode cX7_leads 19 = .ok (.iaload, 1) := by decide +kernel
theorem dX7_leads_20 : decode cX7_leads 20 = .ok (.bipush 9, 2) := by decide +kernel
theorem dX7_leads_22 : decode cX7_leads 22 = .ok (.if_icmp .eq 16, 3) := by decide +kernel
theorem dX7_leads_25 : decode cX7_leads 25 = .ok (.aload_n 0, 1) := by decide +kernel
theorem dX7_leads_26 : decode cX7_leads 26 = .ok (.getfield 35, 3) := by decide +kernel
theorem dX7_leads_29 : decode cX7_leads 29 = .ok (.iload_n 2, 1) := by decide +kernel
theorem dX7_leads_30 : decode cX7_leads 30 = .ok (.iaload, 1) := by decide +kernel
theorem dX7_leads_31 : decode cX7_leads 31 = .ok (.bipush 10, 2) := by decide +kernel
theorem dX7_leads_33 : decode cX7_leads 33 = .ok (.if_icmp .eq 5, 3) := by decide +kernel
theorem dX7_leads_36 : decode cX7_leads 36 = .ok (.iconst (-1), 1) := by decide +kernel
theorem dX7_leads_37 : decode cX7_leads 37 = .ok (.ireturn, 1) := by decide +kernel
theorem dX7_leads_38 : decode cX7_leads 38 = .ok (.aload_n 0, 1) := by decide +kernel
theorem dX7_leads_39 : decode cX7_leads 39 = .ok (.getfield 122, 3) := by decide +kernel
theorem dX7_leads_42 : decode cX7_leads 42 = .ok (.ifCond .ne 6, 3) := by decide +kernel
theorem dX7_leads_45 : decode cX7_leads 45 = .ok (.bipush (-2), 2) := by decide +kernel
theorem dX7_leads_47 : decode cX7_leads 47 = .ok (.ireturn, 1) := by decide +kernel
theorem dX7_leads_48 : decode cX7_leads 48 = .ok (.iload_n 1, 1) := by decide +kernel
theorem dX7_leads_49 : decode cX7_leads 49 = .ok (.iconst 0, 1) := by decide +kernel
theorem dX7_leads_50 : decode cX7_leads 50 = .ok (.aload_n 0, 1) := by decide +kernel
theorem dX7_leads_51 : decode cX7_leads 51 = .ok (.getfield 108, 3) := by decide +kernel
theorem dX7_leads_54 : decode cX7_leads 54 = .ok (.iconst 1, 1) := by decide +kernel
theorem dX7_leads_55 : decode cX7_leads 55 = .ok (.isub, 1) := by decide +kernel
theorem dX7_leads_56 : decode cX7_leads 56 = .ok (.invokestatic 111, 3) := by decide +kernel
theorem dX7_leads_59 : decode cX7_leads 59 = .ok (.ifCond .eq 18, 3) := by decide +kernel
theorem dX7_leads_62 : decode cX7_leads 62 = .ok (.aload_n 0, 1) := by decide +kernel
theorem dX7_leads_63 : decode cX7_leads 63 = .ok (.getfield 29, 3) := by decide +kernel
theorem dX7_leads_66 : decode cX7_leads 66 = .ok (.iload_n 2, 1) := by decide +kernel
theorem dX7_leads_67 : decode cX7_leads 67 = .ok (.iaload, 1) := by decide +kernel
theorem dX7_leads_68 : decode cX7_leads 68 = .ok (.aload_n 0, 1) := by decide +kernel
theorem dX7_leads_69 : decode cX7_leads 69 = .ok (.getfield 50, 3) := by decide +kernel
theorem dX7_leads_72 : decode cX7_leads 72 = .ok (.iload_n 1, 1) := by decide +kernel
theorem dX7_leads_73 : decode cX7_leads 73 = .ok (.iaload, 1) := by decide +kernel
theorem dX7_leads_74 : decode cX7_leads 74 = .ok (.if_icmp .eq 5, 3) := by decide +kernel
theorem dX7_leads_77 : decode cX7_leads 77 = .ok (.iconst (-1), 1) := by decide +kernel
theorem dX7_leads_78 : decode cX7_leads 78 = .ok (.ireturn, 1) := by decide +kernel
theorem dX7_leads_79 : decode cX7_leads 79 = .ok (.iload_n 3, 1) := by decide +kernel
theorem dX7_leads_80 : decode cX7_leads 80 = .ok (.istore 4, 2) := by decide +kernel
theorem dX7_leads_82 : decode cX7_leads 82 = .ok (.iconst 0, 1) := by decide +kernel
theorem dX7_leads_83 : decode cX7_leads 83 = .ok (.istore 5, 2) := by decide +kernel
theorem dX7_leads_85 : decode cX7_leads 85 = .ok (.iload 5, 2) := by decide +kernel
theorem dX7_leads_87 : decode cX7_leads 87 = .ok (.aload_n 0, 1) := by decide +kernel
theorem dX7_leads_88 : decode cX7_leads 88 = .ok (.getfield 108, 3) := by decide +kernel
theorem dX7_leads_91 : decode cX7_leads 91 = .ok (.if_icmp .ge 35, 3) := by decide +kernel
theorem dX7_leads_94 : decode cX7_leads 94 = .ok (.iload_n 3, 1) := by decide +kernel
theorem dX7_leads_95 : decode cX7_leads 95 = .ok (.ifCond .lt 31, 3) := by decide +kernel
theorem dX7_leads_98 : decode cX7_leads 98 = .ok (.aload_n 0, 1) := by decide +kernel
theorem dX7_leads_99 : decode cX7_leads 99 = .ok (.iload_n 1, 1) := by decide +kernel
theorem dX7_leads_100 : decode cX7_leads 100 = .ok (.iload_n 2, 1) := by decide +kernel
theorem dX7_leads_101 : decode cX7_leads 101 = .ok (.iload 5, 2) := by decide +kernel
theorem dX7_leads_103 : decode cX7_leads 103 = .ok (.invokevirtual 238, 3) := by decide +kernel
theorem dX7_leads_106 : decode cX7_leads 106 = .ok (.ifCond .eq 14, 3) := by decide +kernel
theorem dX7_leads_109 : decode cX7_leads 109 = .ok (.iload 4, 2) := by decide +kernel
theorem dX7_leads_111 : decode cX7_leads 111 = .ok (.ifCond .ne 6, 3) := by decide +kernel
theorem dX7_leads_114 : decode cX7_leads 114 = .ok (.iload 5, 2) := by decide +kernel
theorem dX7_leads_116 : decode cX7_leads 116 = .ok (.ireturn, 1) := by decide +kernel
theorem dX7_leads_117 : decode cX7_leads 117 = .ok (.iinc 4 (-1), 3) := by decide +kernel
theorem dX7_leads_120 : decode cX7_leads 120 = .ok (.iinc 5 1, 3) := by decide +kernel
theorem dX7_leads_123 : decode cX7_leads 123 = .ok (.goto (-38), 3) := by decide +kernel
theorem dX7_leads_126 : decode cX7_leads 126 = .ok (.bipush (-9), 2) := by decide +kernel
theorem dX7_leads_128 : decode cX7_leads 128 = .ok (.ireturn, 1) := by decide +kernel
theorem dX7_fails_0 : decode cX7_fails 0 = .ok (.aload_n 0, 1) := by decide +kernel
theorem dX7_fails_1 : decode cX7_fails 1 = .ok (.iload_n 1, 1) := by decide +kernel
theorem dX7_fails_2 : decode cX7_fails 2 = .ok (.putfield 252, 3) := by decide +kernel
theorem dX7_fails_5 : decode cX7_fails 5 = .ok (.aload_n 0, 1) := by decide +kernel
theorem dX7_fails_6 : decode cX7_fails 6 = .ok (.iload_n 2, 1) := by decide +kernel
theorem dX7_fails_7 : decode cX7_fails 7 = .ok (.putfield 255, 3) := by decide +kernel
theorem dX7_fails_10 : decode cX7_fails 10 = .ok (.return_, 1) := by decide +kernel
theorem dX7_counts_0 : decode cX7_counts 0 = .ok (.iload_n 1, 1) := by decide +kernel
theorem dX7_counts_1 : decode cX7_counts 1 = .ok (.ifCond .lt 55, 3) := by decide +kernel
theorem dX7_counts_4 : decode cX7_counts 4 = .ok (.aload_n 0, 1) := by decide +kernel
theorem dX7_counts_5 : decode cX7_counts 5 = .ok (.dup, 1) := by decide +kernel
theorem dX7_counts_6 : decode cX7_counts 6 = .ok (.getfield 258, 3) := by decide +kernel
theorem dX7_counts_9 : decode cX7_counts 9 = .ok (.iconst 1, 1) := by decide +kernel
theorem dX7_counts_10 : decode cX7_counts 10 = .ok (.iadd, 1) := by decide +kernel
theorem dX7_counts_11 : decode cX7_counts 11 = .ok (.putfield 258, 3) := by decide +kernel
theorem dX7_counts_14 : decode cX7_counts 14 = .ok (.aload_n 0, 1) := by decide +kernel
theorem dX7_counts_15 : decode cX7_counts 15 = .ok (.dup, 1) := by decide +kernel
theorem dX7_counts_16 : decode cX7_counts 16 = .ok (.getfield 261, 3) := by decide +kernel
theorem dX7_counts_19 : decode cX7_counts 19 = .ok (.aload_n 0, 1) := by decide +kernel
theorem dX7_counts_20 : decode cX7_counts 20 = .ok (.getfield 78, 3) := by decide +kernel
theorem dX7_counts_23 : decode cX7_counts 23 = .ok (.iload_n 1, 1) := by decide +kernel
theorem dX7_counts_24 : decode cX7_counts 24 = .ok (.iaload, 1) := by decide +kernel
theorem dX7_counts_25 : decode cX7_counts 25 = .ok (.aload_n 0, 1) := by decide +kernel
theorem dX7_counts_26 : decode cX7_counts 26 = .ok (.getfield 167, 3) := by decide +kernel
theorem dX7_counts_29 : decode cX7_counts 29 = .ok (.if_icmp .ge 22, 3) := by decide +kernel
theorem dX7_counts_32 : decode cX7_counts 32 = .ok (.lload_n 2, 1) := by decide +kernel
theorem dX7_counts_33 : decode cX7_counts 33 = .ok (.aload_n 0, 1) := by decide +kernel
theorem dX7_counts_34 : decode cX7_counts 34 = .ok (.getfield 78, 3) := by decide +kernel
theorem dX7_counts_37 : decode cX7_counts 37 = .ok (.iload_n 1, 1) := by decide +kernel
theorem dX7_counts_38 : decode cX7_counts 38 = .ok (.iaload, 1) := by decide +kernel
theorem dX7_counts_39 : decode cX7_counts 39 = .ok (.lshr, 1) := by decide +kernel
theorem dX7_counts_40 : decode cX7_counts 40 = .ok (.lconst 1, 1) := by decide +kernel
theorem dX7_counts_41 : decode cX7_counts 41 = .ok (.land, 1) := by decide +kernel
theorem dX7_counts_42 : decode cX7_counts 42 = .ok (.lconst 1, 1) := by decide +kernel
theorem dX7_counts_43 : decode cX7_counts 43 = .ok (.lcmp, 1) := by decide +kernel
theorem dX7_counts_44 : decode cX7_counts 44 = .ok (.ifCond .ne 7, 3) := by decide +kernel
theorem dX7_counts_47 : decode cX7_counts 47 = .ok (.iconst 0, 1) := by decide +kernel
theorem dX7_counts_48 : decode cX7_counts 48 = .ok (.goto 4, 3) := by decide +kernel
theorem dX7_counts_51 : decode cX7_counts 51 = .ok (.iconst 1, 1) := by decide +kernel
theorem dX7_counts_52 : decode cX7_counts 52 = .ok (.iadd, 1) := by decide +kernel
theorem dX7_counts_53 : decode cX7_counts 53 = .ok (.putfield 261, 3) := by decide +kernel
theorem dX7_counts_56 : decode cX7_counts 56 = .ok (.return_, 1) := by decide +kernel
theorem dX7_becomes_0 : decode cX7_becomes 0 = .ok (.aload_n 0, 1) := by decide +kernel
theorem dX7_becomes_1 : decode cX7_becomes 1 = .ok (.getfield 96, 3) := by decide +kernel
theorem dX7_becomes_4 : decode cX7_becomes 4 = .ok (.bipush 6, 2) := by decide +kernel
theorem dX7_becomes_6 : decode cX7_becomes 6 = .ok (.aload_n 0, 1) := by decide +kernel
theorem dX7_becomes_7 : decode cX7_becomes 7 = .ok (.getfield 264, 3) := by decide +kernel
theorem dX7_becomes_10 : decode cX7_becomes 10 = .ok (.iconst 1, 1) := by decide +kernel
theorem dX7_becomes_11 : decode cX7_becomes 11 = .ok (.isub, 1) := by decide +kernel
theorem dX7_becomes_12 : decode cX7_becomes 12 = .ok (.imul, 1) := by decide +kernel
theorem dX7_becomes_13 : decode cX7_becomes 13 = .ok (.iload_n 1, 1) := by decide +kernel
theorem dX7_becomes_14 : decode cX7_becomes 14 = .ok (.iadd, 1) := by decide +kernel
theorem dX7_becomes_15 : decode cX7_becomes 15 = .ok (.iload_n 2, 1) := by decide +kernel
theorem dX7_becomes_16 : decode cX7_becomes 16 = .ok (.iastore, 1) := by decide +kernel
theorem dX7_becomes_17 : decode cX7_becomes 17 = .ok (.aload_n 0, 1) := by decide +kernel
theorem dX7_becomes_18 : decode cX7_becomes 18 = .ok (.iload_n 2, 1) := by decide +kernel
theorem dX7_becomes_19 : decode cX7_becomes 19 = .ok (.aload_n 0, 1) := by decide +kernel
theorem dX7_becomes_20 : decode cX7_becomes 20 = .ok (.getfield 59, 3) := by decide +kernel
theorem dX7_becomes_23 : decode cX7_becomes 23 = .ok (.bipush 8, 2) := by decide +kernel
theorem dX7_becomes_25 : decode cX7_becomes 25 = .ok (.aload_n 0, 1) := by decide +kernel
theorem dX7_becomes_26 : decode cX7_becomes 26 = .ok (.getfield 90, 3) := by decide +kernel
theorem dX7_becomes_29 : decode cX7_becomes 29 = .ok (.aload_n 0, 1) := by decide +kernel
theorem dX7_becomes_30 : decode cX7_becomes 30 = .ok (.getfield 264, 3) := by decide +kernel
theorem dX7_becomes_33 : decode cX7_becomes 33 = .ok (.iconst 1, 1) := by decide +kernel
theorem dX7_becomes_34 : decode cX7_becomes 34 = .ok (.isub, 1) := by decide +kernel
theorem dX7_becomes_35 : decode cX7_becomes 35 = .ok (.iaload, 1) := by decide +kernel
theorem dX7_becomes_36 : decode cX7_becomes 36 = .ok (.imul, 1) := by decide +kernel
theorem dX7_becomes_37 : decode cX7_becomes 37 = .ok (.iload_n 1, 1) := by decide +kernel
theorem dX7_becomes_38 : decode cX7_becomes 38 = .ok (.iadd, 1) := by decide +kernel
theorem dX7_becomes_39 : decode cX7_becomes 39 = .ok (.laload, 1) := by decide +kernel
theorem dX7_becomes_40 : decode cX7_becomes 40 = .ok (.invokevirtual 267, 3) := by decide +kernel
theorem dX7_becomes_43 : decode cX7_becomes 43 = .ok (.return_, 1) := by decide +kernel
theorem dX7_var_0 : decode cX7_var 0 = .ok (.aload_n 0, 1) := by decide +kernel
theorem dX7_var_1 : decode cX7_var 1 = .ok (.getfield 96, 3) := by decide +kernel
theorem dX7_var_4 : decode cX7_var 4 = .ok (.bipush 6, 2) := by decide +kernel
theorem dX7_var_6 : decode cX7_var 6 = .ok (.aload_n 0, 1) := by decide +kernel
theorem dX7_var_7 : decode cX7_var 7 = .ok (.getfield 264, 3) := by decide +kernel
theorem dX7_var_10 : decode cX7_var 10 = .ok (.iconst 1, 1) := by decide +kernel
theorem dX7_var_11 : decode cX7_var 11 = .ok (.isub, 1) := by decide +kernel
theorem dX7_var_12 : decode cX7_var 12 = .ok (.imul, 1) := by decide +kernel
theorem dX7_var_13 : decode cX7_var 13 = .ok (.iload_n 1, 1) := by decide +kernel
theorem dX7_var_14 : decode cX7_var 14 = .ok (.iadd, 1) := by decide +kernel
theorem dX7_var_15 : decode cX7_var 15 = .ok (.iaload, 1) := by decide +kernel
theorem dX7_var_16 : decode cX7_var 16 = .ok (.ireturn, 1) := by decide +kernel
theorem dX7_begins_0 : decode cX7_begins 0 = .ok (.aload_n 0, 1) := by decide +kernel
theorem dX7_begins_1 : decode cX7_begins 1 = .ok (.getfield 264, 3) := by decide +kernel
theorem dX7_begins_4 : decode cX7_begins 4 = .ok (.bipush 25, 2) := by decide +kernel
theorem dX7_begins_6 : decode cX7_begins 6 = .ok (.if_icmp .ne 5, 3) := by decide +kernel
theorem dX7_begins_9 : decode cX7_begins 9 = .ok (.iconst 0, 1) := by decide +kernel
theorem dX7_begins_10 : decode cX7_begins 10 = .ok (.ireturn, 1) := by decide +kernel
theorem dX7_begins_11 : decode cX7_begins 11 = .ok (.aload_n 0, 1) := by decide +kernel
theorem dX7_begins_12 : decode cX7_begins 12 = .ok (.getfield 90, 3) := by decide +kernel
theorem dX7_begins_15 : decode cX7_begins 15 = .ok (.aload_n 0, 1) := by decide +kernel
theorem dX7_begins_16 : decode cX7_begins 16 = .ok (.getfield 264, 3) := by decide +kernel
theorem dX7_begins_19 : decode cX7_begins 19 = .ok (.iload_n 1, 1) := by decide +kernel
theorem dX7_begins_20 : decode cX7_begins 20 = .ok (.iastore, 1) := by decide +kernel
theorem dX7_begins_21 : decode cX7_begins 21 = .ok (.aload_n 0, 1) := by decide +kernel
theorem dX7_begins_22 : decode cX7_begins 22 = .ok (.getfield 93, 3) := by decide +kernel
theorem dX7_begins_25 : decode cX7_begins 25 = .ok (.aload_n 0, 1) := by decide +kernel
theorem dX7_begins_26 : decode cX7_begins 26 = .ok (.getfield 264, 3) := by decide +kernel
theorem dX7_begins_29 : decode cX7_begins 29 = .ok (.iconst 0, 1) := by decide +kernel
theorem dX7_begins_30 : decode cX7_begins 30 = .ok (.iastore, 1) := by decide +kernel
theorem dX7_begins_31 : decode cX7_begins 31 = .ok (.iconst 0, 1) := by decide +kernel
theorem dX7_begins_32 : decode cX7_begins 32 = .ok (.istore_n 2, 1) := by decide +kernel
theorem dX7_begins_33 : decode cX7_begins 33 = .ok (.iload_n 2, 1) := by decide +kernel
theorem dX7_begins_34 : decode cX7_begins 34 = .ok (.bipush 6, 2) := by decide +kernel
theorem dX7_begins_36 : decode cX7_begins 36 = .ok (.if_icmp .ge 24, 3) := by decide +kernel
theorem dX7_begins_39 : decode cX7_begins 39 = .ok (.aload_n 0, 1) := by decide +kernel
theorem dX7_begins_40 : decode cX7_begins 40 = .ok (.getfield 96, 3) := by decide +kernel
theorem dX7_begins_43 : decode cX7_begins 43 = .ok (.bipush 6, 2) := by decide +kernel
theorem dX7_begins_45 : decode cX7_begins 45 = .ok (.aload_n 0, 1) := by decide +kernel
theorem dX7_begins_46 : decode cX7_begins 46 = .ok (.getfield 264, 3) := by decide +kernel
theorem dX7_begins_49 : decode cX7_begins 49 = .ok (.imul, 1) := by decide +kernel
theorem dX7_begins_50 : decode cX7_begins 50 = .ok (.iload_n 2, 1) := by decide +kernel
theorem dX7_begins_51 : decode cX7_begins 51 = .ok (.iadd, 1) := by decide +kernel
theorem dX7_begins_52 : decode cX7_begins 52 = .ok (.iconst (-1), 1) := by decide +kernel
theorem dX7_begins_53 : decode cX7_begins 53 = .ok (.iastore, 1) := by decide +kernel
theorem dX7_begins_54 : decode cX7_begins 54 = .ok (.iinc 2 1, 3) := by decide +kernel
theorem dX7_begins_57 : decode cX7_begins 57 = .ok (.goto (-24), 3) := by decide +kernel
theorem dX7_begins_60 : decode cX7_begins 60 = .ok (.aload_n 0, 1) := by decide +kernel
theorem dX7_begins_61 : decode cX7_begins 61 = .ok (.dup, 1) := by decide +kernel
theorem dX7_begins_62 : decode cX7_begins 62 = .ok (.getfield 264, 3) := by decide +kernel
theorem dX7_begins_65 : decode cX7_begins 65 = .ok (.iconst 1, 1) := by decide +kernel
theorem dX7_begins_66 : decode cX7_begins 66 = .ok (.iadd, 1) := by decide +kernel
theorem dX7_begins_67 : decode cX7_begins 67 = .ok (.putfield 264, 3) := by decide +kernel
theorem dX7_begins_70 : decode cX7_begins 70 = .ok (.aload_n 0, 1) := by decide +kernel
theorem dX7_begins_71 : decode cX7_begins 71 = .ok (.aload_n 0, 1) := by decide +kernel
theorem dX7_begins_72 : decode cX7_begins 72 = .ok (.getfield 264, 3) := by decide +kernel
theorem dX7_begins_75 : decode cX7_begins 75 = .ok (.aload_n 0, 1) := by decide +kernel
theorem dX7_begins_76 : decode cX7_begins 76 = .ok (.getfield 271, 3) := by decide +kernel
theorem dX7_begins_79 : decode cX7_begins 79 = .ok (.if_icmp .le 10, 3) := by decide +kernel
theorem dX7_begins_82 : decode cX7_begins 82 = .ok (.aload_n 0, 1) := by decide +kernel
theorem dX7_begins_83 : decode cX7_begins 83 = .ok (.getfield 264, 3) := by decide +kernel
theorem dX7_begins_86 : decode cX7_begins 86 = .ok (.goto 7, 3) := by decide +kernel
theorem dX7_begins_89 : decode cX7_begins 89 = .ok (.aload_n 0, 1) := by decide +kernel
theorem dX7_begins_90 : decode cX7_begins 90 = .ok (.getfield 271, 3) := by decide +kernel
theorem dX7_begins_93 : decode cX7_begins 93 = .ok (.putfield 271, 3) := by decide +kernel
theorem dX7_begins_96 : decode cX7_begins 96 = .ok (.iconst 1, 1) := by decide +kernel
theorem dX7_begins_97 : decode cX7_begins 97 = .ok (.ireturn, 1) := by decide +kernel
theorem dX7_ends_0 : decode cX7_ends 0 = .ok (.aload_n 0, 1) := by decide +kernel
theorem dX7_ends_1 : decode cX7_ends 1 = .ok (.dup, 1) := by decide +kernel
theorem dX7_ends_2 : decode cX7_ends 2 = .ok (.getfield 264, 3) := by decide +kernel
theorem dX7_ends_5 : decode cX7_ends 5 = .ok (.iconst 1, 1) := by decide +kernel
theorem dX7_ends_6 : decode cX7_ends 6 = .ok (.isub, 1) := by decide +kernel
theorem dX7_ends_7 : decode cX7_ends 7 = .ok (.putfield 264, 3) := by decide +kernel
theorem dX7_ends_10 : decode cX7_ends 10 = .ok (.aload_n 0, 1) := by decide +kernel
theorem dX7_ends_11 : decode cX7_ends 11 = .ok (.getfield 264, 3) := by decide +kernel
theorem dX7_ends_14 : decode cX7_ends 14 = .ok (.ifCond .ne 9, 3) := by decide +kernel
theorem dX7_ends_17 : decode cX7_ends 17 = .ok (.aload_n 0, 1) := by decide +kernel
theorem dX7_ends_18 : decode cX7_ends 18 = .ok (.iload_n 1, 1) := by decide +kernel
theorem dX7_ends_19 : decode cX7_ends 19 = .ok (.putfield 274, 3) := by decide +kernel
theorem dX7_ends_22 : decode cX7_ends 22 = .ok (.return_, 1) := by decide +kernel
theorem dX7_ends_23 : decode cX7_ends 23 = .ok (.aload_n 0, 1) := by decide +kernel
theorem dX7_ends_24 : decode cX7_ends 24 = .ok (.getfield 50, 3) := by decide +kernel
theorem dX7_ends_27 : decode cX7_ends 27 = .ok (.aload_n 0, 1) := by decide +kernel
theorem dX7_ends_28 : decode cX7_ends 28 = .ok (.getfield 90, 3) := by decide +kernel
theorem dX7_ends_31 : decode cX7_ends 31 = .ok (.aload_n 0, 1) := by decide +kernel
theorem dX7_ends_32 : decode cX7_ends 32 = .ok (.getfield 264, 3) := by decide +kernel
theorem dX7_ends_35 : decode cX7_ends 35 = .ok (.iconst 1, 1) := by decide +kernel
theorem dX7_ends_36 : decode cX7_ends 36 = .ok (.isub, 1) := by decide +kernel
theorem dX7_ends_37 : decode cX7_ends 37 = .ok (.iaload, 1) := by decide +kernel
theorem dX7_ends_38 : decode cX7_ends 38 = .ok (.iaload, 1) := by decide +kernel
theorem dX7_ends_39 : decode cX7_ends 39 = .ok (.istore_n 2, 1) := by decide +kernel
theorem dX7_ends_40 : decode cX7_ends 40 = .ok (.aload_n 0, 1) := by decide +kernel
theorem dX7_ends_41 : decode cX7_ends 41 = .ok (.aload_n 0, 1) := by decide +kernel
theorem dX7_ends_42 : decode cX7_ends 42 = .ok (.getfield 38, 3) := by decide +kernel
theorem dX7_ends_45 : decode cX7_ends 45 = .ok (.aload_n 0, 1) := by decide +kernel
theorem dX7_ends_46 : decode cX7_ends 46 = .ok (.getfield 26, 3) := by decide +kernel
theorem dX7_ends_49 : decode cX7_ends 49 = .ok (.bipush 90, 2) := by decide +kernel
theorem dX7_ends_51 : decode cX7_ends 51 = .ok (.iload_n 2, 1) := by decide +kernel
theorem dX7_ends_52 : decode cX7_ends 52 = .ok (.imul, 1) := by decide +kernel
theorem dX7_ends_53 : decode cX7_ends 53 = .ok (.aload_n 0, 1) := by decide +kernel
theorem dX7_ends_54 : decode cX7_ends 54 = .ok (.getfield 93, 3) := by decide +kernel
theorem dX7_ends_57 : decode cX7_ends 57 = .ok (.aload_n 0, 1) := by decide +kernel
theorem dX7_ends_58 : decode cX7_ends 58 = .ok (.getfield 264, 3) := by decide +kernel
theorem dX7_ends_61 : decode cX7_ends 61 = .ok (.iconst 1, 1) := by decide +kernel
theorem dX7_ends_62 : decode cX7_ends 62 = .ok (.isub, 1) := by decide +kernel
theorem dX7_ends_63 : decode cX7_ends 63 = .ok (.iaload, 1) := by decide +kernel
theorem dX7_ends_64 : decode cX7_ends 64 = .ok (.iadd, 1) := by decide +kernel
theorem dX7_ends_65 : decode cX7_ends 65 = .ok (.iconst 1, 1) := by decide +kernel
theorem dX7_ends_66 : decode cX7_ends 66 = .ok (.isub, 1) := by decide +kernel
theorem dX7_ends_67 : decode cX7_ends 67 = .ok (.iaload, 1) := by decide +kernel
theorem dX7_ends_68 : decode cX7_ends 68 = .ok (.iaload, 1) := by decide +kernel
theorem dX7_ends_69 : decode cX7_ends 69 = .ok (.iload_n 1, 1) := by decide +kernel
theorem dX7_ends_70 : decode cX7_ends 70 = .ok (.invokevirtual 277, 3) := by decide +kernel
theorem dX7_ends_73 : decode cX7_ends 73 = .ok (.return_, 1) := by decide +kernel
theorem dX7_isObjectBelow_0 : decode cX7_isObjectBelow 0 = .ok (.aload_n 0, 1) := by decide +kernel
theorem dX7_isObjectBelow_1 : decode cX7_isObjectBelow 1 = .ok (.aload_n 0, 1) := by decide +kernel
theorem dX7_isObjectBelow_2 : decode cX7_isObjectBelow 2 = .ok (.getfield 99, 3) := by decide +kernel
theorem dX7_isObjectBelow_5 : decode cX7_isObjectBelow 5 = .ok (.iload_n 1, 1) := by decide +kernel
theorem dX7_isObjectBelow_6 : decode cX7_isObjectBelow 6 = .ok (.iaload, 1) := by decide +kernel
theorem dX7_isObjectBelow_7 : decode cX7_isObjectBelow 7 = .ok (.iload_n 2, 1) := by decide +kernel
theorem dX7_isObjectBelow_8 : decode cX7_isObjectBelow 8 = .ok (.invokevirtual 177, 3) := by decide +kernel
theorem dX7_isObjectBelow_11 : decode cX7_isObjectBelow 11 = .ok (.ireturn, 1) := by decide +kernel
theorem dX7_raises_0 : decode cX7_raises 0 = .ok (.aload_n 0, 1) := by decide +kernel
theorem dX7_raises_1 : decode cX7_raises 1 = .ok (.getfield 264, 3) := by decide +kernel
theorem dX7_raises_4 : decode cX7_raises 4 = .ok (.ifCond .le 141, 3) := by decide +kernel
theorem dX7_raises_7 : decode cX7_raises 7 = .ok (.aload_n 0, 1) := by decide +kernel
theorem dX7_raises_8 : decode cX7_raises 8 = .ok (.getfield 50, 3) := by decide +kernel
theorem dX7_raises_11 : decode cX7_raises 11 = .ok (.aload_n 0, 1) := by decide +kernel
theorem dX7_raises_12 : decode cX7_raises 12 = .ok (.getfield 90, 3) := by decide +kernel
theorem dX7_raises_15 : decode cX7_raises 15 = .ok (.aload_n 0, 1) := by decide +kernel
theorem dX7_raises_16 : decode cX7_raises 16 = .ok (.getfield 264, 3) := by decide +kernel
theorem dX7_raises_19 : decode cX7_raises 19 = .ok (.iconst 1, 1) := by decide +kernel
theorem dX7_raises_20 : decode cX7_raises 20 = .ok (.isub, 1) := by decide +kernel
theorem dX7_raises_21 : decode cX7_raises 21 = .ok (.iaload, 1) := by decide +kernel
theorem dX7_raises_22 : decode cX7_raises 22 = .ok (.iaload, 1) := by decide +kernel
theorem dX7_raises_23 : decode cX7_raises 23 = .ok (.istore_n 3, 1) := by decide +kernel
theorem dX7_raises_24 : decode cX7_raises 24 = .ok (.aload_n 0, 1) := by decide +kernel
theorem dX7_raises_25 : decode cX7_raises 25 = .ok (.getfield 93, 3) := by decide +kernel
theorem dX7_raises_28 : decode cX7_raises 28 = .ok (.aload_n 0, 1) := by decide +kernel
theorem dX7_raises_29 : decode cX7_raises 29 = .ok (.getfield 264, 3) := by decide +kernel
theorem dX7_raises_32 : decode cX7_raises 32 = .ok (.iconst 1, 1) := by decide +kernel
theorem dX7_raises_33 : decode cX7_raises 33 = .ok (.isub, 1) := by decide +kernel
theorem dX7_raises_34 : decode cX7_raises 34 = .ok (.iaload, 1) := by decide +kernel
theorem dX7_raises_35 : decode cX7_raises 35 = .ok (.iconst 1, 1) := by decide +kernel
theorem dX7_raises_36 : decode cX7_raises 36 = .ok (.isub, 1) := by decide +kernel
theorem dX7_raises_37 : decode cX7_raises 37 = .ok (.istore 4, 2) := by decide +kernel
theorem dX7_raises_39 : decode cX7_raises 39 = .ok (.iload 4, 2) := by decide +kernel
theorem dX7_raises_41 : decode cX7_raises 41 = .ok (.iconst 1, 1) := by decide +kernel
theorem dX7_raises_42 : decode cX7_raises 42 = .ok (.isub, 1) := by decide +kernel
theorem dX7_raises_43 : decode cX7_raises 43 = .ok (.istore 5, 2) := by decide +kernel
theorem dX7_raises_45 : decode cX7_raises 45 = .ok (.iload 5, 2) := by decide +kernel
theorem dX7_raises_47 : decode cX7_raises 47 = .ok (.ifCond .lt 85, 3) := by decide +kernel
theorem dX7_raises_50 : decode cX7_raises 50 = .ok (.aload_n 0, 1) := by decide +kernel
theorem dX7_raises_51 : decode cX7_raises 51 = .ok (.getfield 26, 3) := by decide +kernel
theorem dX7_raises_54 : decode cX7_raises 54 = .ok (.bipush 90, 2) := by decide +kernel
theorem dX7_raises_56 : decode cX7_raises 56 = .ok (.iload_n 3, 1) := by decide +kernel
theorem dX7_raises_57 : decode cX7_raises 57 = .ok (.imul, 1) := by decide +kernel
theorem dX7_raises_58 : decode cX7_raises 58 = .ok (.iload 5, 2) := by decide +kernel
theorem dX7_raises_60 : decode cX7_raises 60 = .ok (.iadd, 1) := by decide +kernel
theorem dX7_raises_61 : decode cX7_raises 61 = .ok (.iaload, 1) := by decide +kernel
theorem dX7_raises_62 : decode cX7_raises 62 = .ok (.istore 6, 2) := by decide +kernel
theorem dX7_raises_64 : decode cX7_raises 64 = .ok (.aload_n 0, 1) := by decide +kernel
theorem dX7_raises_65 : decode cX7_raises 65 = .ok (.iload 6, 2) := by decide +kernel
theorem dX7_raises_67 : decode cX7_raises 67 = .ok (.iload 4, 2) := by decide +kernel
theorem dX7_raises_69 : decode cX7_raises 69 = .ok (.invokevirtual 181, 3) := by decide +kernel
theorem dX7_raises_72 : decode cX7_raises 72 = .ok (.ifCond .eq 54, 3) := by decide +kernel
theorem dX7_raises_75 : decode cX7_raises 75 = .ok (.aload_n 0, 1) := by decide +kernel
theorem dX7_raises_76 : decode cX7_raises 76 = .ok (.iload_n 1, 1) := by decide +kernel
theorem dX7_raises_77 : decode cX7_raises 77 = .ok (.aload_n 0, 1) := by decide +kernel
theorem dX7_raises_78 : decode cX7_raises 78 = .ok (.getfield 44, 3) := by decide +kernel
theorem dX7_raises_81 : decode cX7_raises 81 = .ok (.iload 6, 2) := by decide +kernel
theorem dX7_raises_83 : decode cX7_raises 83 = .ok (.iaload, 1) := by decide +kernel
theorem dX7_raises_84 : decode cX7_raises 84 = .ok (.invokevirtual 280, 3) := by decide +kernel
theorem dX7_raises_87 : decode cX7_raises 87 = .ok (.ifCond .eq 39, 3) := by decide +kernel
theorem dX7_raises_90 : decode cX7_raises 90 = .ok (.aload_n 0, 1) := by decide +kernel
theorem dX7_raises_91 : decode cX7_raises 91 = .ok (.aload_n 0, 1) := by decide +kernel
theorem dX7_raises_92 : decode cX7_raises 92 = .ok (.getfield 38, 3) := by decide +kernel
theorem dX7_raises_95 : decode cX7_raises 95 = .ok (.iload 6, 2) := by decide +kernel
theorem dX7_raises_97 : decode cX7_raises 97 = .ok (.iaload, 1) := by decide +kernel
theorem dX7_raises_98 : decode cX7_raises 98 = .ok (.iload_n 1, 1) := by decide +kernel
theorem dX7_raises_99 : decode cX7_raises 99 = .ok (.invokevirtual 277, 3) := by decide +kernel
theorem dX7_raises_102 : decode cX7_raises 102 = .ok (.aload_n 0, 1) := by decide +kernel
theorem dX7_raises_103 : decode cX7_raises 103 = .ok (.getfield 93, 3) := by decide +kernel
theorem dX7_raises_106 : decode cX7_raises 106 = .ok (.aload_n 0, 1) := by decide +kernel
theorem dX7_raises_107 : decode cX7_raises 107 = .ok (.getfield 264, 3) := by decide +kernel
theorem dX7_raises_110 : decode cX7_raises 110 = .ok (.iconst 1, 1) := by decide +kernel
theorem dX7_raises_111 : decode cX7_raises 111 = .ok (.isub, 1) := by decide +kernel
theorem dX7_raises_112 : decode cX7_raises 112 = .ok (.iload 5, 2) := by decide +kernel
theorem dX7_raises_114 : decode cX7_raises 114 = .ok (.aload_n 0, 1) := by decide +kernel
theorem dX7_raises_115 : decode cX7_raises 115 = .ok (.getfield 41, 3) := by decide +kernel
theorem dX7_raises_118 : decode cX7_raises 118 = .ok (.iload 6, 2) := by decide +kernel
theorem dX7_raises_120 : decode cX7_raises 120 = .ok (.iaload, 1) := by decide +kernel
theorem dX7_raises_121 : decode cX7_raises 121 = .ok (.iadd, 1) := by decide +kernel
theorem dX7_raises_122 : decode cX7_raises 122 = .ok (.iconst 1, 1) := by decide +kernel
theorem dX7_raises_123 : decode cX7_raises 123 = .ok (.iadd, 1) := by decide +kernel
theorem dX7_raises_124 : decode cX7_raises 124 = .ok (.iastore, 1) := by decide +kernel
theorem dX7_raises_125 : decode cX7_raises 125 = .ok (.return_, 1) := by decide +kernel
theorem dX7_raises_126 : decode cX7_raises 126 = .ok (.iinc 5 (-1), 3) := by decide +kernel
theorem dX7_raises_129 : decode cX7_raises 129 = .ok (.goto (-84), 3) := by decide +kernel
theorem dX7_raises_132 : decode cX7_raises 132 = .ok (.aload_n 0, 1) := by decide +kernel
theorem dX7_raises_133 : decode cX7_raises 133 = .ok (.dup, 1) := by decide +kernel
theorem dX7_raises_134 : decode cX7_raises 134 = .ok (.getfield 264, 3) := by decide +kernel
theorem dX7_raises_137 : decode cX7_raises 137 = .ok (.iconst 1, 1) := by decide +kernel
theorem dX7_raises_138 : decode cX7_raises 138 = .ok (.isub, 1) := by decide +kernel
theorem dX7_raises_139 : decode cX7_raises 139 = .ok (.putfield 264, 3) := by decide +kernel
theorem dX7_raises_142 : decode cX7_raises 142 = .ok (.goto (-142), 3) := by decide +kernel
theorem dX7_raises_145 : decode cX7_raises 145 = .ok (.aload_n 0, 1) := by decide +kernel
theorem dX7_raises_146 : decode cX7_raises 146 = .ok (.iload_n 1, 1) := by decide +kernel
theorem dX7_raises_147 : decode cX7_raises 147 = .ok (.putfield 274, 3) := by decide +kernel
theorem dX7_raises_150 : decode cX7_raises 150 = .ok (.aload_n 0, 1) := by decide +kernel
theorem dX7_raises_151 : decode cX7_raises 151 = .ok (.bipush 7, 2) := by decide +kernel
theorem dX7_raises_153 : decode cX7_raises 153 = .ok (.iload_n 2, 1) := by decide +kernel
theorem dX7_raises_154 : decode cX7_raises 154 = .ok (.invokevirtual 283, 3) := by decide +kernel
theorem dX7_raises_157 : decode cX7_raises 157 = .ok (.return_, 1) := by decide +kernel
theorem dX7_makes_0 : decode cX7_makes 0 = .ok (.aload_n 0, 1) := by decide +kernel
theorem dX7_makes_1 : decode cX7_makes 1 = .ok (.getfield 90, 3) := by decide +kernel
theorem dX7_makes_4 : decode cX7_makes 4 = .ok (.aload_n 0, 1) := by decide +kernel
theorem dX7_makes_5 : decode cX7_makes 5 = .ok (.getfield 264, 3) := by decide +kernel
theorem dX7_makes_8 : decode cX7_makes 8 = .ok (.iconst 1, 1) := by decide +kernel
theorem dX7_makes_9 : decode cX7_makes 9 = .ok (.isub, 1) := by decide +kernel
theorem dX7_makes_10 : decode cX7_makes 10 = .ok (.iaload, 1) := by decide +kernel
theorem dX7_makes_11 : decode cX7_makes 11 = .ok (.istore_n 3, 1) := by decide +kernel
theorem dX7_makes_12 : decode cX7_makes 12 = .ok (.aload_n 0, 1) := by decide +kernel
theorem dX7_makes_13 : decode cX7_makes 13 = .ok (.getfield 75, 3) := by decide +kernel
theorem dX7_makes_16 : decode cX7_makes 16 = .ok (.aload_n 0, 1) := by decide +kernel
theorem dX7_makes_17 : decode cX7_makes 17 = .ok (.getfield 286, 3) := by decide +kernel
theorem dX7_makes_20 : decode cX7_makes 20 = .ok (.iload_n 2, 1) := by decide +kernel
theorem dX7_makes_21 : decode cX7_makes 21 = .ok (.iastore, 1) := by decide +kernel
theorem dX7_makes_22 : decode cX7_makes 22 = .ok (.aload_n 0, 1) := by decide +kernel
theorem dX7_makes_23 : decode cX7_makes 23 = .ok (.getfield 81, 3) := by decide +kernel
theorem dX7_makes_26 : decode cX7_makes 26 = .ok (.aload_n 0, 1) := by decide +kernel
theorem dX7_makes_27 : decode cX7_makes 27 = .ok (.getfield 286, 3) := by decide +kernel
theorem dX7_makes_30 : decode cX7_makes 30 = .ok (.iload_n 3, 1) := by decide +kernel
theorem dX7_makes_31 : decode cX7_makes 31 = .ok (.iastore, 1) := by decide +kernel
theorem dX7_makes_32 : decode cX7_makes 32 = .ok (.aload_n 0, 1) := by decide +kernel
theorem dX7_makes_33 : decode cX7_makes 33 = .ok (.getfield 78, 3) := by decide +kernel
theorem dX7_makes_36 : decode cX7_makes 36 = .ok (.aload_n 0, 1) := by decide +kernel
theorem dX7_makes_37 : decode cX7_makes 37 = .ok (.getfield 286, 3) := by decide +kernel
theorem dX7_makes_40 : decode cX7_makes 40 = .ok (.aload_n 0, 1) := by decide +kernel
theorem dX7_makes_41 : decode cX7_makes 41 = .ok (.iload_n 2, 1) := by decide +kernel
theorem dX7_makes_42 : decode cX7_makes 42 = .ok (.iload_n 3, 1) := by decide +kernel
theorem dX7_makes_43 : decode cX7_makes 43 = .ok (.invokevirtual 170, 3) := by decide +kernel
theorem dX7_makes_46 : decode cX7_makes 46 = .ok (.iastore, 1) := by decide +kernel
theorem dX7_makes_47 : decode cX7_makes 47 = .ok (.aload_n 0, 1) := by decide +kernel
theorem dX7_makes_48 : decode cX7_makes 48 = .ok (.getfield 99, 3) := by decide +kernel
theorem dX7_makes_51 : decode cX7_makes 51 = .ok (.aload_n 0, 1) := by decide +kernel
theorem dX7_makes_52 : decode cX7_makes 52 = .ok (.getfield 286, 3) := by decide +kernel
theorem dX7_makes_55 : decode cX7_makes 55 = .ok (.aload_n 0, 1) := by decide +kernel
theorem dX7_makes_56 : decode cX7_makes 56 = .ok (.getfield 35, 3) := by decide +kernel
theorem dX7_makes_59 : decode cX7_makes 59 = .ok (.iload_n 2, 1) := by decide +kernel
theorem dX7_makes_60 : decode cX7_makes 60 = .ok (.iaload, 1) := by decide +kernel
theorem dX7_makes_61 : decode cX7_makes 61 = .ok (.iconst 1, 1) := by decide +kernel
theorem dX7_makes_62 : decode cX7_makes 62 = .ok (.if_icmp .ne 7, 3) := by decide +kernel
theorem dX7_makes_65 : decode cX7_makes 65 = .ok (.iconst 0, 1) := by decide +kernel
theorem dX7_makes_66 : decode cX7_makes 66 = .ok (.goto 9, 3) := by decide +kernel
theorem dX7_makes_69 : decode cX7_makes 69 = .ok (.aload_n 0, 1) := by decide +kernel
theorem dX7_makes_70 : decode cX7_makes 70 = .ok (.getfield 41, 3) := by decide +kernel
theorem dX7_makes_73 : decode cX7_makes 73 = .ok (.iload_n 2, 1) := by decide +kernel
theorem dX7_makes_74 : decode cX7_makes 74 = .ok (.iaload, 1) := by decide +kernel
theorem dX7_makes_75 : decode cX7_makes 75 = .ok (.iastore, 1) := by decide +kernel
theorem dX7_makes_76 : decode cX7_makes 76 = .ok (.iconst 0, 1) := by decide +kernel
theorem dX7_makes_77 : decode cX7_makes 77 = .ok (.istore 4, 2) := by decide +kernel
theorem dX7_makes_79 : decode cX7_makes 79 = .ok (.iload 4, 2) := by decide +kernel
theorem dX7_makes_81 : decode cX7_makes 81 = .ok (.iconst 5, 1) := by decide +kernel
theorem dX7_makes_82 : decode cX7_makes 82 = .ok (.if_icmp .ge 24, 3) := by decide +kernel
theorem dX7_makes_85 : decode cX7_makes 85 = .ok (.aload_n 0, 1) := by decide +kernel
theorem dX7_makes_86 : decode cX7_makes 86 = .ok (.getfield 84, 3) := by decide +kernel
theorem dX7_makes_89 : decode cX7_makes 89 = .ok (.iconst 5, 1) := by decide +kernel
theorem dX7_makes_90 : decode cX7_makes 90 = .ok (.aload_n 0, 1) := by decide +kernel
theorem dX7_makes_91 : decode cX7_makes 91 = .ok (.getfield 286, 3) := by decide +kernel
theorem dX7_makes_94 : decode cX7_makes 94 = .ok (.imul, 1) := by decide +kernel
theorem dX7_makes_95 : decode cX7_makes 95 = .ok (.iload 4, 2) := by decide +kernel
theorem dX7_makes_97 : decode cX7_makes 97 = .ok (.iadd, 1) := by decide +kernel
theorem dX7_makes_98 : decode cX7_makes 98 = .ok (.iconst (-1), 1) := by decide +kernel
theorem dX7_makes_99 : decode cX7_makes 99 = .ok (.iastore, 1) := by decide +kernel
theorem dX7_makes_100 : decode cX7_makes 100 = .ok (.iinc 4 1, 3) := by decide +kernel
theorem dX7_makes_103 : decode cX7_makes 103 = .ok (.goto (-24), 3) := by decide +kernel
theorem dX7_makes_106 : decode cX7_makes 106 = .ok (.aload_n 0, 1) := by decide +kernel
theorem dX7_makes_107 : decode cX7_makes 107 = .ok (.dup, 1) := by decide +kernel
theorem dX7_makes_108 : decode cX7_makes 108 = .ok (.getfield 286, 3) := by decide +kernel
theorem dX7_makes_111 : decode cX7_makes 111 = .ok (.iconst 1, 1) := by decide +kernel
theorem dX7_makes_112 : decode cX7_makes 112 = .ok (.iadd, 1) := by decide +kernel
theorem dX7_makes_113 : decode cX7_makes 113 = .ok (.putfield 286, 3) := by decide +kernel
theorem dX7_makes_116 : decode cX7_makes 116 = .ok (.aload_n 0, 1) := by decide +kernel
theorem dX7_makes_117 : decode cX7_makes 117 = .ok (.iload_n 1, 1) := by decide +kernel
theorem dX7_makes_118 : decode cX7_makes 118 = .ok (.aload_n 0, 1) := by decide +kernel
theorem dX7_makes_119 : decode cX7_makes 119 = .ok (.getfield 286, 3) := by decide +kernel
theorem dX7_makes_122 : decode cX7_makes 122 = .ok (.iconst 1, 1) := by decide +kernel
theorem dX7_makes_123 : decode cX7_makes 123 = .ok (.isub, 1) := by decide +kernel
theorem dX7_makes_124 : decode cX7_makes 124 = .ok (.invokevirtual 277, 3) := by decide +kernel
theorem dX7_makes_127 : decode cX7_makes 127 = .ok (.return_, 1) := by decide +kernel
theorem dX7_isRowNow_0 : decode cX7_isRowNow 0 = .ok (.aload_n 0, 1) := by decide +kernel
theorem dX7_isRowNow_1 : decode cX7_isRowNow 1 = .ok (.getfield 35, 3) := by decide +kernel
theorem dX7_isRowNow_4 : decode cX7_isRowNow 4 = .ok (.aload_n 0, 1) := by decide +kernel
theorem dX7_isRowNow_5 : decode cX7_isRowNow 5 = .ok (.getfield 75, 3) := by decide +kernel
theorem dX7_isRowNow_8 : decode cX7_isRowNow 8 = .ok (.iload_n 1, 1) := by decide +kernel
theorem dX7_isRowNow_9 : decode cX7_isRowNow 9 = .ok (.iaload, 1) := by decide +kernel
theorem dX7_isRowNow_10 : decode cX7_isRowNow 10 = .ok (.iaload, 1) := by decide +kernel
theorem dX7_isRowNow_11 : decode cX7_isRowNow 11 = .ok (.iconst 1, 1) := by decide +kernel
theorem dX7_isRowNow_12 : decode cX7_isRowNow 12 = .ok (.if_icmp .ne 7, 3) := by decide +kernel
theorem dX7_isRowNow_15 : decode cX7_isRowNow 15 = .ok (.iconst 1, 1) := by decide +kernel
theorem dX7_isRowNow_16 : decode cX7_isRowNow 16 = .ok (.goto 4, 3) := by decide +kernel
theorem dX7_isRowNow_19 : decode cX7_isRowNow 19 = .ok (.iconst 0, 1) := by decide +kernel
theorem dX7_isRowNow_20 : decode cX7_isRowNow 20 = .ok (.ireturn, 1) := by decide +kernel
theorem dX7_against_0 : decode cX7_against 0 = .ok (.iload_n 1, 1) := by decide +kernel
theorem dX7_against_1 : decode cX7_against 1 = .ok (.ifCond .ge 5, 3) := by decide +kernel
theorem dX7_against_4 : decode cX7_against 4 = .ok (.iconst 1, 1) := by decide +kernel
theorem dX7_against_5 : decode cX7_against 5 = .ok (.ireturn, 1) := by decide +kernel
theorem dX7_against_6 : decode cX7_against 6 = .ok (.aload_n 0, 1) := by decide +kernel
theorem dX7_against_7 : decode cX7_against 7 = .ok (.iload_n 1, 1) := by decide +kernel
theorem dX7_against_8 : decode cX7_against 8 = .ok (.invokevirtual 289, 3) := by decide +kernel
theorem dX7_against_11 : decode cX7_against 11 = .ok (.iload_n 2, 1) := by decide +kernel
theorem dX7_against_12 : decode cX7_against 12 = .ok (.if_icmp .eq 5, 3) := by decide +kernel
theorem dX7_against_15 : decode cX7_against 15 = .ok (.iconst 2, 1) := by decide +kernel
theorem dX7_against_16 : decode cX7_against 16 = .ok (.ireturn, 1) := by decide +kernel
theorem dX7_against_17 : decode cX7_against 17 = .ok (.iload_n 2, 1) := by decide +kernel
theorem dX7_against_18 : decode cX7_against 18 = .ok (.ifCond .eq 22, 3) := by decide +kernel
theorem dX7_against_21 : decode cX7_against 21 = .ok (.iload_n 3, 1) := by decide +kernel
theorem dX7_against_22 : decode cX7_against 22 = .ok (.aload_n 0, 1) := by decide +kernel
theorem dX7_against_23 : decode cX7_against 23 = .ok (.getfield 44, 3) := by decide +kernel
theorem dX7_against_26 : decode cX7_against 26 = .ok (.aload_n 0, 1) := by decide +kernel
theorem dX7_against_27 : decode cX7_against 27 = .ok (.getfield 75, 3) := by decide +kernel
theorem dX7_against_30 : decode cX7_against 30 = .ok (.iload_n 1, 1) := by decide +kernel
theorem dX7_against_31 : decode cX7_against 31 = .ok (.iaload, 1) := by decide +kernel
theorem dX7_against_32 : decode cX7_against 32 = .ok (.iaload, 1) := by decide +kernel
theorem dX7_against_33 : decode cX7_against 33 = .ok (.if_icmp .lt 7, 3) := by decide +kernel
theorem dX7_against_36 : decode cX7_against 36 = .ok (.iconst 3, 1) := by decide +kernel
theorem dX7_against_37 : decode cX7_against 37 = .ok (.goto 4, 3) := by decide +kernel
theorem dX7_against_40 : decode cX7_against 40 = .ok (.iconst 0, 1) := by decide +kernel
theorem dX7_against_41 : decode cX7_against 41 = .ok (.ireturn, 1) := by decide +kernel
theorem dX7_reads_0 : decode cX7_reads 0 = .ok (.aload_n 0, 1) := by decide +kernel
theorem dX7_reads_1 : decode cX7_reads 1 = .ok (.aload_n 0, 1) := by decide +kernel
theorem dX7_reads_2 : decode cX7_reads 2 = .ok (.getfield 41, 3) := by decide +kernel
theorem dX7_reads_5 : decode cX7_reads 5 = .ok (.iload_n 1, 1) := by decide +kernel
theorem dX7_reads_6 : decode cX7_reads 6 = .ok (.iaload, 1) := by decide +kernel
theorem dX7_reads_7 : decode cX7_reads 7 = .ok (.invokevirtual 292, 3) := by decide +kernel
theorem dX7_reads_10 : decode cX7_reads 10 = .ok (.istore_n 3, 1) := by decide +kernel
theorem dX7_reads_11 : decode cX7_reads 11 = .ok (.aload_n 0, 1) := by decide +kernel
theorem dX7_reads_12 : decode cX7_reads 12 = .ok (.iload_n 3, 1) := by decide +kernel
theorem dX7_reads_13 : decode cX7_reads 13 = .ok (.iload_n 2, 1) := by decide +kernel
theorem dX7_reads_14 : decode cX7_reads 14 = .ok (.aload_n 0, 1) := by decide +kernel
theorem dX7_reads_15 : decode cX7_reads 15 = .ok (.getfield 44, 3) := by decide +kernel
theorem dX7_reads_18 : decode cX7_reads 18 = .ok (.iload_n 1, 1) := by decide +kernel
theorem dX7_reads_19 : decode cX7_reads 19 = .ok (.iaload, 1) := by decide +kernel
theorem dX7_reads_20 : decode cX7_reads 20 = .ok (.invokevirtual 295, 3) := by decide +kernel
theorem dX7_reads_23 : decode cX7_reads 23 = .ok (.istore 4, 2) := by decide +kernel
theorem dX7_reads_25 : decode cX7_reads 25 = .ok (.iload 4, 2) := by decide +kernel
theorem dX7_reads_27 : decode cX7_reads 27 = .ok (.ifCond .le 13, 3) := by decide +kernel
theorem dX7_reads_30 : decode cX7_reads 30 = .ok (.aload_n 0, 1) := by decide +kernel
theorem dX7_reads_31 : decode cX7_reads 31 = .ok (.iload 4, 2) := by decide +kernel
theorem dX7_reads_33 : decode cX7_reads 33 = .ok (.iload_n 1, 1) := by decide +kernel
theorem dX7_reads_34 : decode cX7_reads 34 = .ok (.invokevirtual 283, 3) := by decide +kernel
theorem dX7_reads_37 : decode cX7_reads 37 = .ok (.goto 28, 3) := by decide +kernel
theorem dX7_reads_40 : decode cX7_reads 40 = .ok (.aload_n 0, 1) := by decide +kernel
theorem dX7_reads_41 : decode cX7_reads 41 = .ok (.aload_n 0, 1) := by decide +kernel
theorem dX7_reads_42 : decode cX7_reads 42 = .ok (.getfield 38, 3) := by decide +kernel
theorem dX7_reads_45 : decode cX7_reads 45 = .ok (.iload_n 1, 1) := by decide +kernel
theorem dX7_reads_46 : decode cX7_reads 46 = .ok (.iaload, 1) := by decide +kernel
theorem dX7_reads_47 : decode cX7_reads 47 = .ok (.aload_n 0, 1) := by decide +kernel
theorem dX7_reads_48 : decode cX7_reads 48 = .ok (.getfield 84, 3) := by decide +kernel
theorem dX7_reads_51 : decode cX7_reads 51 = .ok (.iconst 5, 1) := by decide +kernel
theorem dX7_reads_52 : decode cX7_reads 52 = .ok (.iload_n 3, 1) := by decide +kernel
theorem dX7_reads_53 : decode cX7_reads 53 = .ok (.imul, 1) := by decide +kernel
theorem dX7_reads_54 : decode cX7_reads 54 = .ok (.aload_n 0, 1) := by decide +kernel
theorem dX7_reads_55 : decode cX7_reads 55 = .ok (.getfield 44, 3) := by decide +kernel
theorem dX7_reads_58 : decode cX7_reads 58 = .ok (.iload_n 1, 1) := by decide +kernel
theorem dX7_reads_59 : decode cX7_reads 59 = .ok (.iaload, 1) := by decide +kernel
theorem dX7_reads_60 : decode cX7_reads 60 = .ok (.iadd, 1) := by decide +kernel
theorem dX7_reads_61 : decode cX7_reads 61 = .ok (.iaload, 1) := by decide +kernel
theorem dX7_reads_62 : decode cX7_reads 62 = .ok (.invokevirtual 277, 3) := by decide +kernel
theorem dX7_reads_65 : decode cX7_reads 65 = .ok (.return_, 1) := by decide +kernel
theorem dX7_writes_0 : decode cX7_writes 0 = .ok (.aload_n 0, 1) := by decide +kernel
theorem dX7_writes_1 : decode cX7_writes 1 = .ok (.aload_n 0, 1) := by decide +kernel
theorem dX7_writes_2 : decode cX7_writes 2 = .ok (.getfield 38, 3) := by decide +kernel
theorem dX7_writes_5 : decode cX7_writes 5 = .ok (.iload_n 1, 1) := by decide +kernel
theorem dX7_writes_6 : decode cX7_writes 6 = .ok (.iaload, 1) := by decide +kernel
theorem dX7_writes_7 : decode cX7_writes 7 = .ok (.invokevirtual 292, 3) := by decide +kernel
theorem dX7_writes_10 : decode cX7_writes 10 = .ok (.istore_n 3, 1) := by decide +kernel
theorem dX7_writes_11 : decode cX7_writes 11 = .ok (.aload_n 0, 1) := by decide +kernel
theorem dX7_writes_12 : decode cX7_writes 12 = .ok (.aload_n 0, 1) := by decide +kernel
theorem dX7_writes_13 : decode cX7_writes 13 = .ok (.getfield 41, 3) := by decide +kernel
theorem dX7_writes_16 : decode cX7_writes 16 = .ok (.iload_n 1, 1) := by decide +kernel
theorem dX7_writes_17 : decode cX7_writes 17 = .ok (.iaload, 1) := by decide +kernel
theorem dX7_writes_18 : decode cX7_writes 18 = .ok (.invokevirtual 292, 3) := by decide +kernel
theorem dX7_writes_21 : decode cX7_writes 21 = .ok (.istore 4, 2) := by decide +kernel
theorem dX7_writes_23 : decode cX7_writes 23 = .ok (.aload_n 0, 1) := by decide +kernel
theorem dX7_writes_24 : decode cX7_writes 24 = .ok (.iload_n 3, 1) := by decide +kernel
theorem dX7_writes_25 : decode cX7_writes 25 = .ok (.iload_n 2, 1) := by decide +kernel
theorem dX7_writes_26 : decode cX7_writes 26 = .ok (.aload_n 0, 1) := by decide +kernel
theorem dX7_writes_27 : decode cX7_writes 27 = .ok (.getfield 44, 3) := by decide +kernel
theorem dX7_writes_30 : decode cX7_writes 30 = .ok (.iload_n 1, 1) := by decide +kernel
theorem dX7_writes_31 : decode cX7_writes 31 = .ok (.iaload, 1) := by decide +kernel
theorem dX7_writes_32 : decode cX7_writes 32 = .ok (.invokevirtual 295, 3) := by decide +kernel
theorem dX7_writes_35 : decode cX7_writes 35 = .ok (.istore 5, 2) := by decide +kernel
theorem dX7_writes_37 : decode cX7_writes 37 = .ok (.iload 5, 2) := by decide +kernel
theorem dX7_writes_39 : decode cX7_writes 39 = .ok (.ifCond .ne 35, 3) := by decide +kernel
theorem dX7_writes_42 : decode cX7_writes 42 = .ok (.iload_n 2, 1) := by decide +kernel
theorem dX7_writes_43 : decode cX7_writes 43 = .ok (.ifCond .eq 31, 3) := by decide +kernel
theorem dX7_writes_46 : decode cX7_writes 46 = .ok (.iload 4, 2) := by decide +kernel
theorem dX7_writes_48 : decode cX7_writes 48 = .ok (.ifCond .lt 26, 3) := by decide +kernel
theorem dX7_writes_51 : decode cX7_writes 51 = .ok (.aload_n 0, 1) := by decide +kernel
theorem dX7_writes_52 : decode cX7_writes 52 = .ok (.iload 4, 2) := by decide +kernel
theorem dX7_writes_54 : decode cX7_writes 54 = .ok (.aload_n 0, 1) := by decide +kernel
theorem dX7_writes_55 : decode cX7_writes 55 = .ok (.getfield 41, 3) := by decide +kernel
theorem dX7_writes_58 : decode cX7_writes 58 = .ok (.aload_n 0, 1) := by decide +kernel
theorem dX7_writes_59 : decode cX7_writes 59 = .ok (.getfield 75, 3) := by decide +kernel
theorem dX7_writes_62 : decode cX7_writes 62 = .ok (.iload_n 3, 1) := by decide +kernel
theorem dX7_writes_63 : decode cX7_writes 63 = .ok (.iaload, 1) := by decide +kernel
theorem dX7_writes_64 : decode cX7_writes 64 = .ok (.iaload, 1) := by decide +kernel
theorem dX7_writes_65 : decode cX7_writes 65 = .ok (.invokevirtual 280, 3) := by decide +kernel
theorem dX7_writes_68 : decode cX7_writes 68 = .ok (.ifCond .ne 6, 3) := by decide +kernel
theorem dX7_writes_71 : decode cX7_writes 71 = .ok (.iconst 4, 1) := by decide +kernel
theorem dX7_writes_72 : decode cX7_writes 72 = .ok (.istore 5, 2) := by decide +kernel
theorem dX7_writes_74 : decode cX7_writes 74 = .ok (.iload 5, 2) := by decide +kernel
theorem dX7_writes_76 : decode cX7_writes 76 = .ok (.ifCond .le 11, 3) := by decide +kernel
theorem dX7_writes_79 : decode cX7_writes 79 = .ok (.aload_n 0, 1) := by decide +kernel
theorem dX7_writes_80 : decode cX7_writes 80 = .ok (.iload 5, 2) := by decide +kernel
theorem dX7_writes_82 : decode cX7_writes 82 = .ok (.iload_n 1, 1) := by decide +kernel
theorem dX7_writes_83 : decode cX7_writes 83 = .ok (.invokevirtual 283, 3) := by decide +kernel
theorem dX7_writes_86 : decode cX7_writes 86 = .ok (.return_, 1) := by decide +kernel
theorem dX7_writes_87 : decode cX7_writes 87 = .ok (.aload_n 0, 1) := by decide +kernel
theorem dX7_writes_88 : decode cX7_writes 88 = .ok (.getfield 84, 3) := by decide +kernel
theorem dX7_writes_91 : decode cX7_writes 91 = .ok (.iconst 5, 1) := by decide +kernel
theorem dX7_writes_92 : decode cX7_writes 92 = .ok (.iload_n 3, 1) := by decide +kernel
theorem dX7_writes_93 : decode cX7_writes 93 = .ok (.imul, 1) := by decide +kernel
theorem dX7_writes_94 : decode cX7_writes 94 = .ok (.aload_n 0, 1) := by decide +kernel
theorem dX7_writes_95 : decode cX7_writes 95 = .ok (.getfield 44, 3) := by decide +kernel
theorem dX7_writes_98 : decode cX7_writes 98 = .ok (.iload_n 1, 1) := by decide +kernel
theorem dX7_writes_99 : decode cX7_writes 99 = .ok (.iaload, 1) := by decide +kernel
theorem dX7_writes_100 : decode cX7_writes 100 = .ok (.iadd, 1) := by decide +kernel
theorem dX7_writes_101 : decode cX7_writes 101 = .ok (.iload 4, 2) := by decide +kernel
theorem dX7_writes_103 : decode cX7_writes 103 = .ok (.iastore, 1) := by decide +kernel
theorem dX7_writes_104 : decode cX7_writes 104 = .ok (.aload_n 0, 1) := by decide +kernel
theorem dX7_writes_105 : decode cX7_writes 105 = .ok (.getfield 78, 3) := by decide +kernel
theorem dX7_writes_108 : decode cX7_writes 108 = .ok (.iload_n 3, 1) := by decide +kernel
theorem dX7_writes_109 : decode cX7_writes 109 = .ok (.iaload, 1) := by decide +kernel
theorem dX7_writes_110 : decode cX7_writes 110 = .ok (.istore 6, 2) := by decide +kernel
theorem dX7_writes_112 : decode cX7_writes 112 = .ok (.aload_n 0, 1) := by decide +kernel
theorem dX7_writes_113 : decode cX7_writes 113 = .ok (.iload 4, 2) := by decide +kernel
theorem dX7_writes_115 : decode cX7_writes 115 = .ok (.iload 6, 2) := by decide +kernel
theorem dX7_writes_117 : decode cX7_writes 117 = .ok (.aload_n 0, 1) := by decide +kernel
theorem dX7_writes_118 : decode cX7_writes 118 = .ok (.getfield 167, 3) := by decide +kernel
theorem dX7_writes_121 : decode cX7_writes 121 = .ok (.if_icmp .ge 30, 3) := by decide +kernel
theorem dX7_writes_124 : decode cX7_writes 124 = .ok (.aload_n 0, 1) := by decide +kernel
theorem dX7_writes_125 : decode cX7_writes 125 = .ok (.getfield 69, 3) := by decide +kernel
theorem dX7_writes_128 : decode cX7_writes 128 = .ok (.iconst 5, 1) := by decide +kernel
theorem dX7_writes_129 : decode cX7_writes 129 = .ok (.iload 6, 2) := by decide +kernel
theorem dX7_writes_131 : decode cX7_writes 131 = .ok (.imul, 1) := by decide +kernel
theorem dX7_writes_132 : decode cX7_writes 132 = .ok (.iload_n 2, 1) := by decide +kernel
theorem dX7_writes_133 : decode cX7_writes 133 = .ok (.ifCond .eq 7, 3) := by decide +kernel
theorem dX7_writes_136 : decode cX7_writes 136 = .ok (.iconst 4, 1) := by decide +kernel
theorem dX7_writes_137 : decode cX7_writes 137 = .ok (.goto 9, 3) := by decide +kernel
theorem dX7_writes_140 : decode cX7_writes 140 = .ok (.aload_n 0, 1) := by decide +kernel
theorem dX7_writes_141 : decode cX7_writes 141 = .ok (.getfield 44, 3) := by decide +kernel
theorem dX7_writes_144 : decode cX7_writes 144 = .ok (.iload_n 1, 1) := by decide +kernel
theorem dX7_writes_145 : decode cX7_writes 145 = .ok (.iaload, 1) := by decide +kernel
theorem dX7_writes_146 : decode cX7_writes 146 = .ok (.iadd, 1) := by decide +kernel
theorem dX7_writes_147 : decode cX7_writes 147 = .ok (.laload, 1) := by decide +kernel
theorem dX7_writes_148 : decode cX7_writes 148 = .ok (.goto 4, 3) := by decide +kernel
theorem dX7_writes_151 : decode cX7_writes 151 = .ok (.lconst 0, 1) := by decide +kernel
theorem dX7_writes_152 : decode cX7_writes 152 = .ok (.invokevirtual 267, 3) := by decide +kernel
theorem dX7_writes_155 : decode cX7_writes 155 = .ok (.return_, 1) := by decide +kernel
theorem dX7_asks_0 : decode cX7_asks 0 = .ok (.aload_n 0, 1) := by decide +kernel
theorem dX7_asks_1 : decode cX7_asks 1 = .ok (.aload_n 0, 1) := by decide +kernel
theorem dX7_asks_2 : decode cX7_asks 2 = .ok (.getfield 41, 3) := by decide +kernel
theorem dX7_asks_5 : decode cX7_asks 5 = .ok (.iload_n 1, 1) := by decide +kernel
theorem dX7_asks_6 : decode cX7_asks 6 = .ok (.iaload, 1) := by decide +kernel
theorem dX7_asks_7 : decode cX7_asks 7 = .ok (.invokevirtual 292, 3) := by decide +kernel
theorem dX7_asks_10 : decode cX7_asks 10 = .ok (.istore_n 2, 1) := by decide +kernel
theorem dX7_asks_11 : decode cX7_asks 11 = .ok (.aload_n 0, 1) := by decide +kernel
theorem dX7_asks_12 : decode cX7_asks 12 = .ok (.aload_n 0, 1) := by decide +kernel
theorem dX7_asks_13 : decode cX7_asks 13 = .ok (.getfield 47, 3) := by decide +kernel
theorem dX7_asks_16 : decode cX7_asks 16 = .ok (.iload_n 1, 1) := by decide +kernel
theorem dX7_asks_17 : decode cX7_asks 17 = .ok (.iaload, 1) := by decide +kernel
theorem dX7_asks_18 : decode cX7_asks 18 = .ok (.invokevirtual 292, 3) := by decide +kernel
theorem dX7_asks_21 : decode cX7_asks 21 = .ok (.istore_n 3, 1) := by decide +kernel
theorem dX7_asks_22 : decode cX7_asks 22 = .ok (.iload_n 2, 1) := by decide +kernel
theorem dX7_asks_23 : decode cX7_asks 23 = .ok (.ifCond .ge 10, 3) := by decide +kernel
theorem dX7_asks_26 : decode cX7_asks 26 = .ok (.aload_n 0, 1) := by decide +kernel
theorem dX7_asks_27 : decode cX7_asks 27 = .ok (.iconst 1, 1) := by decide +kernel
theorem dX7_asks_28 : decode cX7_asks 28 = .ok (.iload_n 1, 1) := by decide +kernel
theorem dX7_asks_29 : decode cX7_asks 29 = .ok (.invokevirtual 283, 3) := by decide +kernel
theorem dX7_asks_32 : decode cX7_asks 32 = .ok (.return_, 1) := by decide +kernel
theorem dX7_asks_33 : decode cX7_asks 33 = .ok (.aload_n 0, 1) := by decide +kernel
theorem dX7_asks_34 : decode cX7_asks 34 = .ok (.aload_n 0, 1) := by decide +kernel
theorem dX7_asks_35 : decode cX7_asks 35 = .ok (.getfield 99, 3) := by decide +kernel
theorem dX7_asks_38 : decode cX7_asks 38 = .ok (.iload_n 2, 1) := by decide +kernel
theorem dX7_asks_39 : decode cX7_asks 39 = .ok (.iaload, 1) := by decide +kernel
theorem dX7_asks_40 : decode cX7_asks 40 = .ok (.aload_n 0, 1) := by decide +kernel
theorem dX7_asks_41 : decode cX7_asks 41 = .ok (.getfield 44, 3) := by decide +kernel
theorem dX7_asks_44 : decode cX7_asks 44 = .ok (.iload_n 1, 1) := by decide +kernel
theorem dX7_asks_45 : decode cX7_asks 45 = .ok (.iaload, 1) := by decide +kernel
theorem dX7_asks_46 : decode cX7_asks 46 = .ok (.invokevirtual 206, 3) := by decide +kernel
theorem dX7_asks_49 : decode cX7_asks 49 = .ok (.istore 4, 2) := by decide +kernel
theorem dX7_asks_51 : decode cX7_asks 51 = .ok (.iload 4, 2) := by decide +kernel
theorem dX7_asks_53 : decode cX7_asks 53 = .ok (.ifCond .ge 11, 3) := by decide +kernel
theorem dX7_asks_56 : decode cX7_asks 56 = .ok (.aload_n 0, 1) := by decide +kernel
theorem dX7_asks_57 : decode cX7_asks 57 = .ok (.bipush 6, 2) := by decide +kernel
theorem dX7_asks_59 : decode cX7_asks 59 = .ok (.iload_n 1, 1) := by decide +kernel
theorem dX7_asks_60 : decode cX7_asks 60 = .ok (.invokevirtual 283, 3) := by decide +kernel
theorem dX7_asks_63 : decode cX7_asks 63 = .ok (.return_, 1) := by decide +kernel
theorem dX7_asks_64 : decode cX7_asks 64 = .ok (.aload_n 0, 1) := by decide +kernel
theorem dX7_asks_65 : decode cX7_asks 65 = .ok (.aload_n 0, 1) := by decide +kernel
theorem dX7_asks_66 : decode cX7_asks 66 = .ok (.getfield 90, 3) := by decide +kernel
theorem dX7_asks_69 : decode cX7_asks 69 = .ok (.aload_n 0, 1) := by decide +kernel
theorem dX7_asks_70 : decode cX7_asks 70 = .ok (.getfield 264, 3) := by decide +kernel
theorem dX7_asks_73 : decode cX7_asks 73 = .ok (.iconst 1, 1) := by decide +kernel
theorem dX7_asks_74 : decode cX7_asks 74 = .ok (.isub, 1) := by decide +kernel
theorem dX7_asks_75 : decode cX7_asks 75 = .ok (.iaload, 1) := by decide +kernel
theorem dX7_asks_76 : decode cX7_asks 76 = .ok (.iload_n 1, 1) := by decide +kernel
theorem dX7_asks_77 : decode cX7_asks 77 = .ok (.aload_n 0, 1) := by decide +kernel
theorem dX7_asks_78 : decode cX7_asks 78 = .ok (.getfield 78, 3) := by decide +kernel
theorem dX7_asks_81 : decode cX7_asks 81 = .ok (.iload_n 2, 1) := by decide +kernel
theorem dX7_asks_82 : decode cX7_asks 82 = .ok (.iaload, 1) := by decide +kernel
theorem dX7_asks_83 : decode cX7_asks 83 = .ok (.invokevirtual 209, 3) := by decide +kernel
theorem dX7_asks_86 : decode cX7_asks 86 = .ok (.aload_n 0, 1) := by decide +kernel
theorem dX7_asks_87 : decode cX7_asks 87 = .ok (.aload_n 0, 1) := by decide +kernel
theorem dX7_asks_88 : decode cX7_asks 88 = .ok (.iload 4, 2) := by decide +kernel
theorem dX7_asks_90 : decode cX7_asks 90 = .ok (.invokevirtual 157, 3) := by decide +kernel
theorem dX7_asks_93 : decode cX7_asks 93 = .ok (.invokevirtual 299, 3) := by decide +kernel
theorem dX7_asks_96 : decode cX7_asks 96 = .ok (.ifCond .ne 11, 3) := by decide +kernel
theorem dX7_asks_99 : decode cX7_asks 99 = .ok (.aload_n 0, 1) := by decide +kernel
theorem dX7_asks_100 : decode cX7_asks 100 = .ok (.bipush 8, 2) := by decide +kernel
theorem dX7_asks_102 : decode cX7_asks 102 = .ok (.iload_n 1, 1) := by decide +kernel
theorem dX7_asks_103 : decode cX7_asks 103 = .ok (.invokevirtual 283, 3) := by decide +kernel
theorem dX7_asks_106 : decode cX7_asks 106 = .ok (.return_, 1) := by decide +kernel
theorem dX7_asks_107 : decode cX7_asks 107 = .ok (.aload_n 0, 1) := by decide +kernel
theorem dX7_asks_108 : decode cX7_asks 108 = .ok (.iconst 0, 1) := by decide +kernel
theorem dX7_asks_109 : decode cX7_asks 109 = .ok (.iload_n 2, 1) := by decide +kernel
theorem dX7_asks_110 : decode cX7_asks 110 = .ok (.invokevirtual 277, 3) := by decide +kernel
theorem dX7_asks_113 : decode cX7_asks 113 = .ok (.aload_n 0, 1) := by decide +kernel
theorem dX7_asks_114 : decode cX7_asks 114 = .ok (.iconst 1, 1) := by decide +kernel
theorem dX7_asks_115 : decode cX7_asks 115 = .ok (.iload_n 3, 1) := by decide +kernel
theorem dX7_asks_116 : decode cX7_asks 116 = .ok (.invokevirtual 277, 3) := by decide +kernel
theorem dX7_asks_119 : decode cX7_asks 119 = .ok (.return_, 1) := by decide +kernel
theorem dX7_calls_0 : decode cX7_calls 0 = .ok (.aload_n 0, 1) := by decide +kernel
theorem dX7_calls_1 : decode cX7_calls 1 = .ok (.aload_n 0, 1) := by decide +kernel
theorem dX7_calls_2 : decode cX7_calls 2 = .ok (.getfield 47, 3) := by decide +kernel
theorem dX7_calls_5 : decode cX7_calls 5 = .ok (.iload_n 1, 1) := by decide +kernel
theorem dX7_calls_6 : decode cX7_calls 6 = .ok (.iaload, 1) := by decide +kernel
theorem dX7_calls_7 : decode cX7_calls 7 = .ok (.invokevirtual 292, 3) := by decide +kernel
theorem dX7_calls_10 : decode cX7_calls 10 = .ok (.istore_n 2, 1) := by decide +kernel
theorem dX7_calls_11 : decode cX7_calls 11 = .ok (.aload_n 0, 1) := by decide +kernel
theorem dX7_calls_12 : decode cX7_calls 12 = .ok (.aload_n 0, 1) := by decide +kernel
theorem dX7_calls_13 : decode cX7_calls 13 = .ok (.getfield 90, 3) := by decide +kernel
theorem dX7_calls_16 : decode cX7_calls 16 = .ok (.aload_n 0, 1) := by decide +kernel
theorem dX7_calls_17 : decode cX7_calls 17 = .ok (.getfield 264, 3) := by decide +kernel
theorem dX7_calls_20 : decode cX7_calls 20 = .ok (.iconst 1, 1) := by decide +kernel
theorem dX7_calls_21 : decode cX7_calls 21 = .ok (.isub, 1) := by decide +kernel
theorem dX7_calls_22 : decode cX7_calls 22 = .ok (.iaload, 1) := by decide +kernel
theorem dX7_calls_23 : decode cX7_calls 23 = .ok (.iload_n 1, 1) := by decide +kernel
theorem dX7_calls_24 : decode cX7_calls 24 = .ok (.iconst (-1), 1) := by decide +kernel
theorem dX7_calls_25 : decode cX7_calls 25 = .ok (.invokevirtual 209, 3) := by decide +kernel
theorem dX7_calls_28 : decode cX7_calls 28 = .ok (.aload_n 0, 1) := by decide +kernel
theorem dX7_calls_29 : decode cX7_calls 29 = .ok (.aload_n 0, 1) := by decide +kernel
theorem dX7_calls_30 : decode cX7_calls 30 = .ok (.aload_n 0, 1) := by decide +kernel
theorem dX7_calls_31 : decode cX7_calls 31 = .ok (.getfield 44, 3) := by decide +kernel
theorem dX7_calls_34 : decode cX7_calls 34 = .ok (.iload_n 1, 1) := by decide +kernel
theorem dX7_calls_35 : decode cX7_calls 35 = .ok (.iaload, 1) := by decide +kernel
theorem dX7_calls_36 : decode cX7_calls 36 = .ok (.invokevirtual 157, 3) := by decide +kernel
theorem dX7_calls_39 : decode cX7_calls 39 = .ok (.invokevirtual 299, 3) := by decide +kernel
theorem dX7_calls_42 : decode cX7_calls 42 = .ok (.ifCond .eq 12, 3) := by decide +kernel
theorem dX7_calls_45 : decode cX7_calls 45 = .ok (.aload_n 0, 1) := by decide +kernel
theorem dX7_calls_46 : decode cX7_calls 46 = .ok (.iconst 1, 1) := by decide +kernel
theorem dX7_calls_47 : decode cX7_calls 47 = .ok (.iload_n 2, 1) := by decide +kernel
theorem dX7_calls_48 : decode cX7_calls 48 = .ok (.invokevirtual 277, 3) := by decide +kernel
theorem dX7_calls_51 : decode cX7_calls 51 = .ok (.goto 10, 3) := by decide +kernel
theorem dX7_calls_54 : decode cX7_calls 54 = .ok (.aload_n 0, 1) := by decide +kernel
theorem dX7_calls_55 : decode cX7_calls 55 = .ok (.bipush 8, 2) := by decide +kernel
theorem dX7_calls_57 : decode cX7_calls 57 = .ok (.iload_n 1, 1) := by decide +kernel
theorem dX7_calls_58 : decode cX7_calls 58 = .ok (.invokevirtual 283, 3) := by decide +kernel
theorem dX7_calls_61 : decode cX7_calls 61 = .ok (.return_, 1) := by decide +kernel
theorem dX7_does_0 : decode cX7_does 0 = .ok (.aload_n 0, 1) := by decide +kernel
theorem dX7_does_1 : decode cX7_does 1 = .ok (.getfield 38, 3) := by decide +kernel
theorem dX7_does_4 : decode cX7_does 4 = .ok (.iload_n 1, 1) := by decide +kernel
theorem dX7_does_5 : decode cX7_does 5 = .ok (.iaload, 1) := by decide +kernel
theorem dX7_does_6 : decode cX7_does 6 = .ok (.istore 4, 2) := by decide +kernel
theorem dX7_does_8 : decode cX7_does 8 = .ok (.aload_n 0, 1) := by decide +kernel
theorem dX7_does_9 : decode cX7_does 9 = .ok (.getfield 35, 3) := by decide +kernel
theorem dX7_does_12 : decode cX7_does 12 = .ok (.iload_n 1, 1) := by decide +kernel
theorem dX7_does_13 : decode cX7_does 13 = .ok (.iaload, 1) := by decide +kernel
theorem dX7_does_14 : decode cX7_does 14 = .ok (.tableswitch 410 0 15 #[78, 78, 88, 107, 117, 141, 117, 141, 165, 217, 225, 233, 246, 317, 358, 378], 78) := by decide +kernel
theorem dX7_does_92 : decode cX7_does 92 = .ok (.aload_n 0, 1) := by decide +kernel
theorem dX7_does_93 : decode cX7_does 93 = .ok (.iload 4, 2) := by decide +kernel
theorem dX7_does_95 : decode cX7_does 95 = .ok (.iload_n 1, 1) := by decide +kernel
theorem dX7_does_96 : decode cX7_does 96 = .ok (.invokevirtual 302, 3) := by decide +kernel
theorem dX7_does_99 : decode cX7_does 99 = .ok (.goto 325, 3) := by decide +kernel
theorem dX7_does_102 : decode cX7_does 102 = .ok (.aload_n 0, 1) := by decide +kernel
theorem dX7_does_103 : decode cX7_does 103 = .ok (.iload 4, 2) := by decide +kernel
theorem dX7_does_105 : decode cX7_does 105 = .ok (.aload_n 0, 1) := by decide +kernel
theorem dX7_does_106 : decode cX7_does 106 = .ok (.aload_n 0, 1) := by decide +kernel
theorem dX7_does_107 : decode cX7_does 107 = .ok (.getfield 41, 3) := by decide +kernel
theorem dX7_does_110 : decode cX7_does 110 = .ok (.iload_n 1, 1) := by decide +kernel
theorem dX7_does_111 : decode cX7_does 111 = .ok (.iaload, 1) := by decide +kernel
theorem dX7_does_112 : decode cX7_does 112 = .ok (.invokevirtual 292, 3) := by decide +kernel
theorem dX7_does_115 : decode cX7_does 115 = .ok (.invokevirtual 277, 3) := by decide +kernel
theorem dX7_does_118 : decode cX7_does 118 = .ok (.goto 306, 3) := by decide +kernel
theorem dX7_does_121 : decode cX7_does 121 = .ok (.aload_n 0, 1) := by decide +kernel
theorem dX7_does_122 : decode cX7_does 122 = .ok (.iload 4, 2) := by decide +kernel
theorem dX7_does_124 : decode cX7_does 124 = .ok (.iconst (-1), 1) := by decide +kernel
theorem dX7_does_125 : decode cX7_does 125 = .ok (.invokevirtual 277, 3) := by decide +kernel
theorem dX7_does_128 : decode cX7_does 128 = .ok (.goto 296, 3) := by decide +kernel
theorem dX7_does_131 : decode cX7_does 131 = .ok (.aload_n 0, 1) := by decide +kernel
theorem dX7_does_132 : decode cX7_does 132 = .ok (.iload_n 1, 1) := by decide +kernel
theorem dX7_does_133 : decode cX7_does 133 = .ok (.aload_n 0, 1) := by decide +kernel
theorem dX7_does_134 : decode cX7_does 134 = .ok (.getfield 35, 3) := by decide +kernel
theorem dX7_does_137 : decode cX7_does 137 = .ok (.iload_n 1, 1) := by decide +kernel
theorem dX7_does_138 : decode cX7_does 138 = .ok (.iaload, 1) := by decide +kernel
theorem dX7_does_139 : decode cX7_does 139 = .ok (.bipush 6, 2) := by decide +kernel
theorem dX7_does_141 : decode cX7_does 141 = .ok (.if_icmp .ne 7, 3) := by decide +kernel
theorem dX7_does_144 : decode cX7_does 144 = .ok (.iconst 1, 1) := by decide +kernel
theorem dX7_does_145 : decode cX7_does 145 = .ok (.goto 4, 3) := by decide +kernel
theorem dX7_does_148 : decode cX7_does 148 = .ok (.iconst 0, 1) := by decide +kernel
theorem dX7_does_149 : decode cX7_does 149 = .ok (.invokevirtual 304, 3) := by decide +kernel
theorem dX7_does_152 : decode cX7_does 152 = .ok (.goto 272, 3) := by decide +kernel
theorem dX7_does_155 : decode cX7_does 155 = .ok (.aload_n 0, 1) := by decide +kernel
theorem dX7_does_156 : decode cX7_does 156 = .ok (.iload_n 1, 1) := by decide +kernel
theorem dX7_does_157 : decode cX7_does 157 = .ok (.aload_n 0, 1) := by decide +kernel
theorem dX7_does_158 : decode cX7_does 158 = .ok (.getfield 35, 3) := by decide +kernel
theorem dX7_does_161 : decode cX7_does 161 = .ok (.iload_n 1, 1) := by decide +kernel
theorem dX7_does_162 : decode cX7_does 162 = .ok (.iaload, 1) := by decide +kernel
theorem dX7_does_163 : decode cX7_does 163 = .ok (.bipush 7, 2) := by decide +kernel
theorem dX7_does_165 : decode cX7_does 165 = .ok (.if_icmp .ne 7, 3) := by decide +kernel
theorem dX7_does_168 : decode cX7_does 168 = .ok (.iconst 1, 1) := by decide +kernel
theorem dX7_does_169 : decode cX7_does 169 = .ok (.goto 4, 3) := by decide +kernel
theorem dX7_does_172 : decode cX7_does 172 = .ok (.iconst 0, 1) := by decide +kernel
theorem dX7_does_173 : decode cX7_does 173 = .ok (.invokevirtual 308, 3) := by decide +kernel
theorem dX7_does_176 : decode cX7_does 176 = .ok (.goto 248, 3) := by decide +kernel
theorem dX7_does_179 : decode cX7_does 179 = .ok (.aload_n 0, 1) := by decide +kernel
theorem dX7_does_180 : decode cX7_does 180 = .ok (.aload_n 0, 1) := by decide +kernel
theorem dX7_does_181 : decode cX7_does 181 = .ok (.getfield 41, 3) := by decide +kernel
theorem dX7_does_184 : decode cX7_does 184 = .ok (.iload_n 1, 1) := by decide +kernel
theorem dX7_does_185 : decode cX7_does 185 = .ok (.iaload, 1) := by decide +kernel
theorem dX7_does_186 : decode cX7_does 186 = .ok (.invokevirtual 292, 3) := by decide +kernel
theorem dX7_does_189 : decode cX7_does 189 = .ok (.istore 5, 2) := by decide +kernel
theorem dX7_does_191 : decode cX7_does 191 = .ok (.iload 5, 2) := by decide +kernel
theorem dX7_does_193 : decode cX7_does 193 = .ok (.ifCond .lt 27, 3) := by decide +kernel
theorem dX7_does_196 : decode cX7_does 196 = .ok (.aload_n 0, 1) := by decide +kernel
theorem dX7_does_197 : decode cX7_does 197 = .ok (.iload 5, 2) := by decide +kernel
theorem dX7_does_199 : decode cX7_does 199 = .ok (.aload_n 0, 1) := by decide +kernel
theorem dX7_does_200 : decode cX7_does 200 = .ok (.getfield 44, 3) := by decide +kernel
theorem dX7_does_203 : decode cX7_does 203 = .ok (.iload_n 1, 1) := by decide +kernel
theorem dX7_does_204 : decode cX7_does 204 = .ok (.iaload, 1) := by decide +kernel
theorem dX7_does_205 : decode cX7_does 205 = .ok (.invokevirtual 280, 3) := by decide +kernel
theorem dX7_does_208 : decode cX7_does 208 = .ok (.ifCond .ne 12, 3) := by decide +kernel
theorem dX7_does_211 : decode cX7_does 211 = .ok (.aload_n 0, 1) := by decide +kernel
theorem dX7_does_212 : decode cX7_does 212 = .ok (.iconst 5, 1) := by decide +kernel
theorem dX7_does_213 : decode cX7_does 213 = .ok (.iload_n 1, 1) := by decide +kernel
theorem dX7_does_214 : decode cX7_does 214 = .ok (.invokevirtual 283, 3) := by decide +kernel
theorem dX7_does_217 : decode cX7_does 217 = .ok (.goto 207, 3) := by decide +kernel
theorem dX7_does_220 : decode cX7_does 220 = .ok (.aload_n 0, 1) := by decide +kernel
theorem dX7_does_221 : decode cX7_does 221 = .ok (.iload 4, 2) := by decide +kernel
theorem dX7_does_223 : decode cX7_does 223 = .ok (.iload 5, 2) := by decide +kernel
theorem dX7_does_225 : decode cX7_does 225 = .ok (.invokevirtual 277, 3) := by decide +kernel
theorem dX7_does_228 : decode cX7_does 228 = .ok (.goto 196, 3) := by decide +kernel
theorem dX7_does_231 : decode cX7_does 231 = .ok (.aload_n 0, 1) := by decide +kernel
theorem dX7_does_232 : decode cX7_does 232 = .ok (.iload_n 1, 1) := by decide +kernel
theorem dX7_does_233 : decode cX7_does 233 = .ok (.invokevirtual 311, 3) := by decide +kernel
theorem dX7_does_236 : decode cX7_does 236 = .ok (.goto 188, 3) := by decide +kernel
theorem dX7_does_239 : decode cX7_does 239 = .ok (.aload_n 0, 1) := by decide +kernel
theorem dX7_does_240 : decode cX7_does 240 = .ok (.iload_n 1, 1) := by decide +kernel
theorem dX7_does_241 : decode cX7_does 241 = .ok (.invokevirtual 315, 3) := by decide +kernel
theorem dX7_does_244 : decode cX7_does 244 = .ok (.goto 180, 3) := by decide +kernel
theorem dX7_does_247 : decode cX7_does 247 = .ok (.aload_n 0, 1) := by decide +kernel
theorem dX7_does_248 : decode cX7_does 248 = .ok (.aload_n 0, 1) := by decide +kernel
theorem dX7_does_249 : decode cX7_does 249 = .ok (.iload 4, 2) := by decide +kernel
theorem dX7_does_251 : decode cX7_does 251 = .ok (.invokevirtual 292, 3) := by decide +kernel
theorem dX7_does_254 : decode cX7_does 254 = .ok (.invokevirtual 318, 3) := by decide +kernel
theorem dX7_does_257 : decode cX7_does 257 = .ok (.goto 167, 3) := by decide +kernel
theorem dX7_does_260 : decode cX7_does 260 = .ok (.aload_n 0, 1) := by decide +kernel
theorem dX7_does_261 : decode cX7_does 261 = .ok (.getfield 321, 3) := by decide +kernel
theorem dX7_does_264 : decode cX7_does 264 = .ok (.bipush 64, 2) := by decide +kernel
theorem dX7_does_266 : decode cX7_does 266 = .ok (.if_icmp .ge 20, 3) := by decide +kernel
theorem dX7_does_269 : decode cX7_does 269 = .ok (.lload_n 2, 1) := by decide +kernel
theorem dX7_does_270 : decode cX7_does 270 = .ok (.aload_n 0, 1) := by decide +kernel
theorem dX7_does_271 : decode cX7_does 271 = .ok (.getfield 321, 3) := by decide +kernel
theorem dX7_does_274 : decode cX7_does 274 = .ok (.lshr, 1) := by decide +kernel
theorem dX7_does_275 : decode cX7_does 275 = .ok (.lconst 1, 1) := by decide +kernel
theorem dX7_does_276 : decode cX7_does 276 = .ok (.land, 1) := by decide +kernel
theorem dX7_does_277 : decode cX7_does 277 = .ok (.lconst 1, 1) := by decide +kernel
theorem dX7_does_278 : decode cX7_does 278 = .ok (.lcmp, 1) := by decide +kernel
theorem dX7_does_279 : decode cX7_does 279 = .ok (.ifCond .ne 7, 3) := by decide +kernel
theorem dX7_does_282 : decode cX7_does 282 = .ok (.iconst 1, 1) := by decide +kernel
theorem dX7_does_283 : decode cX7_does 283 = .ok (.goto 4, 3) := by decide +kernel
theorem dX7_does_286 : decode cX7_does 286 = .ok (.iconst 0, 1) := by decide +kernel
theorem dX7_does_287 : decode cX7_does 287 = .ok (.istore 6, 2) := by decide +kernel
theorem dX7_does_289 : decode cX7_does 289 = .ok (.aload_n 0, 1) := by decide +kernel
theorem dX7_does_290 : decode cX7_does 290 = .ok (.dup, 1) := by decide +kernel
theorem dX7_does_291 : decode cX7_does 291 = .ok (.getfield 321, 3) := by decide +kernel
theorem dX7_does_294 : decode cX7_does 294 = .ok (.iconst 1, 1) := by decide +kernel
theorem dX7_does_295 : decode cX7_does 295 = .ok (.iadd, 1) := by decide +kernel
theorem dX7_does_296 : decode cX7_does 296 = .ok (.putfield 321, 3) := by decide +kernel
theorem dX7_does_299 : decode cX7_does 299 = .ok (.aload_n 0, 1) := by decide +kernel
theorem dX7_does_300 : decode cX7_does 300 = .ok (.getfield 93, 3) := by decide +kernel
theorem dX7_does_303 : decode cX7_does 303 = .ok (.aload_n 0, 1) := by decide +kernel
theorem dX7_does_304 : decode cX7_does 304 = .ok (.getfield 264, 3) := by decide +kernel
theorem dX7_does_307 : decode cX7_does 307 = .ok (.iconst 1, 1) := by decide +kernel
theorem dX7_does_308 : decode cX7_does 308 = .ok (.isub, 1) := by decide +kernel
theorem dX7_does_309 : decode cX7_does 309 = .ok (.dup2, 1) := by decide +kernel
theorem dX7_does_310 : decode cX7_does 310 = .ok (.iaload, 1) := by decide +kernel
theorem dX7_does_311 : decode cX7_does 311 = .ok (.iload 6, 2) := by decide +kernel
theorem dX7_does_313 : decode cX7_does 313 = .ok (.ifCond .eq 12, 3) := by decide +kernel
theorem dX7_does_316 : decode cX7_does 316 = .ok (.aload_n 0, 1) := by decide +kernel
theorem dX7_does_317 : decode cX7_does 317 = .ok (.getfield 41, 3) := by decide +kernel
theorem dX7_does_320 : decode cX7_does 320 = .ok (.iload_n 1, 1) := by decide +kernel
theorem dX7_does_321 : decode cX7_does 321 = .ok (.iaload, 1) := by decide +kernel
theorem dX7_does_322 : decode cX7_does 322 = .ok (.goto 4, 3) := by decide +kernel
theorem dX7_does_325 : decode cX7_does 325 = .ok (.iconst 0, 1) := by decide +kernel
theorem dX7_does_326 : decode cX7_does 326 = .ok (.iadd, 1) := by decide +kernel
theorem dX7_does_327 : decode cX7_does 327 = .ok (.iastore, 1) := by decide +kernel
theorem dX7_does_328 : decode cX7_does 328 = .ok (.goto 96, 3) := by decide +kernel
theorem dX7_does_331 : decode cX7_does 331 = .ok (.aload_n 0, 1) := by decide +kernel
theorem dX7_does_332 : decode cX7_does 332 = .ok (.getfield 87, 3) := by decide +kernel
theorem dX7_does_335 : decode cX7_does 335 = .ok (.aload_n 0, 1) := by decide +kernel
theorem dX7_does_336 : decode cX7_does 336 = .ok (.getfield 44, 3) := by decide +kernel
theorem dX7_does_339 : decode cX7_does 339 = .ok (.iload_n 1, 1) := by decide +kernel
theorem dX7_does_340 : decode cX7_does 340 = .ok (.iaload, 1) := by decide +kernel
theorem dX7_does_341 : decode cX7_does 341 = .ok (.aload_n 0, 1) := by decide +kernel
theorem dX7_does_342 : decode cX7_does 342 = .ok (.iload 4, 2) := by decide +kernel
theorem dX7_does_344 : decode cX7_does 344 = .ok (.invokevirtual 292, 3) := by decide +kernel
theorem dX7_does_347 : decode cX7_does 347 = .ok (.iastore, 1) := by decide +kernel
theorem dX7_does_348 : decode cX7_does 348 = .ok (.aload_n 0, 1) := by decide +kernel
theorem dX7_does_349 : decode cX7_does 349 = .ok (.aload_n 0, 1) := by decide +kernel
theorem dX7_does_350 : decode cX7_does 350 = .ok (.iload 4, 2) := by decide +kernel
theorem dX7_does_352 : decode cX7_does 352 = .ok (.invokevirtual 292, 3) := by decide +kernel
theorem dX7_does_355 : decode cX7_does 355 = .ok (.aload_n 0, 1) := by decide +kernel
theorem dX7_does_356 : decode cX7_does 356 = .ok (.getfield 72, 3) := by decide +kernel
theorem dX7_does_359 : decode cX7_does 359 = .ok (.aload_n 0, 1) := by decide +kernel
theorem dX7_does_360 : decode cX7_does 360 = .ok (.getfield 44, 3) := by decide +kernel
theorem dX7_does_363 : decode cX7_does 363 = .ok (.iload_n 1, 1) := by decide +kernel
theorem dX7_does_364 : decode cX7_does 364 = .ok (.iaload, 1) := by decide +kernel
theorem dX7_does_365 : decode cX7_does 365 = .ok (.laload, 1) := by decide +kernel
theorem dX7_does_366 : decode cX7_does 366 = .ok (.invokevirtual 267, 3) := by decide +kernel
theorem dX7_does_369 : decode cX7_does 369 = .ok (.goto 55, 3) := by decide +kernel
theorem dX7_does_372 : decode cX7_does 372 = .ok (.aload_n 0, 1) := by decide +kernel
theorem dX7_does_373 : decode cX7_does 373 = .ok (.iload 4, 2) := by decide +kernel
theorem dX7_does_375 : decode cX7_does 375 = .ok (.aload_n 0, 1) := by decide +kernel
theorem dX7_does_376 : decode cX7_does 376 = .ok (.getfield 87, 3) := by decide +kernel
theorem dX7_does_379 : decode cX7_does 379 = .ok (.aload_n 0, 1) := by decide +kernel
theorem dX7_does_380 : decode cX7_does 380 = .ok (.getfield 44, 3) := by decide +kernel
theorem dX7_does_383 : decode cX7_does 383 = .ok (.iload_n 1, 1) := by decide +kernel
theorem dX7_does_384 : decode cX7_does 384 = .ok (.iaload, 1) := by decide +kernel
theorem dX7_does_385 : decode cX7_does 385 = .ok (.iaload, 1) := by decide +kernel
theorem dX7_does_386 : decode cX7_does 386 = .ok (.invokevirtual 277, 3) := by decide +kernel
theorem dX7_does_389 : decode cX7_does 389 = .ok (.goto 35, 3) := by decide +kernel
theorem dX7_does_392 : decode cX7_does 392 = .ok (.aload_n 0, 1) := by decide +kernel
theorem dX7_does_393 : decode cX7_does 393 = .ok (.iload 4, 2) := by decide +kernel
theorem dX7_does_395 : decode cX7_does 395 = .ok (.invokevirtual 292, 3) := by decide +kernel
theorem dX7_does_398 : decode cX7_does 398 = .ok (.ifCond .ge 12, 3) := by decide +kernel
theorem dX7_does_401 : decode cX7_does 401 = .ok (.aload_n 0, 1) := by decide +kernel
theorem dX7_does_402 : decode cX7_does 402 = .ok (.iconst 1, 1) := by decide +kernel
theorem dX7_does_403 : decode cX7_does 403 = .ok (.iload_n 1, 1) := by decide +kernel
theorem dX7_does_404 : decode cX7_does 404 = .ok (.invokevirtual 283, 3) := by decide +kernel
theorem dX7_does_407 : decode cX7_does 407 = .ok (.goto 17, 3) := by decide +kernel
theorem dX7_does_410 : decode cX7_does 410 = .ok (.aload_n 0, 1) := by decide +kernel
theorem dX7_does_411 : decode cX7_does 411 = .ok (.aload_n 0, 1) := by decide +kernel
theorem dX7_does_412 : decode cX7_does 412 = .ok (.iload 4, 2) := by decide +kernel
theorem dX7_does_414 : decode cX7_does 414 = .ok (.invokevirtual 292, 3) := by decide +kernel
theorem dX7_does_417 : decode cX7_does 417 = .ok (.iload_n 1, 1) := by decide +kernel
theorem dX7_does_418 : decode cX7_does 418 = .ok (.invokevirtual 324, 3) := by decide +kernel
theorem dX7_does_421 : decode cX7_does 421 = .ok (.goto 3, 3) := by decide +kernel
theorem dX7_does_424 : decode cX7_does 424 = .ok (.return_, 1) := by decide +kernel
theorem dX7_run_0 : decode cX7_run 0 = .ok (.iload_n 3, 1) := by decide +kernel
theorem dX7_run_1 : decode cX7_run 1 = .ok (.iconst 1, 1) := by decide +kernel
theorem dX7_run_2 : decode cX7_run 2 = .ok (.sipush 300, 3) := by decide +kernel
theorem dX7_run_5 : decode cX7_run 5 = .ok (.invokestatic 111, 3) := by decide +kernel
theorem dX7_run_8 : decode cX7_run 8 = .ok (.ifCond .ne 5, 3) := by decide +kernel
theorem dX7_run_11 : decode cX7_run 11 = .ok (.iconst (-1), 1) := by decide +kernel
theorem dX7_run_12 : decode cX7_run 12 = .ok (.ireturn, 1) := by decide +kernel
theorem dX7_run_13 : decode cX7_run 13 = .ok (.aload_n 0, 1) := by decide +kernel
theorem dX7_run_14 : decode cX7_run 14 = .ok (.getfield 122, 3) := by decide +kernel
theorem dX7_run_17 : decode cX7_run 17 = .ok (.ifCond .ne 6, 3) := by decide +kernel
theorem dX7_run_20 : decode cX7_run 20 = .ok (.bipush (-2), 2) := by decide +kernel
theorem dX7_run_22 : decode cX7_run 22 = .ok (.ireturn, 1) := by decide +kernel
theorem dX7_run_23 : decode cX7_run 23 = .ok (.aload_n 0, 1) := by decide +kernel
theorem dX7_run_24 : decode cX7_run 24 = .ok (.iconst 1, 1) := by decide +kernel
theorem dX7_run_25 : decode cX7_run 25 = .ok (.putfield 126, 3) := by decide +kernel
theorem dX7_run_28 : decode cX7_run 28 = .ok (.aload_n 0, 1) := by decide +kernel
theorem dX7_run_29 : decode cX7_run 29 = .ok (.iconst 0, 1) := by decide +kernel
theorem dX7_run_30 : decode cX7_run 30 = .ok (.putfield 252, 3) := by decide +kernel
theorem dX7_run_33 : decode cX7_run 33 = .ok (.aload_n 0, 1) := by decide +kernel
theorem dX7_run_34 : decode cX7_run 34 = .ok (.iconst 0, 1) := by decide +kernel
theorem dX7_run_35 : decode cX7_run 35 = .ok (.putfield 327, 3) := by decide +kernel
theorem dX7_run_38 : decode cX7_run 38 = .ok (.aload_n 0, 1) := by decide +kernel
theorem dX7_run_39 : decode cX7_run 39 = .ok (.iconst 0, 1) := by decide +kernel
theorem dX7_run_40 : decode cX7_run 40 = .ok (.putfield 271, 3) := by decide +kernel
theorem dX7_run_43 : decode cX7_run 43 = .ok (.aload_n 0, 1) := by decide +kernel
theorem dX7_run_44 : decode cX7_run 44 = .ok (.bipush (-9), 2) := by decide +kernel
theorem dX7_run_46 : decode cX7_run 46 = .ok (.putfield 255, 3) := by decide +kernel
theorem dX7_run_49 : decode cX7_run 49 = .ok (.aload_n 0, 1) := by decide +kernel
theorem dX7_run_50 : decode cX7_run 50 = .ok (.iconst (-1), 1) := by decide +kernel
theorem dX7_run_51 : decode cX7_run 51 = .ok (.putfield 274, 3) := by decide +kernel
theorem dX7_run_54 : decode cX7_run 54 = .ok (.aload_n 0, 1) := by decide +kernel
theorem dX7_run_55 : decode cX7_run 55 = .ok (.iconst 0, 1) := by decide +kernel
theorem dX7_run_56 : decode cX7_run 56 = .ok (.putfield 321, 3) := by decide +kernel
theorem dX7_run_59 : decode cX7_run 59 = .ok (.aload_n 0, 1) := by decide +kernel
theorem dX7_run_60 : decode cX7_run 60 = .ok (.iconst 0, 1) := by decide +kernel
theorem dX7_run_61 : decode cX7_run 61 = .ok (.putfield 258, 3) := by decide +kernel
theorem dX7_run_64 : decode cX7_run 64 = .ok (.aload_n 0, 1) := by decide +kernel
theorem dX7_run_65 : decode cX7_run 65 = .ok (.iconst 0, 1) := by decide +kernel
theorem dX7_run_66 : decode cX7_run 66 = .ok (.putfield 261, 3) := by decide +kernel
theorem dX7_run_69 : decode cX7_run 69 = .ok (.aload_n 0, 1) := by decide +kernel
theorem dX7_run_70 : decode cX7_run 70 = .ok (.iconst 0, 1) := by decide +kernel
theorem dX7_run_71 : decode cX7_run 71 = .ok (.putfield 286, 3) := by decide +kernel
theorem dX7_run_74 : decode cX7_run 74 = .ok (.aload_n 0, 1) := by decide +kernel
theorem dX7_run_75 : decode cX7_run 75 = .ok (.iconst 0, 1) := by decide +kernel
theorem dX7_run_76 : decode cX7_run 76 = .ok (.putfield 264, 3) := by decide +kernel
theorem dX7_run_79 : decode cX7_run 79 = .ok (.iconst 0, 1) := by decide +kernel
theorem dX7_run_80 : decode cX7_run 80 = .ok (.istore 4, 2) := by decide +kernel
theorem dX7_run_82 : decode cX7_run 82 = .ok (.iload 4, 2) := by decide +kernel
theorem dX7_run_84 : decode cX7_run 84 = .ok (.iconst 4, 1) := by decide +kernel
theorem dX7_run_85 : decode cX7_run 85 = .ok (.if_icmp .ge 17, 3) := by decide +kernel
theorem dX7_run_88 : decode cX7_run 88 = .ok (.aload_n 0, 1) := by decide +kernel
theorem dX7_run_89 : decode cX7_run 89 = .ok (.getfield 87, 3) := by decide +kernel
theorem dX7_run_92 : decode cX7_run 92 = .ok (.iload 4, 2) := by decide +kernel
theorem dX7_run_94 : decode cX7_run 94 = .ok (.iconst (-1), 1) := by decide +kernel
theorem dX7_run_95 : decode cX7_run 95 = .ok (.iastore, 1) := by decide +kernel
theorem dX7_run_96 : decode cX7_run 96 = .ok (.iinc 4 1, 3) := by decide +kernel
theorem dX7_run_99 : decode cX7_run 99 = .ok (.goto (-17), 3) := by decide +kernel
theorem dX7_run_102 : decode cX7_run 102 = .ok (.aload_n 0, 1) := by decide +kernel
theorem dX7_run_103 : decode cX7_run 103 = .ok (.iconst 0, 1) := by decide +kernel
theorem dX7_run_104 : decode cX7_run 104 = .ok (.invokevirtual 299, 3) := by decide +kernel
theorem dX7_run_107 : decode cX7_run 107 = .ok (.istore 4, 2) := by decide +kernel
theorem dX7_run_109 : decode cX7_run 109 = .ok (.aload_n 0, 1) := by decide +kernel
theorem dX7_run_110 : decode cX7_run 110 = .ok (.getfield 264, 3) := by decide +kernel
theorem dX7_run_113 : decode cX7_run 113 = .ok (.ifCond .le 137, 3) := by decide +kernel
theorem dX7_run_116 : decode cX7_run 116 = .ok (.aload_n 0, 1) := by decide +kernel
theorem dX7_run_117 : decode cX7_run 117 = .ok (.getfield 252, 3) := by decide +kernel
theorem dX7_run_120 : decode cX7_run 120 = .ok (.ifCond .ne 130, 3) := by decide +kernel
theorem dX7_run_123 : decode cX7_run 123 = .ok (.aload_n 0, 1) := by decide +kernel
theorem dX7_run_124 : decode cX7_run 124 = .ok (.getfield 50, 3) := by decide +kernel
theorem dX7_run_127 : decode cX7_run 127 = .ok (.aload_n 0, 1) := by decide +kernel
theorem dX7_run_128 : decode cX7_run 128 = .ok (.getfield 90, 3) := by decide +kernel
theorem dX7_run_131 : decode cX7_run 131 = .ok (.aload_n 0, 1) := by decide +kernel
theorem dX7_run_132 : decode cX7_run 132 = .ok (.getfield 264, 3) := by decide +kernel
theorem dX7_run_135 : decode cX7_run 135 = .ok (.iconst 1, 1) := by decide +kernel
theorem dX7_run_136 : decode cX7_run 136 = .ok (.isub, 1) := by decide +kernel
theorem dX7_run_137 : decode cX7_run 137 = .ok (.iaload, 1) := by decide +kernel
theorem dX7_run_138 : decode cX7_run 138 = .ok (.iaload, 1) := by decide +kernel
theorem dX7_run_139 : decode cX7_run 139 = .ok (.istore 5, 2) := by decide +kernel
theorem dX7_run_141 : decode cX7_run 141 = .ok (.aload_n 0, 1) := by decide +kernel
theorem dX7_run_142 : decode cX7_run 142 = .ok (.getfield 93, 3) := by decide +kernel
theorem dX7_run_145 : decode cX7_run 145 = .ok (.aload_n 0, 1) := by decide +kernel
theorem dX7_run_146 : decode cX7_run 146 = .ok (.getfield 264, 3) := by decide +kernel
theorem dX7_run_149 : decode cX7_run 149 = .ok (.iconst 1, 1) := by decide +kernel
theorem dX7_run_150 : decode cX7_run 150 = .ok (.isub, 1) := by decide +kernel
theorem dX7_run_151 : decode cX7_run 151 = .ok (.iaload, 1) := by decide +kernel
theorem dX7_run_152 : decode cX7_run 152 = .ok (.istore 6, 2) := by decide +kernel
theorem dX7_run_154 : decode cX7_run 154 = .ok (.iload 6, 2) := by decide +kernel
theorem dX7_run_156 : decode cX7_run 156 = .ok (.aload_n 0, 1) := by decide +kernel
theorem dX7_run_157 : decode cX7_run 157 = .ok (.getfield 23, 3) := by decide +kernel
theorem dX7_run_160 : decode cX7_run 160 = .ok (.iload 5, 2) := by decide +kernel
theorem dX7_run_162 : decode cX7_run 162 = .ok (.iaload, 1) := by decide +kernel
theorem dX7_run_163 : decode cX7_run 163 = .ok (.if_icmp .lt 11, 3) := by decide +kernel
theorem dX7_run_166 : decode cX7_run 166 = .ok (.aload_n 0, 1) := by decide +kernel
theorem dX7_run_167 : decode cX7_run 167 = .ok (.iconst (-1), 1) := by decide +kernel
theorem dX7_run_168 : decode cX7_run 168 = .ok (.invokevirtual 318, 3) := by decide +kernel
theorem dX7_run_171 : decode cX7_run 171 = .ok (.goto 76, 3) := by decide +kernel
theorem dX7_run_174 : decode cX7_run 174 = .ok (.aload_n 0, 1) := by decide +kernel
theorem dX7_run_175 : decode cX7_run 175 = .ok (.getfield 327, 3) := by decide +kernel
theorem dX7_run_178 : decode cX7_run 178 = .ok (.iload_n 3, 1) := by decide +kernel
theorem dX7_run_179 : decode cX7_run 179 = .ok (.if_icmp .ne 25, 3) := by decide +kernel
theorem dX7_run_182 : decode cX7_run 182 = .ok (.aload_n 0, 1) := by decide +kernel
theorem dX7_run_183 : decode cX7_run 183 = .ok (.bipush 9, 2) := by decide +kernel
theorem dX7_run_185 : decode cX7_run 185 = .ok (.aload_n 0, 1) := by decide +kernel
theorem dX7_run_186 : decode cX7_run 186 = .ok (.getfield 26, 3) := by decide +kernel
theorem dX7_run_189 : decode cX7_run 189 = .ok (.bipush 90, 2) := by decide +kernel
theorem dX7_run_191 : decode cX7_run 191 = .ok (.iload 5, 2) := by decide +kernel
theorem dX7_run_193 : decode cX7_run 193 = .ok (.imul, 1) := by decide +kernel
theorem dX7_run_194 : decode cX7_run 194 = .ok (.iload 6, 2) := by decide +kernel
theorem dX7_run_196 : decode cX7_run 196 = .ok (.iadd, 1) := by decide +kernel
theorem dX7_run_197 : decode cX7_run 197 = .ok (.iaload, 1) := by decide +kernel
theorem dX7_run_198 : decode cX7_run 198 = .ok (.invokevirtual 283, 3) := by decide +kernel
theorem dX7_run_201 : decode cX7_run 201 = .ok (.goto 46, 3) := by decide +kernel
theorem dX7_run_204 : decode cX7_run 204 = .ok (.aload_n 0, 1) := by decide +kernel
theorem dX7_run_205 : decode cX7_run 205 = .ok (.dup, 1) := by decide +kernel
theorem dX7_run_206 : decode cX7_run 206 = .ok (.getfield 327, 3) := by decide +kernel
theorem dX7_run_209 : decode cX7_run 209 = .ok (.iconst 1, 1) := by decide +kernel
theorem dX7_run_210 : decode cX7_run 210 = .ok (.iadd, 1) := by decide +kernel
theorem dX7_run_211 : decode cX7_run 211 = .ok (.putfield 327, 3) := by decide +kernel
theorem dX7_run_214 : decode cX7_run 214 = .ok (.aload_n 0, 1) := by decide +kernel
theorem dX7_run_215 : decode cX7_run 215 = .ok (.getfield 93, 3) := by decide +kernel
theorem dX7_run_218 : decode cX7_run 218 = .ok (.aload_n 0, 1) := by decide +kernel
theorem dX7_run_219 : decode cX7_run 219 = .ok (.getfield 264, 3) := by decide +kernel
theorem dX7_run_222 : decode cX7_run 222 = .ok (.iconst 1, 1) := by decide +kernel
theorem dX7_run_223 : decode cX7_run 223 = .ok (.isub, 1) := by decide +kernel
theorem dX7_run_224 : decode cX7_run 224 = .ok (.dup2, 1) := by decide +kernel
theorem dX7_run_225 : decode cX7_run 225 = .ok (.iaload, 1) := by decide +kernel
theorem dX7_run_226 : decode cX7_run 226 = .ok (.iconst 1, 1) := by decide +kernel
theorem dX7_run_227 : decode cX7_run 227 = .ok (.iadd, 1) := by decide +kernel
theorem dX7_run_228 : decode cX7_run 228 = .ok (.iastore, 1) := by decide +kernel
theorem dX7_run_229 : decode cX7_run 229 = .ok (.aload_n 0, 1) := by decide +kernel
theorem dX7_run_230 : decode cX7_run 230 = .ok (.aload_n 0, 1) := by decide +kernel
theorem dX7_run_231 : decode cX7_run 231 = .ok (.getfield 26, 3) := by decide +kernel
theorem dX7_run_234 : decode cX7_run 234 = .ok (.bipush 90, 2) := by decide +kernel
theorem dX7_run_236 : decode cX7_run 236 = .ok (.iload 5, 2) := by decide +kernel
theorem dX7_run_238 : decode cX7_run 238 = .ok (.imul, 1) := by decide +kernel
theorem dX7_run_239 : decode cX7_run 239 = .ok (.iload 6, 2) := by decide +kernel
theorem dX7_run_241 : decode cX7_run 241 = .ok (.iadd, 1) := by decide +kernel
theorem dX7_run_242 : decode cX7_run 242 = .ok (.iaload, 1) := by decide +kernel
theorem dX7_run_243 : decode cX7_run 243 = .ok (.lload_n 1, 1) := by decide +kernel
theorem dX7_run_244 : decode cX7_run 244 = .ok (.invokevirtual 330, 3) := by decide +kernel
theorem dX7_run_247 : decode cX7_run 247 = .ok (.goto (-138), 3) := by decide +kernel
theorem dX7_run_250 : decode cX7_run 250 = .ok (.aload_n 0, 1) := by decide +kernel
theorem dX7_run_251 : decode cX7_run 251 = .ok (.getfield 252, 3) := by decide +kernel
theorem dX7_run_254 : decode cX7_run 254 = .ok (.ireturn, 1) := by decide +kernel
theorem dX7_or_0 : decode cX7_or 0 = .ok (.iload_n 0, 1) := by decide +kernel
theorem dX7_or_1 : decode cX7_or 1 = .ok (.ifCond .ge 8, 3) := by decide +kernel
theorem dX7_or_4 : decode cX7_or 4 = .ok (.bipush (-9), 2) := by decide +kernel
theorem dX7_or_6 : decode cX7_or 6 = .ok (.goto 4, 3) := by decide +kernel
theorem dX7_or_9 : decode cX7_or 9 = .ok (.iload_n 0, 1) := by decide +kernel
theorem dX7_or_10 : decode cX7_or 10 = .ok (.ireturn, 1) := by decide +kernel
theorem dX7_ran_0 : decode cX7_ran 0 = .ok (.iload_n 1, 1) := by decide +kernel
theorem dX7_ran_1 : decode cX7_ran 1 = .ok (.iconst 0, 1) := by decide +kernel
theorem dX7_ran_2 : decode cX7_ran 2 = .ok (.bipush 8, 2) := by decide +kernel
theorem dX7_ran_4 : decode cX7_ran 4 = .ok (.invokestatic 111, 3) := by decide +kernel
theorem dX7_ran_7 : decode cX7_ran 7 = .ok (.ifCond .ne 5, 3) := by decide +kernel
theorem dX7_ran_10 : decode cX7_ran 10 = .ok (.iconst (-1), 1) := by decide +kernel
theorem dX7_ran_11 : decode cX7_ran 11 = .ok (.ireturn, 1) := by decide +kernel
theorem dX7_ran_12 : decode cX7_ran 12 = .ok (.aload_n 0, 1) := by decide +kernel
theorem dX7_ran_13 : decode cX7_ran 13 = .ok (.getfield 126, 3) := by decide +kernel
theorem dX7_ran_16 : decode cX7_ran 16 = .ok (.ifCond .ne 6, 3) := by decide +kernel
theorem dX7_ran_19 : decode cX7_ran 19 = .ok (.bipush (-9), 2) := by decide +kernel
theorem dX7_ran_21 : decode cX7_ran 21 = .ok (.ireturn, 1) := by decide +kernel
theorem dX7_ran_22 : decode cX7_ran 22 = .ok (.iload_n 1, 1) := by decide +kernel
theorem dX7_ran_23 : decode cX7_ran 23 = .ok (.tableswitch 88 0 7 #[45, 50, 55, 60, 65, 70, 75, 80], 45) := by decide +kernel
theorem dX7_ran_68 : decode cX7_ran 68 = .ok (.aload_n 0, 1) := by decide +kernel
theorem dX7_ran_69 : decode cX7_ran 69 = .ok (.getfield 252, 3) := by decide +kernel
theorem dX7_ran_72 : decode cX7_ran 72 = .ok (.ireturn, 1) := by decide +kernel
theorem dX7_ran_73 : decode cX7_ran 73 = .ok (.aload_n 0, 1) := by decide +kernel
theorem dX7_ran_74 : decode cX7_ran 74 = .ok (.getfield 327, 3) := by decide +kernel
theorem dX7_ran_77 : decode cX7_ran 77 = .ok (.ireturn, 1) := by decide +kernel
theorem dX7_ran_78 : decode cX7_ran 78 = .ok (.aload_n 0, 1) := by decide +kernel
theorem dX7_ran_79 : decode cX7_ran 79 = .ok (.getfield 286, 3) := by decide +kernel
theorem dX7_ran_82 : decode cX7_ran 82 = .ok (.ireturn, 1) := by decide +kernel
theorem dX7_ran_83 : decode cX7_ran 83 = .ok (.aload_n 0, 1) := by decide +kernel
theorem dX7_ran_84 : decode cX7_ran 84 = .ok (.getfield 258, 3) := by decide +kernel
theorem dX7_ran_87 : decode cX7_ran 87 = .ok (.ireturn, 1) := by decide +kernel
theorem dX7_ran_88 : decode cX7_ran 88 = .ok (.aload_n 0, 1) := by decide +kernel
theorem dX7_ran_89 : decode cX7_ran 89 = .ok (.getfield 261, 3) := by decide +kernel
theorem dX7_ran_92 : decode cX7_ran 92 = .ok (.ireturn, 1) := by decide +kernel
theorem dX7_ran_93 : decode cX7_ran 93 = .ok (.aload_n 0, 1) := by decide +kernel
theorem dX7_ran_94 : decode cX7_ran 94 = .ok (.getfield 271, 3) := by decide +kernel
theorem dX7_ran_97 : decode cX7_ran 97 = .ok (.ireturn, 1) := by decide +kernel
theorem dX7_ran_98 : decode cX7_ran 98 = .ok (.aload_n 0, 1) := by decide +kernel
theorem dX7_ran_99 : decode cX7_ran 99 = .ok (.getfield 255, 3) := by decide +kernel
theorem dX7_ran_102 : decode cX7_ran 102 = .ok (.ireturn, 1) := by decide +kernel
theorem dX7_ran_103 : decode cX7_ran 103 = .ok (.aload_n 0, 1) := by decide +kernel
theorem dX7_ran_104 : decode cX7_ran 104 = .ok (.getfield 274, 3) := by decide +kernel
theorem dX7_ran_107 : decode cX7_ran 107 = .ok (.invokestatic 333, 3) := by decide +kernel
theorem dX7_ran_110 : decode cX7_ran 110 = .ok (.ireturn, 1) := by decide +kernel
theorem dX7_ran_111 : decode cX7_ran 111 = .ok (.aload_n 0, 1) := by decide +kernel
theorem dX7_ran_112 : decode cX7_ran 112 = .ok (.getfield 321, 3) := by decide +kernel
theorem dX7_ran_115 : decode cX7_ran 115 = .ok (.ireturn, 1) := by decide +kernel
theorem dX7_object_0 : decode cX7_object 0 = .ok (.aload_n 0, 1) := by decide +kernel
theorem dX7_object_1 : decode cX7_object 1 = .ok (.getfield 126, 3) := by decide +kernel
theorem dX7_object_4 : decode cX7_object 4 = .ok (.ifCond .eq 27, 3) := by decide +kernel
theorem dX7_object_7 : decode cX7_object 7 = .ok (.iload_n 1, 1) := by decide +kernel
theorem dX7_object_8 : decode cX7_object 8 = .ok (.iconst 0, 1) := by decide +kernel
theorem dX7_object_9 : decode cX7_object 9 = .ok (.aload_n 0, 1) := by decide +kernel
theorem dX7_object_10 : decode cX7_object 10 = .ok (.getfield 286, 3) := by decide +kernel
theorem dX7_object_13 : decode cX7_object 13 = .ok (.iconst 1, 1) := by decide +kernel
theorem dX7_object_14 : decode cX7_object 14 = .ok (.isub, 1) := by decide +kernel
theorem dX7_object_15 : decode cX7_object 15 = .ok (.invokestatic 111, 3) := by decide +kernel
theorem dX7_object_18 : decode cX7_object 18 = .ok (.ifCond .eq 13, 3) := by decide +kernel
theorem dX7_object_21 : decode cX7_object 21 = .ok (.iload_n 2, 1) := by decide +kernel
theorem dX7_object_22 : decode cX7_object 22 = .ok (.iconst 0, 1) := by decide +kernel
theorem dX7_object_23 : decode cX7_object 23 = .ok (.bipush 12, 2) := by decide +kernel
theorem dX7_object_25 : decode cX7_object 25 = .ok (.invokestatic 111, 3) := by decide +kernel
theorem dX7_object_28 : decode cX7_object 28 = .ok (.ifCond .ne 5, 3) := by decide +kernel
theorem dX7_object_31 : decode cX7_object 31 = .ok (.iconst (-1), 1) := by decide +kernel
theorem dX7_object_32 : decode cX7_object 32 = .ok (.ireturn, 1) := by decide +kernel
theorem dX7_object_33 : decode cX7_object 33 = .ok (.aload_n 0, 1) := by decide +kernel
theorem dX7_object_34 : decode cX7_object 34 = .ok (.iload_n 1, 1) := by decide +kernel
theorem dX7_object_35 : decode cX7_object 35 = .ok (.invokevirtual 289, 3) := by decide +kernel
theorem dX7_object_38 : decode cX7_object 38 = .ok (.istore_n 3, 1) := by decide +kernel
theorem dX7_object_39 : decode cX7_object 39 = .ok (.iload_n 2, 1) := by decide +kernel
theorem dX7_object_40 : decode cX7_object 40 = .ok (.iconst 3, 1) := by decide +kernel
theorem dX7_object_41 : decode cX7_object 41 = .ok (.if_icmp .le 59, 3) := by decide +kernel
theorem dX7_object_44 : decode cX7_object 44 = .ok (.iload_n 2, 1) := by decide +kernel
theorem dX7_object_45 : decode cX7_object 45 = .ok (.bipush 7, 2) := by decide +kernel
theorem dX7_object_47 : decode cX7_object 47 = .ok (.if_icmp .le 7, 3) := by decide +kernel
theorem dX7_object_50 : decode cX7_object 50 = .ok (.iconst 1, 1) := by decide +kernel
theorem dX7_object_51 : decode cX7_object 51 = .ok (.goto 4, 3) := by decide +kernel
theorem dX7_object_54 : decode cX7_object 54 = .ok (.iconst 0, 1) := by decide +kernel
theorem dX7_object_55 : decode cX7_object 55 = .ok (.istore 4, 2) := by decide +kernel
theorem dX7_object_57 : decode cX7_object 57 = .ok (.iload 4, 2) := by decide +kernel
theorem dX7_object_59 : decode cX7_object 59 = .ok (.ifCond .eq 10, 3) := by decide +kernel
theorem dX7_object_62 : decode cX7_object 62 = .ok (.iload_n 2, 1) := by decide +kernel
theorem dX7_object_63 : decode cX7_object 63 = .ok (.bipush 8, 2) := by decide +kernel
theorem dX7_object_65 : decode cX7_object 65 = .ok (.isub, 1) := by decide +kernel
theorem dX7_object_66 : decode cX7_object 66 = .ok (.goto 6, 3) := by decide +kernel
theorem dX7_object_69 : decode cX7_object 69 = .ok (.iload_n 2, 1) := by decide +kernel
theorem dX7_object_70 : decode cX7_object 70 = .ok (.iconst 4, 1) := by decide +kernel
theorem dX7_object_71 : decode cX7_object 71 = .ok (.isub, 1) := by decide +kernel
theorem dX7_object_72 : decode cX7_object 72 = .ok (.istore 5, 2) := by decide +kernel
theorem dX7_object_74 : decode cX7_object 74 = .ok (.iload 4, 2) := by decide +kernel
theorem dX7_object_76 : decode cX7_object 76 = .ok (.iload_n 3, 1) := by decide +kernel
theorem dX7_object_77 : decode cX7_object 77 = .ok (.if_icmp .eq 8, 3) := by decide +kernel
theorem dX7_object_80 : decode cX7_object 80 = .ok (.bipush (-9), 2) := by decide +kernel
theorem dX7_object_82 : decode cX7_object 82 = .ok (.goto 17, 3) := by decide +kernel
theorem dX7_object_85 : decode cX7_object 85 = .ok (.aload_n 0, 1) := by decide +kernel
theorem dX7_object_86 : decode cX7_object 86 = .ok (.getfield 84, 3) := by decide +kernel
theorem dX7_object_89 : decode cX7_object 89 = .ok (.iconst 5, 1) := by decide +kernel
theorem dX7_object_90 : decode cX7_object 90 = .ok (.iload_n 1, 1) := by decide +kernel
theorem dX7_object_91 : decode cX7_object 91 = .ok (.imul, 1) := by decide +kernel
theorem dX7_object_92 : decode cX7_object 92 = .ok (.iload 5, 2) := by decide +kernel
theorem dX7_object_94 : decode cX7_object 94 = .ok (.iadd, 1) := by decide +kernel
theorem dX7_object_95 : decode cX7_object 95 = .ok (.iaload, 1) := by decide +kernel
theorem dX7_object_96 : decode cX7_object 96 = .ok (.invokestatic 333, 3) := by decide +kernel
theorem dX7_object_99 : decode cX7_object 99 = .ok (.ireturn, 1) := by decide +kernel
theorem dX7_object_100 : decode cX7_object 100 = .ok (.iload_n 2, 1) := by decide +kernel
theorem dX7_object_101 : decode cX7_object 101 = .ok (.ifCond .ne 12, 3) := by decide +kernel
theorem dX7_object_104 : decode cX7_object 104 = .ok (.aload_n 0, 1) := by decide +kernel
theorem dX7_object_105 : decode cX7_object 105 = .ok (.getfield 75, 3) := by decide +kernel
theorem dX7_object_108 : decode cX7_object 108 = .ok (.iload_n 1, 1) := by decide +kernel
theorem dX7_object_109 : decode cX7_object 109 = .ok (.iaload, 1) := by decide +kernel
theorem dX7_object_110 : decode cX7_object 110 = .ok (.goto 37, 3) := by decide +kernel
theorem dX7_object_113 : decode cX7_object 113 = .ok (.iload_n 2, 1) := by decide +kernel
theorem dX7_object_114 : decode cX7_object 114 = .ok (.iconst 1, 1) := by decide +kernel
theorem dX7_object_115 : decode cX7_object 115 = .ok (.if_icmp .ne 12, 3) := by decide +kernel
theorem dX7_object_118 : decode cX7_object 118 = .ok (.aload_n 0, 1) := by decide +kernel
theorem dX7_object_119 : decode cX7_object 119 = .ok (.getfield 78, 3) := by decide +kernel
theorem dX7_object_122 : decode cX7_object 122 = .ok (.iload_n 1, 1) := by decide +kernel
theorem dX7_object_123 : decode cX7_object 123 = .ok (.iaload, 1) := by decide +kernel
theorem dX7_object_124 : decode cX7_object 124 = .ok (.goto 23, 3) := by decide +kernel
theorem dX7_object_127 : decode cX7_object 127 = .ok (.iload_n 2, 1) := by decide +kernel
theorem dX7_object_128 : decode cX7_object 128 = .ok (.iconst 2, 1) := by decide +kernel
theorem dX7_object_129 : decode cX7_object 129 = .ok (.if_icmp .ne 12, 3) := by decide +kernel
theorem dX7_object_132 : decode cX7_object 132 = .ok (.aload_n 0, 1) := by decide +kernel
theorem dX7_object_133 : decode cX7_object 133 = .ok (.getfield 81, 3) := by decide +kernel
theorem dX7_object_136 : decode cX7_object 136 = .ok (.iload_n 1, 1) := by decide +kernel
theorem dX7_object_137 : decode cX7_object 137 = .ok (.iaload, 1) := by decide +kernel
theorem dX7_object_138 : decode cX7_object 138 = .ok (.goto 9, 3) := by decide +kernel
theorem dX7_object_141 : decode cX7_object 141 = .ok (.aload_n 0, 1) := by decide +kernel
theorem dX7_object_142 : decode cX7_object 142 = .ok (.getfield 99, 3) := by decide +kernel
theorem dX7_object_145 : decode cX7_object 145 = .ok (.iload_n 1, 1) := by decide +kernel
theorem dX7_object_146 : decode cX7_object 146 = .ok (.iaload, 1) := by decide +kernel
theorem dX7_object_147 : decode cX7_object 147 = .ok (.ireturn, 1) := by decide +kernel
theorem dX7_many_0 : decode cX7_many 0 = .ok (.aload_n 0, 1) := by decide +kernel
theorem dX7_many_1 : decode cX7_many 1 = .ok (.getfield 122, 3) := by decide +kernel
theorem dX7_many_4 : decode cX7_many 4 = .ok (.ifCond .ne 6, 3) := by decide +kernel
theorem dX7_many_7 : decode cX7_many 7 = .ok (.bipush (-2), 2) := by decide +kernel
theorem dX7_many_9 : decode cX7_many 9 = .ok (.ireturn, 1) := by decide +kernel
theorem dX7_many_10 : decode cX7_many 10 = .ok (.iload_n 1, 1) := by decide +kernel
theorem dX7_many_11 : decode cX7_many 11 = .ok (.iconst 0, 1) := by decide +kernel
theorem dX7_many_12 : decode cX7_many 12 = .ok (.aload_n 0, 1) := by decide +kernel
theorem dX7_many_13 : decode cX7_many 13 = .ok (.getfield 167, 3) := by decide +kernel
theorem dX7_many_16 : decode cX7_many 16 = .ok (.iconst 1, 1) := by decide +kernel
theorem dX7_many_17 : decode cX7_many 17 = .ok (.isub, 1) := by decide +kernel
theorem dX7_many_18 : decode cX7_many 18 = .ok (.invokestatic 111, 3) := by decide +kernel
theorem dX7_many_21 : decode cX7_many 21 = .ok (.ifCond .ne 5, 3) := by decide +kernel
theorem dX7_many_24 : decode cX7_many 24 = .ok (.iconst (-1), 1) := by decide +kernel
theorem dX7_many_25 : decode cX7_many 25 = .ok (.ireturn, 1) := by decide +kernel
theorem dX7_many_26 : decode cX7_many 26 = .ok (.aload_n 0, 1) := by decide +kernel
theorem dX7_many_27 : decode cX7_many 27 = .ok (.getfield 126, 3) := by decide +kernel
theorem dX7_many_30 : decode cX7_many 30 = .ok (.ifCond .ne 6, 3) := by decide +kernel
theorem dX7_many_33 : decode cX7_many 33 = .ok (.bipush (-9), 2) := by decide +kernel
theorem dX7_many_35 : decode cX7_many 35 = .ok (.ireturn, 1) := by decide +kernel
theorem dX7_many_36 : decode cX7_many 36 = .ok (.iconst 0, 1) := by decide +kernel
theorem dX7_many_37 : decode cX7_many 37 = .ok (.istore_n 2, 1) := by decide +kernel
theorem dX7_many_38 : decode cX7_many 38 = .ok (.iconst 0, 1) := by decide +kernel
theorem dX7_many_39 : decode cX7_many 39 = .ok (.istore_n 3, 1) := by decide +kernel
theorem dX7_many_40 : decode cX7_many 40 = .ok (.iload_n 3, 1) := by decide +kernel
theorem dX7_many_41 : decode cX7_many 41 = .ok (.aload_n 0, 1) := by decide +kernel
theorem dX7_many_42 : decode cX7_many 42 = .ok (.getfield 286, 3) := by decide +kernel
theorem dX7_many_45 : decode cX7_many 45 = .ok (.if_icmp .ge 27, 3) := by decide +kernel
theorem dX7_many_48 : decode cX7_many 48 = .ok (.iload_n 2, 1) := by decide +kernel
theorem dX7_many_49 : decode cX7_many 49 = .ok (.aload_n 0, 1) := by decide +kernel
theorem dX7_many_50 : decode cX7_many 50 = .ok (.getfield 78, 3) := by decide +kernel
theorem dX7_many_53 : decode cX7_many 53 = .ok (.iload_n 3, 1) := by decide +kernel
theorem dX7_many_54 : decode cX7_many 54 = .ok (.iaload, 1) := by decide +kernel
theorem dX7_many_55 : decode cX7_many 55 = .ok (.iload_n 1, 1) := by decide +kernel
theorem dX7_many_56 : decode cX7_many 56 = .ok (.if_icmp .ne 7, 3) := by decide +kernel
theorem dX7_many_59 : decode cX7_many 59 = .ok (.iconst 1, 1) := by decide +kernel
theorem dX7_many_60 : decode cX7_many 60 = .ok (.goto 4, 3) := by decide +kernel
theorem dX7_many_63 : decode cX7_many 63 = .ok (.iconst 0, 1) := by decide +kernel
theorem dX7_many_64 : decode cX7_many 64 = .ok (.iadd, 1) := by decide +kernel
theorem dX7_many_65 : decode cX7_many 65 = .ok (.istore_n 2, 1) := by decide +kernel
theorem dX7_many_66 : decode cX7_many 66 = .ok (.iinc 3 1, 3) := by decide +kernel
theorem dX7_many_69 : decode cX7_many 69 = .ok (.goto (-29), 3) := by decide +kernel
theorem dX7_many_72 : decode cX7_many 72 = .ok (.iload_n 2, 1) := by decide +kernel
theorem dX7_many_73 : decode cX7_many 73 = .ok (.ireturn, 1) := by decide +kernel
theorem dX7_count_0 : decode cX7_count 0 = .ok (.iload_n 1, 1) := by decide +kernel
theorem dX7_count_1 : decode cX7_count 1 = .ok (.tableswitch 108 0 6 #[43, 48, 53, 58, 74, 90, 95], 43) := by decide +kernel
theorem dX7_count_44 : decode cX7_count 44 = .ok (.aload_n 0, 1) := by decide +kernel
theorem dX7_count_45 : decode cX7_count 45 = .ok (.getfield 7, 3) := by decide +kernel
theorem dX7_count_48 : decode cX7_count 48 = .ok (.ireturn, 1) := by decide +kernel
theorem dX7_count_49 : decode cX7_count 49 = .ok (.aload_n 0, 1) := by decide +kernel
theorem dX7_count_50 : decode cX7_count 50 = .ok (.getfield 115, 3) := by decide +kernel
theorem dX7_count_53 : decode cX7_count 53 = .ok (.ireturn, 1) := by decide +kernel
theorem dX7_count_54 : decode cX7_count 54 = .ok (.aload_n 0, 1) := by decide +kernel
theorem dX7_count_55 : decode cX7_count 55 = .ok (.getfield 139, 3) := by decide +kernel
theorem dX7_count_58 : decode cX7_count 58 = .ok (.ireturn, 1) := by decide +kernel
theorem dX7_count_59 : decode cX7_count 59 = .ok (.aload_n 0, 1) := by decide +kernel
theorem dX7_count_60 : decode cX7_count 60 = .ok (.getfield 122, 3) := by decide +kernel
theorem dX7_count_63 : decode cX7_count 63 = .ok (.ifCond .eq 10, 3) := by decide +kernel
theorem dX7_count_66 : decode cX7_count 66 = .ok (.aload_n 0, 1) := by decide +kernel
theorem dX7_count_67 : decode cX7_count 67 = .ok (.getfield 108, 3) := by decide +kernel
theorem dX7_count_70 : decode cX7_count 70 = .ok (.goto 4, 3) := by decide +kernel
theorem dX7_count_73 : decode cX7_count 73 = .ok (.iconst 0, 1) := by decide +kernel
theorem dX7_count_74 : decode cX7_count 74 = .ok (.ireturn, 1) := by decide +kernel
theorem dX7_count_75 : decode cX7_count 75 = .ok (.aload_n 0, 1) := by decide +kernel
theorem dX7_count_76 : decode cX7_count 76 = .ok (.getfield 122, 3) := by decide +kernel
theorem dX7_count_79 : decode cX7_count 79 = .ok (.ifCond .eq 10, 3) := by decide +kernel
theorem dX7_count_82 : decode cX7_count 82 = .ok (.aload_n 0, 1) := by decide +kernel
theorem dX7_count_83 : decode cX7_count 83 = .ok (.getfield 167, 3) := by decide +kernel
theorem dX7_count_86 : decode cX7_count 86 = .ok (.goto 4, 3) := by decide +kernel
theorem dX7_count_89 : decode cX7_count 89 = .ok (.iconst 0, 1) := by decide +kernel
theorem dX7_count_90 : decode cX7_count 90 = .ok (.ireturn, 1) := by decide +kernel
theorem dX7_count_91 : decode cX7_count 91 = .ok (.aload_n 0, 1) := by decide +kernel
theorem dX7_count_92 : decode cX7_count 92 = .ok (.getfield 219, 3) := by decide +kernel
theorem dX7_count_95 : decode cX7_count 95 = .ok (.ireturn, 1) := by decide +kernel
theorem dX7_count_96 : decode cX7_count 96 = .ok (.aload_n 0, 1) := by decide +kernel
theorem dX7_count_97 : decode cX7_count 97 = .ok (.getfield 122, 3) := by decide +kernel
theorem dX7_count_100 : decode cX7_count 100 = .ok (.ifCond .eq 7, 3) := by decide +kernel
theorem dX7_count_103 : decode cX7_count 103 = .ok (.iconst 1, 1) := by decide +kernel
theorem dX7_count_104 : decode cX7_count 104 = .ok (.goto 4, 3) := by decide +kernel
theorem dX7_count_107 : decode cX7_count 107 = .ok (.iconst 0, 1) := by decide +kernel
theorem dX7_count_108 : decode cX7_count 108 = .ok (.ireturn, 1) := by decide +kernel
theorem dX7_count_109 : decode cX7_count 109 = .ok (.iconst (-1), 1) := by decide +kernel
theorem dX7_count_110 : decode cX7_count 110 = .ok (.ireturn, 1) := by decide +kernel
theorem dX7_bySteps_0 : decode cX7_bySteps 0 = .ok (.iconst 0, 1) := by decide +kernel
theorem dX7_bySteps_1 : decode cX7_bySteps 1 = .ok (.istore_n 2, 1) := by decide +kernel
theorem dX7_bySteps_2 : decode cX7_bySteps 2 = .ok (.iload_n 2, 1) := by decide +kernel
theorem dX7_bySteps_3 : decode cX7_bySteps 3 = .ok (.sipush 144, 3) := by decide +kernel
theorem dX7_bySteps_6 : decode cX7_bySteps 6 = .ok (.if_icmp .ge 13, 3) := by decide +kernel
theorem dX7_bySteps_9 : decode cX7_bySteps 9 = .ok (.aload_n 1, 1) := by decide +kernel
theorem dX7_bySteps_10 : decode cX7_bySteps 10 = .ok (.iload_n 2, 1) := by decide +kernel
theorem dX7_bySteps_11 : decode cX7_bySteps 11 = .ok (.lconst 0, 1) := by decide +kernel
theorem dX7_bySteps_12 : decode cX7_bySteps 12 = .ok (.lastore, 1) := by decide +kernel
theorem dX7_bySteps_13 : decode cX7_bySteps 13 = .ok (.iinc 2 1, 3) := by decide +kernel
theorem dX7_bySteps_16 : decode cX7_bySteps 16 = .ok (.goto (-14), 3) := by decide +kernel
theorem dX7_bySteps_19 : decode cX7_bySteps 19 = .ok (.iconst 0, 1) := by decide +kernel
theorem dX7_bySteps_20 : decode cX7_bySteps 20 = .ok (.istore_n 2, 1) := by decide +kernel
theorem dX7_bySteps_21 : decode cX7_bySteps 21 = .ok (.iload_n 2, 1) := by decide +kernel
theorem dX7_bySteps_22 : decode cX7_bySteps 22 = .ok (.aload_n 0, 1) := by decide +kernel
theorem dX7_bySteps_23 : decode cX7_bySteps 23 = .ok (.getfield 108, 3) := by decide +kernel
theorem dX7_bySteps_26 : decode cX7_bySteps 26 = .ok (.if_icmp .ge 103, 3) := by decide +kernel
theorem dX7_bySteps_29 : decode cX7_bySteps 29 = .ok (.iconst 0, 1) := by decide +kernel
theorem dX7_bySteps_30 : decode cX7_bySteps 30 = .ok (.istore_n 3, 1) := by decide +kernel
theorem dX7_bySteps_31 : decode cX7_bySteps 31 = .ok (.iload_n 3, 1) := by decide +kernel
theorem dX7_bySteps_32 : decode cX7_bySteps 32 = .ok (.bipush 6, 2) := by decide +kernel
theorem dX7_bySteps_34 : decode cX7_bySteps 34 = .ok (.if_icmp .ge 89, 3) := by decide +kernel
theorem dX7_bySteps_37 : decode cX7_bySteps 37 = .ok (.iconst 0, 1) := by decide +kernel
theorem dX7_bySteps_38 : decode cX7_bySteps 38 = .ok (.istore 4, 2) := by decide +kernel
theorem dX7_bySteps_40 : decode cX7_bySteps 40 = .ok (.iload 4, 2) := by decide +kernel
theorem dX7_bySteps_42 : decode cX7_bySteps 42 = .ok (.aload_n 0, 1) := by decide +kernel
theorem dX7_bySteps_43 : decode cX7_bySteps 43 = .ok (.getfield 167, 3) := by decide +kernel
theorem dX7_bySteps_46 : decode cX7_bySteps 46 = .ok (.if_icmp .ge 71, 3) := by decide +kernel
theorem dX7_bySteps_49 : decode cX7_bySteps 49 = .ok (.aload_n 0, 1) := by decide +kernel
theorem dX7_bySteps_50 : decode cX7_bySteps 50 = .ok (.getfield 59, 3) := by decide +kernel
theorem dX7_bySteps_53 : decode cX7_bySteps 53 = .ok (.bipush 8, 2) := by decide +kernel
theorem dX7_bySteps_55 : decode cX7_bySteps 55 = .ok (.iload_n 2, 1) := by decide +kernel
theorem dX7_bySteps_56 : decode cX7_bySteps 56 = .ok (.imul, 1) := by decide +kernel
theorem dX7_bySteps_57 : decode cX7_bySteps 57 = .ok (.iload_n 3, 1) := by decide +kernel
theorem dX7_bySteps_58 : decode cX7_bySteps 58 = .ok (.iadd, 1) := by decide +kernel
theorem dX7_bySteps_59 : decode cX7_bySteps 59 = .ok (.laload, 1) := by decide +kernel
theorem dX7_bySteps_60 : decode cX7_bySteps 60 = .ok (.iload 4, 2) := by decide +kernel
theorem dX7_bySteps_62 : decode cX7_bySteps 62 = .ok (.lshr, 1) := by decide +kernel
theorem dX7_bySteps_63 : decode cX7_bySteps 63 = .ok (.lconst 1, 1) := by decide +kernel
theorem dX7_bySteps_64 : decode cX7_bySteps 64 = .ok (.land, 1) := by decide +kernel
theorem dX7_bySteps_65 : decode cX7_bySteps 65 = .ok (.lconst 1, 1) := by decide +kernel
theorem dX7_bySteps_66 : decode cX7_bySteps 66 = .ok (.lcmp, 1) := by decide +kernel
theorem dX7_bySteps_67 : decode cX7_bySteps 67 = .ok (.ifCond .ne 44, 3) := by decide +kernel
theorem dX7_bySteps_70 : decode cX7_bySteps 70 = .ok (.aload_n 1, 1) := by decide +kernel
theorem dX7_bySteps_71 : decode cX7_bySteps 71 = .ok (.bipush 12, 2) := by decide +kernel
theorem dX7_bySteps_73 : decode cX7_bySteps 73 = .ok (.aload_n 0, 1) := by decide +kernel
theorem dX7_bySteps_74 : decode cX7_bySteps 74 = .ok (.getfield 50, 3) := by decide +kernel
theorem dX7_bySteps_77 : decode cX7_bySteps 77 = .ok (.iload_n 2, 1) := by decide +kernel
theorem dX7_bySteps_78 : decode cX7_bySteps 78 = .ok (.iaload, 1) := by decide +kernel
theorem dX7_bySteps_79 : decode cX7_bySteps 79 = .ok (.imul, 1) := by decide +kernel
theorem dX7_bySteps_80 : decode cX7_bySteps 80 = .ok (.iconst 2, 1) := by decide +kernel
theorem dX7_bySteps_81 : decode cX7_bySteps 81 = .ok (.iload_n 3, 1) := by decide +kernel
theorem dX7_bySteps_82 : decode cX7_bySteps 82 = .ok (.imul, 1) := by decide +kernel
theorem dX7_bySteps_83 : decode cX7_bySteps 83 = .ok (.iadd, 1) := by decide +kernel
theorem dX7_bySteps_84 : decode cX7_bySteps 84 = .ok (.aload_n 0, 1) := by decide +kernel
theorem dX7_bySteps_85 : decode cX7_bySteps 85 = .ok (.getfield 63, 3) := by decide +kernel
theorem dX7_bySteps_88 : decode cX7_bySteps 88 = .ok (.iload 4, 2) := by decide +kernel
theorem dX7_bySteps_90 : decode cX7_bySteps 90 = .ok (.iaload, 1) := by decide +kernel
theorem dX7_bySteps_91 : decode cX7_bySteps 91 = .ok (.bipush 60, 2) := by decide +kernel
theorem dX7_bySteps_93 : decode cX7_bySteps 93 = .ok (.idiv, 1) := by decide +kernel
theorem dX7_bySteps_94 : decode cX7_bySteps 94 = .ok (.iadd, 1) := by decide +kernel
theorem dX7_bySteps_95 : decode cX7_bySteps 95 = .ok (.dup2, 1) := by decide +kernel
theorem dX7_bySteps_96 : decode cX7_bySteps 96 = .ok (.laload, 1) := by decide +kernel
theorem dX7_bySteps_97 : decode cX7_bySteps 97 = .ok (.lconst 1, 1) := by decide +kernel
theorem dX7_bySteps_98 : decode cX7_bySteps 98 = .ok (.aload_n 0, 1) := by decide +kernel
theorem dX7_bySteps_99 : decode cX7_bySteps 99 = .ok (.getfield 63, 3) := by decide +kernel
theorem dX7_bySteps_102 : decode cX7_bySteps 102 = .ok (.iload 4, 2) := by decide +kernel
theorem dX7_bySteps_104 : decode cX7_bySteps 104 = .ok (.iaload, 1) := by decide +kernel
theorem dX7_bySteps_105 : decode cX7_bySteps 105 = .ok (.bipush 60, 2) := by decide +kernel
theorem dX7_bySteps_107 : decode cX7_bySteps 107 = .ok (.irem, 1) := by decide +kernel
theorem dX7_bySteps_108 : decode cX7_bySteps 108 = .ok (.lshl, 1) := by decide +kernel
theorem dX7_bySteps_109 : decode cX7_bySteps 109 = .ok (.lor, 1) := by decide +kernel
theorem dX7_bySteps_110 : decode cX7_bySteps 110 = .ok (.lastore, 1) := by decide +kernel
theorem dX7_bySteps_111 : decode cX7_bySteps 111 = .ok (.iinc 4 1, 3) := by decide +kernel
theorem dX7_bySteps_114 : decode cX7_bySteps 114 = .ok (.goto (-74), 3) := by decide +kernel
theorem dX7_bySteps_117 : decode cX7_bySteps 117 = .ok (.iinc 3 1, 3) := by decide +kernel
theorem dX7_bySteps_120 : decode cX7_bySteps 120 = .ok (.goto (-89), 3) := by decide +kernel
theorem dX7_bySteps_123 : decode cX7_bySteps 123 = .ok (.iinc 2 1, 3) := by decide +kernel
theorem dX7_bySteps_126 : decode cX7_bySteps 126 = .ok (.goto (-105), 3) := by decide +kernel
theorem dX7_bySteps_129 : decode cX7_bySteps 129 = .ok (.return_, 1) := by decide +kernel
theorem dX7_within_0 : decode cX7_within 0 = .ok (.iload_n 1, 1) := by decide +kernel
theorem dX7_within_1 : decode cX7_within 1 = .ok (.iconst 0, 1) := by decide +kernel
theorem dX7_within_2 : decode cX7_within 2 = .ok (.iconst 2, 1) := by decide +kernel
theorem dX7_within_3 : decode cX7_within 3 = .ok (.invokestatic 111, 3) := by decide +kernel
theorem dX7_within_6 : decode cX7_within 6 = .ok (.ifCond .eq 12, 3) := by decide +kernel
theorem dX7_within_9 : decode cX7_within 9 = .ok (.iload_n 2, 1) := by decide +kernel
theorem dX7_within_10 : decode cX7_within 10 = .ok (.iconst 0, 1) := by decide +kernel
theorem dX7_within_11 : decode cX7_within 11 = .ok (.iconst 2, 1) := by decide +kernel
theorem dX7_within_12 : decode cX7_within 12 = .ok (.invokestatic 111, 3) := by decide +kernel
theorem dX7_within_15 : decode cX7_within 15 = .ok (.ifCond .ne 5, 3) := by decide +kernel
theorem dX7_within_18 : decode cX7_within 18 = .ok (.iconst (-1), 1) := by decide +kernel
theorem dX7_within_19 : decode cX7_within 19 = .ok (.ireturn, 1) := by decide +kernel
theorem dX7_within_20 : decode cX7_within 20 = .ok (.aload_n 0, 1) := by decide +kernel
theorem dX7_within_21 : decode cX7_within 21 = .ok (.getfield 122, 3) := by decide +kernel
theorem dX7_within_24 : decode cX7_within 24 = .ok (.ifCond .ne 6, 3) := by decide +kernel
theorem dX7_within_27 : decode cX7_within 27 = .ok (.bipush (-2), 2) := by decide +kernel
theorem dX7_within_29 : decode cX7_within 29 = .ok (.ireturn, 1) := by decide +kernel
theorem dX7_within_30 : decode cX7_within 30 = .ok (.aload_n 0, 1) := by decide +kernel
theorem dX7_within_31 : decode cX7_within 31 = .ok (.getfield 145, 3) := by decide +kernel
theorem dX7_within_34 : decode cX7_within 34 = .ok (.istore_n 3, 1) := by decide +kernel
theorem dX7_within_35 : decode cX7_within 35 = .ok (.aload_n 0, 1) := by decide +kernel
theorem dX7_within_36 : decode cX7_within 36 = .ok (.aload_n 0, 1) := by decide +kernel
theorem dX7_within_37 : decode cX7_within 37 = .ok (.getfield 102, 3) := by decide +kernel
theorem dX7_within_40 : decode cX7_within 40 = .ok (.invokevirtual 336, 3) := by decide +kernel
theorem dX7_within_43 : decode cX7_within 43 = .ok (.aload_n 0, 1) := by decide +kernel
theorem dX7_within_44 : decode cX7_within 44 = .ok (.iload_n 1, 1) := by decide +kernel
theorem dX7_within_45 : decode cX7_within 45 = .ok (.iload_n 2, 1) := by decide +kernel
theorem dX7_within_46 : decode cX7_within 46 = .ok (.invokevirtual 232, 3) := by decide +kernel
theorem dX7_within_49 : decode cX7_within 49 = .ok (.aload_n 0, 1) := by decide +kernel
theorem dX7_within_50 : decode cX7_within 50 = .ok (.aload_n 0, 1) := by decide +kernel
theorem dX7_within_51 : decode cX7_within 51 = .ok (.getfield 105, 3) := by decide +kernel
theorem dX7_within_54 : decode cX7_within 54 = .ok (.invokevirtual 336, 3) := by decide +kernel
theorem dX7_within_57 : decode cX7_within 57 = .ok (.aload_n 0, 1) := by decide +kernel
theorem dX7_within_58 : decode cX7_within 58 = .ok (.iload_n 3, 1) := by decide +kernel
theorem dX7_within_59 : decode cX7_within 59 = .ok (.aload_n 0, 1) := by decide +kernel
theorem dX7_within_60 : decode cX7_within 60 = .ok (.getfield 235, 3) := by decide +kernel
theorem dX7_within_63 : decode cX7_within 63 = .ok (.invokevirtual 232, 3) := by decide +kernel
theorem dX7_within_66 : decode cX7_within 66 = .ok (.iconst 1, 1) := by decide +kernel
theorem dX7_within_67 : decode cX7_within 67 = .ok (.istore 4, 2) := by decide +kernel
theorem dX7_within_69 : decode cX7_within 69 = .ok (.iconst 0, 1) := by decide +kernel
theorem dX7_within_70 : decode cX7_within 70 = .ok (.istore 5, 2) := by decide +kernel
theorem dX7_within_72 : decode cX7_within 72 = .ok (.iload 5, 2) := by decide +kernel
theorem dX7_within_74 : decode cX7_within 74 = .ok (.sipush 144, 3) := by decide +kernel
theorem dX7_within_77 : decode cX7_within 77 = .ok (.if_icmp .ge 45, 3) := by decide +kernel
theorem dX7_within_80 : decode cX7_within 80 = .ok (.iload 4, 2) := by decide +kernel
theorem dX7_within_82 : decode cX7_within 82 = .ok (.ifCond .eq 31, 3) := by decide +kernel
theorem dX7_within_85 : decode cX7_within 85 = .ok (.aload_n 0, 1) := by decide +kernel
theorem dX7_within_86 : decode cX7_within 86 = .ok (.getfield 105, 3) := by decide +kernel
theorem dX7_within_89 : decode cX7_within 89 = .ok (.iload 5, 2) := by decide +kernel
theorem dX7_within_91 : decode cX7_within 91 = .ok (.laload, 1) := by decide +kernel
theorem dX7_within_92 : decode cX7_within 92 = .ok (.aload_n 0, 1) := by decide +kernel
theorem dX7_within_93 : decode cX7_within 93 = .ok (.getfield 102, 3) := by decide +kernel
theorem dX7_within_96 : decode cX7_within 96 = .ok (.iload 5, 2) := by decide +kernel
theorem dX7_within_98 : decode cX7_within 98 = .ok (.laload, 1) := by decide +kernel
theorem dX7_within_99 : decode cX7_within 99 = .ok (.ldc2_w 192, 3) := by decide +kernel
theorem dX7_within_102 : decode cX7_within 102 = .ok (.lxor, 1) := by decide +kernel
theorem dX7_within_103 : decode cX7_within 103 = .ok (.land, 1) := by decide +kernel
theorem dX7_within_104 : decode cX7_within 104 = .ok (.lconst 0, 1) := by decide +kernel
theorem dX7_within_105 : decode cX7_within 105 = .ok (.lcmp, 1) := by decide +kernel
theorem dX7_within_106 : decode cX7_within 106 = .ok (.ifCond .ne 7, 3) := by decide +kernel
theorem dX7_within_109 : decode cX7_within 109 = .ok (.iconst 1, 1) := by decide +kernel
theorem dX7_within_110 : decode cX7_within 110 = .ok (.goto 4, 3) := by decide +kernel
theorem dX7_within_113 : decode cX7_within 113 = .ok (.iconst 0, 1) := by decide +kernel
theorem dX7_within_114 : decode cX7_within 114 = .ok (.istore 4, 2) := by decide +kernel
theorem dX7_within_116 : decode cX7_within 116 = .ok (.iinc 5 1, 3) := by decide +kernel
theorem dX7_within_119 : decode cX7_within 119 = .ok (.goto (-47), 3) := by decide +kernel
theorem dX7_within_122 : decode cX7_within 122 = .ok (.iload 4, 2) := by decide +kernel
theorem dX7_within_124 : decode cX7_within 124 = .ok (.ifCond .eq 7, 3) := by decide +kernel
theorem dX7_within_127 : decode cX7_within 127 = .ok (.iconst 1, 1) := by decide +kernel
theorem dX7_within_128 : decode cX7_within 128 = .ok (.goto 4, 3) := by decide +kernel
theorem dX7_within_131 : decode cX7_within 131 = .ok (.iconst 0, 1) := by decide +kernel
theorem dX7_within_132 : decode cX7_within 132 = .ok (.ireturn, 1) := by decide +kernel
theorem dJ9_max_7cf53_0 : decode cJ9_max_7cf53 0 = .ok (.iload_n 0, 1) := by decide +kernel
theorem dJ9_max_7cf53_1 : decode cJ9_max_7cf53 1 = .ok (.iload_n 1, 1) := by decide +kernel
theorem dJ9_max_7cf53_2 : decode cJ9_max_7cf53 2 = .ok (.if_icmp .lt 7, 3) := by decide +kernel
theorem dJ9_max_7cf53_5 : decode cJ9_max_7cf53 5 = .ok (.iload_n 0, 1) := by decide +kernel
theorem dJ9_max_7cf53_6 : decode cJ9_max_7cf53 6 = .ok (.goto 4, 3) := by decide +kernel
theorem dJ9_max_7cf53_9 : decode cJ9_max_7cf53 9 = .ok (.iload_n 1, 1) := by decide +kernel
theorem dJ9_max_7cf53_10 : decode cJ9_max_7cf53 10 = .ok (.ireturn, 1) := by decide +kernel
theorem dJ7_fill_d0a16_0 : decode cJ7_fill_d0a16 0 = .ok (.iconst 0, 1) := by decide +kernel
theorem dJ7_fill_d0a16_1 : decode cJ7_fill_d0a16 1 = .ok (.istore_n 3, 1) := by decide +kernel
theorem dJ7_fill_d0a16_2 : decode cJ7_fill_d0a16 2 = .ok (.aload_n 0, 1) := by decide +kernel
theorem dJ7_fill_d0a16_3 : decode cJ7_fill_d0a16 3 = .ok (.arraylength, 1) := by decide +kernel
theorem dJ7_fill_d0a16_4 : decode cJ7_fill_d0a16 4 = .ok (.istore 4, 2) := by decide +kernel
theorem dJ7_fill_d0a16_6 : decode cJ7_fill_d0a16 6 = .ok (.iload_n 3, 1) := by decide +kernel
theorem dJ7_fill_d0a16_7 : decode cJ7_fill_d0a16 7 = .ok (.iload 4, 2) := by decide +kernel
theorem dJ7_fill_d0a16_9 : decode cJ7_fill_d0a16 9 = .ok (.if_icmp .ge 13, 3) := by decide +kernel
theorem dJ7_fill_d0a16_12 : decode cJ7_fill_d0a16 12 = .ok (.aload_n 0, 1) := by decide +kernel
theorem dJ7_fill_d0a16_13 : decode cJ7_fill_d0a16 13 = .ok (.iload_n 3, 1) := by decide +kernel
theorem dJ7_fill_d0a16_14 : decode cJ7_fill_d0a16 14 = .ok (.lload_n 1, 1) := by decide +kernel
theorem dJ7_fill_d0a16_15 : decode cJ7_fill_d0a16 15 = .ok (.lastore, 1) := by decide +kernel
theorem dJ7_fill_d0a16_16 : decode cJ7_fill_d0a16 16 = .ok (.iinc 3 1, 3) := by decide +kernel
theorem dJ7_fill_d0a16_19 : decode cJ7_fill_d0a16 19 = .ok (.goto (-13), 3) := by decide +kernel
theorem dJ7_fill_d0a16_22 : decode cJ7_fill_d0a16 22 = .ok (.return_, 1) := by decide +kernel
theorem dJ7_fill_53178_0 : decode cJ7_fill_53178 0 = .ok (.iconst 0, 1) := by decide +kernel
theorem dJ7_fill_53178_1 : decode cJ7_fill_53178 1 = .ok (.istore_n 2, 1) := by decide +kernel
theorem dJ7_fill_53178_2 : decode cJ7_fill_53178 2 = .ok (.aload_n 0, 1) := by decide +kernel
theorem dJ7_fill_53178_3 : decode cJ7_fill_53178 3 = .ok (.arraylength, 1) := by decide +kernel
theorem dJ7_fill_53178_4 : decode cJ7_fill_53178 4 = .ok (.istore_n 3, 1) := by decide +kernel
theorem dJ7_fill_53178_5 : decode cJ7_fill_53178 5 = .ok (.iload_n 2, 1) := by decide +kernel
theorem dJ7_fill_53178_6 : decode cJ7_fill_53178 6 = .ok (.iload_n 3, 1) := by decide +kernel
theorem dJ7_fill_53178_7 : decode cJ7_fill_53178 7 = .ok (.if_icmp .ge 13, 3) := by decide +kernel
theorem dJ7_fill_53178_10 : decode cJ7_fill_53178 10 = .ok (.aload_n 0, 1) := by decide +kernel
theorem dJ7_fill_53178_11 : decode cJ7_fill_53178 11 = .ok (.iload_n 2, 1) := by decide +kernel
theorem dJ7_fill_53178_12 : decode cJ7_fill_53178 12 = .ok (.iload_n 1, 1) := by decide +kernel
theorem dJ7_fill_53178_13 : decode cJ7_fill_53178 13 = .ok (.iastore, 1) := by decide +kernel
theorem dJ7_fill_53178_14 : decode cJ7_fill_53178 14 = .ok (.iinc 2 1, 3) := by decide +kernel
theorem dJ7_fill_53178_17 : decode cJ7_fill_53178 17 = .ok (.goto (-12), 3) := by decide +kernel
theorem dJ7_fill_53178_20 : decode cJ7_fill_53178 20 = .ok (.return_, 1) := by decide +kernel
