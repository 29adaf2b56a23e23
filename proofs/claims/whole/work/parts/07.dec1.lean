theorem dX0_init_0 : decode cX0_init 0 = .ok (.aload_n 0, 1) := by decide +kernel
theorem dX0_init_1 : decode cX0_init 1 = .ok (.invokespecial 3, 3) := by decide +kernel
theorem dX0_init_4 : decode cX0_init 4 = .ok (.aload_n 0, 1) := by decide +kernel
theorem dX0_init_5 : decode cX0_init 5 = .ok (.sipush 640, 3) := by decide +kernel
theorem dX0_init_8 : decode cX0_init 8 = .ok (.newarray .long, 2) := by decide +kernel
theorem dX0_init_10 : decode cX0_init 10 = .ok (.putfield 11, 3) := by decide +kernel
theorem dX0_init_13 : decode cX0_init 13 = .ok (.aload_n 0, 1) := by decide +kernel
theorem dX0_init_14 : decode cX0_init 14 = .ok (.sipush 300, 3) := by decide +kernel
theorem dX0_init_17 : decode cX0_init 17 = .ok (.newarray .long, 2) := by decide +kernel
theorem dX0_init_19 : decode cX0_init 19 = .ok (.putfield 15, 3) := by decide +kernel
theorem dX0_init_22 : decode cX0_init 22 = .ok (.aload_n 0, 1) := by decide +kernel
theorem dX0_init_23 : decode cX0_init 23 = .ok (.iconst 4, 1) := by decide +kernel
theorem dX0_init_24 : decode cX0_init 24 = .ok (.newarray .long, 2) := by decide +kernel
theorem dX0_init_26 : decode cX0_init 26 = .ok (.putfield 18, 3) := by decide +kernel
theorem dX0_init_29 : decode cX0_init 29 = .ok (.aload_n 0, 1) := by decide +kernel
theorem dX0_init_30 : decode cX0_init 30 = .ok (.bipush 10, 2) := by decide +kernel
theorem dX0_init_32 : decode cX0_init 32 = .ok (.newarray .long, 2) := by decide +kernel
theorem dX0_init_34 : decode cX0_init 34 = .ok (.putfield 21, 3) := by decide +kernel
theorem dX0_init_37 : decode cX0_init 37 = .ok (.aload_n 0, 1) := by decide +kernel
theorem dX0_init_38 : decode cX0_init 38 = .ok (.lconst 0, 1) := by decide +kernel
theorem dX0_init_39 : decode cX0_init 39 = .ok (.putfield 24, 3) := by decide +kernel
theorem dX0_init_42 : decode cX0_init 42 = .ok (.aload_n 0, 1) := by decide +kernel
theorem dX0_init_43 : decode cX0_init 43 = .ok (.iconst 0, 1) := by decide +kernel
theorem dX0_init_44 : decode cX0_init 44 = .ok (.putfield 28, 3) := by decide +kernel
theorem dX0_init_47 : decode cX0_init 47 = .ok (.aload_n 0, 1) := by decide +kernel
theorem dX0_init_48 : decode cX0_init 48 = .ok (.iconst 0, 1) := by decide +kernel
theorem dX0_init_49 : decode cX0_init 49 = .ok (.putfield 32, 3) := by decide +kernel
theorem dX0_init_52 : decode cX0_init 52 = .ok (.aload_n 0, 1) := by decide +kernel
theorem dX0_init_53 : decode cX0_init 53 = .ok (.bipush 80, 2) := by decide +kernel
theorem dX0_init_55 : decode cX0_init 55 = .ok (.newarray .int, 2) := by decide +kernel
theorem dX0_init_57 : decode cX0_init 57 = .ok (.putfield 36, 3) := by decide +kernel
theorem dX0_init_60 : decode cX0_init 60 = .ok (.aload_n 0, 1) := by decide +kernel
theorem dX0_init_61 : decode cX0_init 61 = .ok (.bipush 80, 2) := by decide +kernel
theorem dX0_init_63 : decode cX0_init 63 = .ok (.newarray .int, 2) := by decide +kernel
theorem dX0_init_65 : decode cX0_init 65 = .ok (.putfield 40, 3) := by decide +kernel
theorem dX0_init_68 : decode cX0_init 68 = .ok (.aload_n 0, 1) := by decide +kernel
theorem dX0_init_69 : decode cX0_init 69 = .ok (.bipush 80, 2) := by decide +kernel
theorem dX0_init_71 : decode cX0_init 71 = .ok (.newarray .boolean, 2) := by decide +kernel
theorem dX0_init_73 : decode cX0_init 73 = .ok (.putfield 43, 3) := by decide +kernel
theorem dX0_init_76 : decode cX0_init 76 = .ok (.aload_n 0, 1) := by decide +kernel
theorem dX0_init_77 : decode cX0_init 77 = .ok (.iconst 2, 1) := by decide +kernel
theorem dX0_init_78 : decode cX0_init 78 = .ok (.newarray .long, 2) := by decide +kernel
theorem dX0_init_80 : decode cX0_init 80 = .ok (.putfield 47, 3) := by decide +kernel
theorem dX0_init_83 : decode cX0_init 83 = .ok (.aload_n 0, 1) := by decide +kernel
theorem dX0_init_84 : decode cX0_init 84 = .ok (.aload_n 1, 1) := by decide +kernel
theorem dX0_init_85 : decode cX0_init 85 = .ok (.putfield 50, 3) := by decide +kernel
theorem dX0_init_88 : decode cX0_init 88 = .ok (.aload_n 0, 1) := by decide +kernel
theorem dX0_init_89 : decode cX0_init 89 = .ok (.new 54, 3) := by decide +kernel
theorem dX0_init_92 : decode cX0_init 92 = .ok (.dup, 1) := by decide +kernel
theorem dX0_init_93 : decode cX0_init 93 = .ok (.invokespecial 56, 3) := by decide +kernel
theorem dX0_init_96 : decode cX0_init 96 = .ok (.putfield 57, 3) := by decide +kernel
theorem dX0_init_99 : decode cX0_init 99 = .ok (.return_, 1) := by decide +kernel
theorem dX0_find_0 : decode cX0_find 0 = .ok (.iload_n 3, 1) := by decide +kernel
theorem dX0_find_1 : decode cX0_find 1 = .ok (.istore 4, 2) := by decide +kernel
theorem dX0_find_3 : decode cX0_find 3 = .ok (.iload 4, 2) := by decide +kernel
theorem dX0_find_5 : decode cX0_find 5 = .ok (.ifCond .lt 30, 3) := by decide +kernel
theorem dX0_find_8 : decode cX0_find 8 = .ok (.aload_n 0, 1) := by decide +kernel
theorem dX0_find_9 : decode cX0_find 9 = .ok (.iload_n 1, 1) := by decide +kernel
theorem dX0_find_10 : decode cX0_find 10 = .ok (.iload_n 2, 1) := by decide +kernel
theorem dX0_find_11 : decode cX0_find 11 = .ok (.iload 4, 2) := by decide +kernel
theorem dX0_find_13 : decode cX0_find 13 = .ok (.invokevirtual 61, 3) := by decide +kernel
theorem dX0_find_16 : decode cX0_find 16 = .ok (.aload_n 0, 1) := by decide +kernel
theorem dX0_find_17 : decode cX0_find 17 = .ok (.getfield 57, 3) := by decide +kernel
theorem dX0_find_20 : decode cX0_find 20 = .ok (.getfield 65, 3) := by decide +kernel
theorem dX0_find_23 : decode cX0_find 23 = .ok (.ifCond .ne 6, 3) := by decide +kernel
theorem dX0_find_26 : decode cX0_find 26 = .ok (.goto 9, 3) := by decide +kernel
theorem dX0_find_29 : decode cX0_find 29 = .ok (.iinc 4 (-1), 3) := by decide +kernel
theorem dX0_find_32 : decode cX0_find 32 = .ok (.goto (-29), 3) := by decide +kernel
theorem dX0_find_35 : decode cX0_find 35 = .ok (.aload_n 0, 1) := by decide +kernel
theorem dX0_find_36 : decode cX0_find 36 = .ok (.invokevirtual 68, 3) := by decide +kernel
theorem dX0_find_39 : decode cX0_find 39 = .ok (.aload_n 0, 1) := by decide +kernel
theorem dX0_find_40 : decode cX0_find 40 = .ok (.getfield 57, 3) := by decide +kernel
theorem dX0_find_43 : decode cX0_find 43 = .ok (.getfield 71, 3) := by decide +kernel
theorem dX0_find_46 : decode cX0_find 46 = .ok (.ireturn, 1) := by decide +kernel
theorem dX0_attempt_0 : decode cX0_attempt 0 = .ok (.aload_n 0, 1) := by decide +kernel
theorem dX0_attempt_1 : decode cX0_attempt 1 = .ok (.getfield 57, 3) := by decide +kernel
theorem dX0_attempt_4 : decode cX0_attempt 4 = .ok (.iload_n 2, 1) := by decide +kernel
theorem dX0_attempt_5 : decode cX0_attempt 5 = .ok (.iload_n 3, 1) := by decide +kernel
theorem dX0_attempt_6 : decode cX0_attempt 6 = .ok (.invokevirtual 74, 3) := by decide +kernel
theorem dX0_attempt_9 : decode cX0_attempt 9 = .ok (.aload_n 0, 1) := by decide +kernel
theorem dX0_attempt_10 : decode cX0_attempt 10 = .ok (.getfield 18, 3) := by decide +kernel
theorem dX0_attempt_13 : decode cX0_attempt 13 = .ok (.lconst 0, 1) := by decide +kernel
theorem dX0_attempt_14 : decode cX0_attempt 14 = .ok (.invokestatic 78, 3) := by decide +kernel
theorem dX0_attempt_17 : decode cX0_attempt 17 = .ok (.aload_n 0, 1) := by decide +kernel
theorem dX0_attempt_18 : decode cX0_attempt 18 = .ok (.getfield 21, 3) := by decide +kernel
theorem dX0_attempt_21 : decode cX0_attempt 21 = .ok (.lconst 0, 1) := by decide +kernel
theorem dX0_attempt_22 : decode cX0_attempt 22 = .ok (.invokestatic 78, 3) := by decide +kernel
theorem dX0_attempt_25 : decode cX0_attempt 25 = .ok (.aload_n 0, 1) := by decide +kernel
theorem dX0_attempt_26 : decode cX0_attempt 26 = .ok (.lconst 0, 1) := by decide +kernel
theorem dX0_attempt_27 : decode cX0_attempt 27 = .ok (.putfield 24, 3) := by decide +kernel
theorem dX0_attempt_30 : decode cX0_attempt 30 = .ok (.aload_n 0, 1) := by decide +kernel
theorem dX0_attempt_31 : decode cX0_attempt 31 = .ok (.iconst 0, 1) := by decide +kernel
theorem dX0_attempt_32 : decode cX0_attempt 32 = .ok (.putfield 32, 3) := by decide +kernel
theorem dX0_attempt_35 : decode cX0_attempt 35 = .ok (.aload_n 0, 1) := by decide +kernel
theorem dX0_attempt_36 : decode cX0_attempt 36 = .ok (.iload_n 1, 1) := by decide +kernel
theorem dX0_attempt_37 : decode cX0_attempt 37 = .ok (.iconst 0, 1) := by decide +kernel
theorem dX0_attempt_38 : decode cX0_attempt 38 = .ok (.invokevirtual 84, 3) := by decide +kernel
theorem dX0_attempt_41 : decode cX0_attempt 41 = .ok (.pop, 1) := by decide +kernel
theorem dX0_attempt_42 : decode cX0_attempt 42 = .ok (.aload_n 0, 1) := by decide +kernel
theorem dX0_attempt_43 : decode cX0_attempt 43 = .ok (.iconst 1, 1) := by decide +kernel
theorem dX0_attempt_44 : decode cX0_attempt 44 = .ok (.putfield 28, 3) := by decide +kernel
theorem dX0_attempt_47 : decode cX0_attempt 47 = .ok (.aload_n 0, 1) := by decide +kernel
theorem dX0_attempt_48 : decode cX0_attempt 48 = .ok (.getfield 28, 3) := by decide +kernel
theorem dX0_attempt_51 : decode cX0_attempt 51 = .ok (.ifCond .eq 124, 3) := by decide +kernel
theorem dX0_attempt_54 : decode cX0_attempt 54 = .ok (.aload_n 0, 1) := by decide +kernel
theorem dX0_attempt_55 : decode cX0_attempt 55 = .ok (.getfield 57, 3) := by decide +kernel
theorem dX0_attempt_58 : decode cX0_attempt 58 = .ok (.getfield 65, 3) := by decide +kernel
theorem dX0_attempt_61 : decode cX0_attempt 61 = .ok (.ifCond .ne 114, 3) := by decide +kernel
theorem dX0_attempt_64 : decode cX0_attempt 64 = .ok (.aload_n 0, 1) := by decide +kernel
theorem dX0_attempt_65 : decode cX0_attempt 65 = .ok (.getfield 32, 3) := by decide +kernel
theorem dX0_attempt_68 : decode cX0_attempt 68 = .ok (.ldc 88, 2) := by decide +kernel
theorem dX0_attempt_70 : decode cX0_attempt 70 = .ok (.if_icmp .ge 105, 3) := by decide +kernel
theorem dX0_attempt_73 : decode cX0_attempt 73 = .ok (.aload_n 0, 1) := by decide +kernel
theorem dX0_attempt_74 : decode cX0_attempt 74 = .ok (.iconst 0, 1) := by decide +kernel
theorem dX0_attempt_75 : decode cX0_attempt 75 = .ok (.putfield 28, 3) := by decide +kernel
theorem dX0_attempt_78 : decode cX0_attempt 78 = .ok (.aload_n 0, 1) := by decide +kernel
theorem dX0_attempt_79 : decode cX0_attempt 79 = .ok (.dup, 1) := by decide +kernel
theorem dX0_attempt_80 : decode cX0_attempt 80 = .ok (.getfield 32, 3) := by decide +kernel
theorem dX0_attempt_83 : decode cX0_attempt 83 = .ok (.iconst 1, 1) := by decide +kernel
theorem dX0_attempt_84 : decode cX0_attempt 84 = .ok (.iadd, 1) := by decide +kernel
theorem dX0_attempt_85 : decode cX0_attempt 85 = .ok (.putfield 32, 3) := by decide +kernel
theorem dX0_attempt_88 : decode cX0_attempt 88 = .ok (.iconst 0, 1) := by decide +kernel
theorem dX0_attempt_89 : decode cX0_attempt 89 = .ok (.istore 4, 2) := by decide +kernel
theorem dX0_attempt_91 : decode cX0_attempt 91 = .ok (.iload 4, 2) := by decide +kernel
theorem dX0_attempt_93 : decode cX0_attempt 93 = .ok (.aload_n 0, 1) := by decide +kernel
theorem dX0_attempt_94 : decode cX0_attempt 94 = .ok (.getfield 57, 3) := by decide +kernel
theorem dX0_attempt_97 : decode cX0_attempt 97 = .ok (.getfield 89, 3) := by decide +kernel
theorem dX0_attempt_100 : decode cX0_attempt 100 = .ok (.if_icmp .ge 72, 3) := by decide +kernel
theorem dX0_attempt_103 : decode cX0_attempt 103 = .ok (.aload_n 0, 1) := by decide +kernel
theorem dX0_attempt_104 : decode cX0_attempt 104 = .ok (.getfield 57, 3) := by decide +kernel
theorem dX0_attempt_107 : decode cX0_attempt 107 = .ok (.getfield 92, 3) := by decide +kernel
theorem dX0_attempt_110 : decode cX0_attempt 110 = .ok (.iload 4, 2) := by decide +kernel
theorem dX0_attempt_112 : decode cX0_attempt 112 = .ok (.iaload, 1) := by decide +kernel
theorem dX0_attempt_113 : decode cX0_attempt 113 = .ok (.istore 5, 2) := by decide +kernel
theorem dX0_attempt_115 : decode cX0_attempt 115 = .ok (.iconst 0, 1) := by decide +kernel
theorem dX0_attempt_116 : decode cX0_attempt 116 = .ok (.istore 6, 2) := by decide +kernel
theorem dX0_attempt_118 : decode cX0_attempt 118 = .ok (.iload 6, 2) := by decide +kernel
theorem dX0_attempt_120 : decode cX0_attempt 120 = .ok (.aload_n 0, 1) := by decide +kernel
theorem dX0_attempt_121 : decode cX0_attempt 121 = .ok (.getfield 50, 3) := by decide +kernel
theorem dX0_attempt_124 : decode cX0_attempt 124 = .ok (.getfield 95, 3) := by decide +kernel
theorem dX0_attempt_127 : decode cX0_attempt 127 = .ok (.iload 5, 2) := by decide +kernel
theorem dX0_attempt_129 : decode cX0_attempt 129 = .ok (.iaload, 1) := by decide +kernel
theorem dX0_attempt_130 : decode cX0_attempt 130 = .ok (.if_icmp .ge 36, 3) := by decide +kernel
theorem dX0_attempt_133 : decode cX0_attempt 133 = .ok (.aload_n 0, 1) := by decide +kernel
theorem dX0_attempt_134 : decode cX0_attempt 134 = .ok (.getfield 57, 3) := by decide +kernel
theorem dX0_attempt_137 : decode cX0_attempt 137 = .ok (.getfield 65, 3) := by decide +kernel
theorem dX0_attempt_140 : decode cX0_attempt 140 = .ok (.ifCond .ne 26, 3) := by decide +kernel
theorem dX0_attempt_143 : decode cX0_attempt 143 = .ok (.aload_n 0, 1) := by decide +kernel
theorem dX0_attempt_144 : decode cX0_attempt 144 = .ok (.iload 4, 2) := by decide +kernel
theorem dX0_attempt_146 : decode cX0_attempt 146 = .ok (.aload_n 0, 1) := by decide +kernel
theorem dX0_attempt_147 : decode cX0_attempt 147 = .ok (.getfield 50, 3) := by decide +kernel
theorem dX0_attempt_150 : decode cX0_attempt 150 = .ok (.iload 5, 2) := by decide +kernel
theorem dX0_attempt_152 : decode cX0_attempt 152 = .ok (.iload 6, 2) := by decide +kernel
theorem dX0_attempt_154 : decode cX0_attempt 154 = .ok (.invokevirtual 100, 3) := by decide +kernel
theorem dX0_attempt_157 : decode cX0_attempt 157 = .ok (.invokevirtual 103, 3) := by decide +kernel
theorem dX0_attempt_160 : decode cX0_attempt 160 = .ok (.iinc 6 1, 3) := by decide +kernel
theorem dX0_attempt_163 : decode cX0_attempt 163 = .ok (.goto (-45), 3) := by decide +kernel
theorem dX0_attempt_166 : decode cX0_attempt 166 = .ok (.iinc 4 1, 3) := by decide +kernel
theorem dX0_attempt_169 : decode cX0_attempt 169 = .ok (.goto (-78), 3) := by decide +kernel
theorem dX0_attempt_172 : decode cX0_attempt 172 = .ok (.goto (-125), 3) := by decide +kernel
theorem dX0_attempt_175 : decode cX0_attempt 175 = .ok (.return_, 1) := by decide +kernel
theorem dX0_doStep_0 : decode cX0_doStep 0 = .ok (.aload_n 0, 1) := by decide +kernel
theorem dX0_doStep_1 : decode cX0_doStep 1 = .ok (.getfield 50, 3) := by decide +kernel
theorem dX0_doStep_4 : decode cX0_doStep 4 = .ok (.getfield 106, 3) := by decide +kernel
theorem dX0_doStep_7 : decode cX0_doStep 7 = .ok (.iload_n 2, 1) := by decide +kernel
theorem dX0_doStep_8 : decode cX0_doStep 8 = .ok (.iaload, 1) := by decide +kernel
theorem dX0_doStep_9 : decode cX0_doStep 9 = .ok (.istore_n 3, 1) := by decide +kernel
theorem dX0_doStep_10 : decode cX0_doStep 10 = .ok (.aload_n 0, 1) := by decide +kernel
theorem dX0_doStep_11 : decode cX0_doStep 11 = .ok (.getfield 50, 3) := by decide +kernel
theorem dX0_doStep_14 : decode cX0_doStep 14 = .ok (.getfield 109, 3) := by decide +kernel
theorem dX0_doStep_17 : decode cX0_doStep 17 = .ok (.iload_n 2, 1) := by decide +kernel
theorem dX0_doStep_18 : decode cX0_doStep 18 = .ok (.iaload, 1) := by decide +kernel
theorem dX0_doStep_19 : decode cX0_doStep 19 = .ok (.istore 4, 2) := by decide +kernel
theorem dX0_doStep_21 : decode cX0_doStep 21 = .ok (.aload_n 0, 1) := by decide +kernel
theorem dX0_doStep_22 : decode cX0_doStep 22 = .ok (.getfield 50, 3) := by decide +kernel
theorem dX0_doStep_25 : decode cX0_doStep 25 = .ok (.getfield 112, 3) := by decide +kernel
theorem dX0_doStep_28 : decode cX0_doStep 28 = .ok (.iload_n 2, 1) := by decide +kernel
theorem dX0_doStep_29 : decode cX0_doStep 29 = .ok (.iaload, 1) := by decide +kernel
theorem dX0_doStep_30 : decode cX0_doStep 30 = .ok (.istore 5, 2) := by decide +kernel
theorem dX0_doStep_32 : decode cX0_doStep 32 = .ok (.aload_n 0, 1) := by decide +kernel
theorem dX0_doStep_33 : decode cX0_doStep 33 = .ok (.getfield 50, 3) := by decide +kernel
theorem dX0_doStep_36 : decode cX0_doStep 36 = .ok (.getfield 115, 3) := by decide +kernel
theorem dX0_doStep_39 : decode cX0_doStep 39 = .ok (.iload_n 2, 1) := by decide +kernel
theorem dX0_doStep_40 : decode cX0_doStep 40 = .ok (.iaload, 1) := by decide +kernel
theorem dX0_doStep_41 : decode cX0_doStep 41 = .ok (.tableswitch 327 0 15 #[79, 79, 94, 327, 110, 141, 172, 198, 223, 247, 256, 265, 327, 281, 296, 312], 79) := by decide +kernel
theorem dX0_doStep_120 : decode cX0_doStep 120 = .ok (.aload_n 0, 1) := by decide +kernel
theorem dX0_doStep_121 : decode cX0_doStep 121 = .ok (.iload_n 1, 1) := by decide +kernel
theorem dX0_doStep_122 : decode cX0_doStep 122 = .ok (.iload_n 3, 1) := by decide +kernel
theorem dX0_doStep_123 : decode cX0_doStep 123 = .ok (.aload_n 0, 1) := by decide +kernel
theorem dX0_doStep_124 : decode cX0_doStep 124 = .ok (.iload_n 1, 1) := by decide +kernel
theorem dX0_doStep_125 : decode cX0_doStep 125 = .ok (.iload_n 2, 1) := by decide +kernel
theorem dX0_doStep_126 : decode cX0_doStep 126 = .ok (.invokevirtual 118, 3) := by decide +kernel
theorem dX0_doStep_129 : decode cX0_doStep 129 = .ok (.invokevirtual 122, 3) := by decide +kernel
theorem dX0_doStep_132 : decode cX0_doStep 132 = .ok (.goto 236, 3) := by decide +kernel
theorem dX0_doStep_135 : decode cX0_doStep 135 = .ok (.aload_n 0, 1) := by decide +kernel
theorem dX0_doStep_136 : decode cX0_doStep 136 = .ok (.iload_n 1, 1) := by decide +kernel
theorem dX0_doStep_137 : decode cX0_doStep 137 = .ok (.iload_n 3, 1) := by decide +kernel
theorem dX0_doStep_138 : decode cX0_doStep 138 = .ok (.aload_n 0, 1) := by decide +kernel
theorem dX0_doStep_139 : decode cX0_doStep 139 = .ok (.iload_n 1, 1) := by decide +kernel
theorem dX0_doStep_140 : decode cX0_doStep 140 = .ok (.iload 4, 2) := by decide +kernel
theorem dX0_doStep_142 : decode cX0_doStep 142 = .ok (.invokevirtual 126, 3) := by decide +kernel
theorem dX0_doStep_145 : decode cX0_doStep 145 = .ok (.invokevirtual 122, 3) := by decide +kernel
theorem dX0_doStep_148 : decode cX0_doStep 148 = .ok (.goto 220, 3) := by decide +kernel
theorem dX0_doStep_151 : decode cX0_doStep 151 = .ok (.aload_n 0, 1) := by decide +kernel
theorem dX0_doStep_152 : decode cX0_doStep 152 = .ok (.iload_n 1, 1) := by decide +kernel
theorem dX0_doStep_153 : decode cX0_doStep 153 = .ok (.iload_n 3, 1) := by decide +kernel
theorem dX0_doStep_154 : decode cX0_doStep 154 = .ok (.aload_n 0, 1) := by decide +kernel
theorem dX0_doStep_155 : decode cX0_doStep 155 = .ok (.aload_n 0, 1) := by decide +kernel
theorem dX0_doStep_156 : decode cX0_doStep 156 = .ok (.iload_n 1, 1) := by decide +kernel
theorem dX0_doStep_157 : decode cX0_doStep 157 = .ok (.iload 4, 2) := by decide +kernel
theorem dX0_doStep_159 : decode cX0_doStep 159 = .ok (.invokevirtual 126, 3) := by decide +kernel
theorem dX0_doStep_162 : decode cX0_doStep 162 = .ok (.aload_n 0, 1) := by decide +kernel
theorem dX0_doStep_163 : decode cX0_doStep 163 = .ok (.getfield 24, 3) := by decide +kernel
theorem dX0_doStep_166 : decode cX0_doStep 166 = .ok (.ldc2_w 129, 3) := by decide +kernel
theorem dX0_doStep_169 : decode cX0_doStep 169 = .ok (.lxor, 1) := by decide +kernel
theorem dX0_doStep_170 : decode cX0_doStep 170 = .ok (.land, 1) := by decide +kernel
theorem dX0_doStep_171 : decode cX0_doStep 171 = .ok (.iload 5, 2) := by decide +kernel
theorem dX0_doStep_173 : decode cX0_doStep 173 = .ok (.invokevirtual 131, 3) := by decide +kernel
theorem dX0_doStep_176 : decode cX0_doStep 176 = .ok (.invokevirtual 122, 3) := by decide +kernel
theorem dX0_doStep_179 : decode cX0_doStep 179 = .ok (.goto 189, 3) := by decide +kernel
theorem dX0_doStep_182 : decode cX0_doStep 182 = .ok (.aload_n 0, 1) := by decide +kernel
theorem dX0_doStep_183 : decode cX0_doStep 183 = .ok (.aload_n 0, 1) := by decide +kernel
theorem dX0_doStep_184 : decode cX0_doStep 184 = .ok (.iload_n 1, 1) := by decide +kernel
theorem dX0_doStep_185 : decode cX0_doStep 185 = .ok (.iload_n 3, 1) := by decide +kernel
theorem dX0_doStep_186 : decode cX0_doStep 186 = .ok (.invokevirtual 126, 3) := by decide +kernel
theorem dX0_doStep_189 : decode cX0_doStep 189 = .ok (.aload_n 0, 1) := by decide +kernel
theorem dX0_doStep_190 : decode cX0_doStep 190 = .ok (.getfield 24, 3) := by decide +kernel
theorem dX0_doStep_193 : decode cX0_doStep 193 = .ok (.ldc2_w 129, 3) := by decide +kernel
theorem dX0_doStep_196 : decode cX0_doStep 196 = .ok (.lxor, 1) := by decide +kernel
theorem dX0_doStep_197 : decode cX0_doStep 197 = .ok (.land, 1) := by decide +kernel
theorem dX0_doStep_198 : decode cX0_doStep 198 = .ok (.iload 5, 2) := by decide +kernel
theorem dX0_doStep_200 : decode cX0_doStep 200 = .ok (.aload_n 0, 1) := by decide +kernel
theorem dX0_doStep_201 : decode cX0_doStep 201 = .ok (.iload_n 1, 1) := by decide +kernel
theorem dX0_doStep_202 : decode cX0_doStep 202 = .ok (.iload 4, 2) := by decide +kernel
theorem dX0_doStep_204 : decode cX0_doStep 204 = .ok (.invokevirtual 126, 3) := by decide +kernel
theorem dX0_doStep_207 : decode cX0_doStep 207 = .ok (.invokevirtual 135, 3) := by decide +kernel
theorem dX0_doStep_210 : decode cX0_doStep 210 = .ok (.goto 158, 3) := by decide +kernel
theorem dX0_doStep_213 : decode cX0_doStep 213 = .ok (.aload_n 0, 1) := by decide +kernel
theorem dX0_doStep_214 : decode cX0_doStep 214 = .ok (.iload_n 1, 1) := by decide +kernel
theorem dX0_doStep_215 : decode cX0_doStep 215 = .ok (.iload_n 3, 1) := by decide +kernel
theorem dX0_doStep_216 : decode cX0_doStep 216 = .ok (.aload_n 0, 1) := by decide +kernel
theorem dX0_doStep_217 : decode cX0_doStep 217 = .ok (.aload_n 0, 1) := by decide +kernel
theorem dX0_doStep_218 : decode cX0_doStep 218 = .ok (.iload_n 1, 1) := by decide +kernel
theorem dX0_doStep_219 : decode cX0_doStep 219 = .ok (.iload 4, 2) := by decide +kernel
theorem dX0_doStep_221 : decode cX0_doStep 221 = .ok (.invokevirtual 126, 3) := by decide +kernel
theorem dX0_doStep_224 : decode cX0_doStep 224 = .ok (.aload_n 0, 1) := by decide +kernel
theorem dX0_doStep_225 : decode cX0_doStep 225 = .ok (.getfield 24, 3) := by decide +kernel
theorem dX0_doStep_228 : decode cX0_doStep 228 = .ok (.land, 1) := by decide +kernel
theorem dX0_doStep_229 : decode cX0_doStep 229 = .ok (.iconst 4, 1) := by decide +kernel
theorem dX0_doStep_230 : decode cX0_doStep 230 = .ok (.invokevirtual 131, 3) := by decide +kernel
theorem dX0_doStep_233 : decode cX0_doStep 233 = .ok (.invokevirtual 122, 3) := by decide +kernel
theorem dX0_doStep_236 : decode cX0_doStep 236 = .ok (.goto 132, 3) := by decide +kernel
theorem dX0_doStep_239 : decode cX0_doStep 239 = .ok (.aload_n 0, 1) := by decide +kernel
theorem dX0_doStep_240 : decode cX0_doStep 240 = .ok (.aload_n 0, 1) := by decide +kernel
theorem dX0_doStep_241 : decode cX0_doStep 241 = .ok (.iload_n 1, 1) := by decide +kernel
theorem dX0_doStep_242 : decode cX0_doStep 242 = .ok (.iload_n 3, 1) := by decide +kernel
theorem dX0_doStep_243 : decode cX0_doStep 243 = .ok (.invokevirtual 126, 3) := by decide +kernel
theorem dX0_doStep_246 : decode cX0_doStep 246 = .ok (.aload_n 0, 1) := by decide +kernel
theorem dX0_doStep_247 : decode cX0_doStep 247 = .ok (.getfield 24, 3) := by decide +kernel
theorem dX0_doStep_250 : decode cX0_doStep 250 = .ok (.land, 1) := by decide +kernel
theorem dX0_doStep_251 : decode cX0_doStep 251 = .ok (.aload_n 0, 1) := by decide +kernel
theorem dX0_doStep_252 : decode cX0_doStep 252 = .ok (.iload_n 1, 1) := by decide +kernel
theorem dX0_doStep_253 : decode cX0_doStep 253 = .ok (.iload 4, 2) := by decide +kernel
theorem dX0_doStep_255 : decode cX0_doStep 255 = .ok (.invokevirtual 126, 3) := by decide +kernel
theorem dX0_doStep_258 : decode cX0_doStep 258 = .ok (.invokevirtual 139, 3) := by decide +kernel
theorem dX0_doStep_261 : decode cX0_doStep 261 = .ok (.goto 107, 3) := by decide +kernel
theorem dX0_doStep_264 : decode cX0_doStep 264 = .ok (.aload_n 0, 1) := by decide +kernel
theorem dX0_doStep_265 : decode cX0_doStep 265 = .ok (.iload_n 1, 1) := by decide +kernel
theorem dX0_doStep_266 : decode cX0_doStep 266 = .ok (.iload_n 3, 1) := by decide +kernel
theorem dX0_doStep_267 : decode cX0_doStep 267 = .ok (.aload_n 0, 1) := by decide +kernel
theorem dX0_doStep_268 : decode cX0_doStep 268 = .ok (.iload_n 1, 1) := by decide +kernel
theorem dX0_doStep_269 : decode cX0_doStep 269 = .ok (.iload 4, 2) := by decide +kernel
theorem dX0_doStep_271 : decode cX0_doStep 271 = .ok (.invokevirtual 126, 3) := by decide +kernel
theorem dX0_doStep_274 : decode cX0_doStep 274 = .ok (.aload_n 0, 1) := by decide +kernel
theorem dX0_doStep_275 : decode cX0_doStep 275 = .ok (.getfield 21, 3) := by decide +kernel
theorem dX0_doStep_278 : decode cX0_doStep 278 = .ok (.iload 5, 2) := by decide +kernel
theorem dX0_doStep_280 : decode cX0_doStep 280 = .ok (.laload, 1) := by decide +kernel
theorem dX0_doStep_281 : decode cX0_doStep 281 = .ok (.land, 1) := by decide +kernel
theorem dX0_doStep_282 : decode cX0_doStep 282 = .ok (.invokevirtual 122, 3) := by decide +kernel
theorem dX0_doStep_285 : decode cX0_doStep 285 = .ok (.goto 83, 3) := by decide +kernel
theorem dX0_doStep_288 : decode cX0_doStep 288 = .ok (.aload_n 0, 1) := by decide +kernel
theorem dX0_doStep_289 : decode cX0_doStep 289 = .ok (.iload_n 1, 1) := by decide +kernel
theorem dX0_doStep_290 : decode cX0_doStep 290 = .ok (.iload_n 2, 1) := by decide +kernel
theorem dX0_doStep_291 : decode cX0_doStep 291 = .ok (.invokevirtual 143, 3) := by decide +kernel
theorem dX0_doStep_294 : decode cX0_doStep 294 = .ok (.goto 74, 3) := by decide +kernel
theorem dX0_doStep_297 : decode cX0_doStep 297 = .ok (.aload_n 0, 1) := by decide +kernel
theorem dX0_doStep_298 : decode cX0_doStep 298 = .ok (.iload_n 1, 1) := by decide +kernel
theorem dX0_doStep_299 : decode cX0_doStep 299 = .ok (.iload_n 2, 1) := by decide +kernel
theorem dX0_doStep_300 : decode cX0_doStep 300 = .ok (.invokevirtual 146, 3) := by decide +kernel
theorem dX0_doStep_303 : decode cX0_doStep 303 = .ok (.goto 65, 3) := by decide +kernel
theorem dX0_doStep_306 : decode cX0_doStep 306 = .ok (.aload_n 0, 1) := by decide +kernel
theorem dX0_doStep_307 : decode cX0_doStep 307 = .ok (.iload_n 1, 1) := by decide +kernel
theorem dX0_doStep_308 : decode cX0_doStep 308 = .ok (.bipush 6, 2) := by decide +kernel
theorem dX0_doStep_310 : decode cX0_doStep 310 = .ok (.aload_n 0, 1) := by decide +kernel
theorem dX0_doStep_311 : decode cX0_doStep 311 = .ok (.iload_n 1, 1) := by decide +kernel
theorem dX0_doStep_312 : decode cX0_doStep 312 = .ok (.iload_n 3, 1) := by decide +kernel
theorem dX0_doStep_313 : decode cX0_doStep 313 = .ok (.invokevirtual 126, 3) := by decide +kernel
theorem dX0_doStep_316 : decode cX0_doStep 316 = .ok (.invokevirtual 122, 3) := by decide +kernel
theorem dX0_doStep_319 : decode cX0_doStep 319 = .ok (.goto 49, 3) := by decide +kernel
theorem dX0_doStep_322 : decode cX0_doStep 322 = .ok (.aload_n 0, 1) := by decide +kernel
theorem dX0_doStep_323 : decode cX0_doStep 323 = .ok (.iload 5, 2) := by decide +kernel
theorem dX0_doStep_325 : decode cX0_doStep 325 = .ok (.aload_n 0, 1) := by decide +kernel
theorem dX0_doStep_326 : decode cX0_doStep 326 = .ok (.iload_n 1, 1) := by decide +kernel
theorem dX0_doStep_327 : decode cX0_doStep 327 = .ok (.iload_n 3, 1) := by decide +kernel
theorem dX0_doStep_328 : decode cX0_doStep 328 = .ok (.invokevirtual 126, 3) := by decide +kernel
theorem dX0_doStep_331 : decode cX0_doStep 331 = .ok (.invokevirtual 149, 3) := by decide +kernel
theorem dX0_doStep_334 : decode cX0_doStep 334 = .ok (.goto 34, 3) := by decide +kernel
theorem dX0_doStep_337 : decode cX0_doStep 337 = .ok (.aload_n 0, 1) := by decide +kernel
theorem dX0_doStep_338 : decode cX0_doStep 338 = .ok (.iload_n 1, 1) := by decide +kernel
theorem dX0_doStep_339 : decode cX0_doStep 339 = .ok (.iload_n 3, 1) := by decide +kernel
theorem dX0_doStep_340 : decode cX0_doStep 340 = .ok (.aload_n 0, 1) := by decide +kernel
theorem dX0_doStep_341 : decode cX0_doStep 341 = .ok (.getfield 18, 3) := by decide +kernel
theorem dX0_doStep_344 : decode cX0_doStep 344 = .ok (.iload 5, 2) := by decide +kernel
theorem dX0_doStep_346 : decode cX0_doStep 346 = .ok (.laload, 1) := by decide +kernel
theorem dX0_doStep_347 : decode cX0_doStep 347 = .ok (.invokevirtual 122, 3) := by decide +kernel
theorem dX0_doStep_350 : decode cX0_doStep 350 = .ok (.goto 18, 3) := by decide +kernel
theorem dX0_doStep_353 : decode cX0_doStep 353 = .ok (.aload_n 0, 1) := by decide +kernel
theorem dX0_doStep_354 : decode cX0_doStep 354 = .ok (.iload_n 1, 1) := by decide +kernel
theorem dX0_doStep_355 : decode cX0_doStep 355 = .ok (.iload_n 2, 1) := by decide +kernel
theorem dX0_doStep_356 : decode cX0_doStep 356 = .ok (.aload_n 0, 1) := by decide +kernel
theorem dX0_doStep_357 : decode cX0_doStep 357 = .ok (.iload_n 1, 1) := by decide +kernel
theorem dX0_doStep_358 : decode cX0_doStep 358 = .ok (.iload_n 3, 1) := by decide +kernel
theorem dX0_doStep_359 : decode cX0_doStep 359 = .ok (.invokevirtual 126, 3) := by decide +kernel
theorem dX0_doStep_362 : decode cX0_doStep 362 = .ok (.invokevirtual 153, 3) := by decide +kernel
theorem dX0_doStep_365 : decode cX0_doStep 365 = .ok (.goto 3, 3) := by decide +kernel
theorem dX0_doStep_368 : decode cX0_doStep 368 = .ok (.return_, 1) := by decide +kernel
theorem dX0_doAsk_0 : decode cX0_doAsk 0 = .ok (.aload_n 0, 1) := by decide +kernel
theorem dX0_doAsk_1 : decode cX0_doAsk 1 = .ok (.iload_n 1, 1) := by decide +kernel
theorem dX0_doAsk_2 : decode cX0_doAsk 2 = .ok (.aload_n 0, 1) := by decide +kernel
theorem dX0_doAsk_3 : decode cX0_doAsk 3 = .ok (.getfield 50, 3) := by decide +kernel
theorem dX0_doAsk_6 : decode cX0_doAsk 6 = .ok (.getfield 109, 3) := by decide +kernel
theorem dX0_doAsk_9 : decode cX0_doAsk 9 = .ok (.iload_n 2, 1) := by decide +kernel
theorem dX0_doAsk_10 : decode cX0_doAsk 10 = .ok (.iaload, 1) := by decide +kernel
theorem dX0_doAsk_11 : decode cX0_doAsk 11 = .ok (.invokevirtual 126, 3) := by decide +kernel
theorem dX0_doAsk_14 : decode cX0_doAsk 14 = .ok (.lstore_n 3, 1) := by decide +kernel
theorem dX0_doAsk_15 : decode cX0_doAsk 15 = .ok (.iconst 0, 1) := by decide +kernel
theorem dX0_doAsk_16 : decode cX0_doAsk 16 = .ok (.istore 5, 2) := by decide +kernel
theorem dX0_doAsk_18 : decode cX0_doAsk 18 = .ok (.iload 5, 2) := by decide +kernel
theorem dX0_doAsk_20 : decode cX0_doAsk 20 = .ok (.aload_n 0, 1) := by decide +kernel
theorem dX0_doAsk_21 : decode cX0_doAsk 21 = .ok (.getfield 57, 3) := by decide +kernel
theorem dX0_doAsk_24 : decode cX0_doAsk 24 = .ok (.getfield 156, 3) := by decide +kernel
theorem dX0_doAsk_27 : decode cX0_doAsk 27 = .ok (.if_icmp .ge 74, 3) := by decide +kernel
theorem dX0_doAsk_30 : decode cX0_doAsk 30 = .ok (.lload_n 3, 1) := by decide +kernel
theorem dX0_doAsk_31 : decode cX0_doAsk 31 = .ok (.iload 5, 2) := by decide +kernel
theorem dX0_doAsk_33 : decode cX0_doAsk 33 = .ok (.lshr, 1) := by decide +kernel
theorem dX0_doAsk_34 : decode cX0_doAsk 34 = .ok (.lconst 0, 1) := by decide +kernel
theorem dX0_doAsk_35 : decode cX0_doAsk 35 = .ok (.lcmp, 1) := by decide +kernel
theorem dX0_doAsk_36 : decode cX0_doAsk 36 = .ok (.ifCond .eq 65, 3) := by decide +kernel
theorem dX0_doAsk_39 : decode cX0_doAsk 39 = .ok (.lload_n 3, 1) := by decide +kernel
theorem dX0_doAsk_40 : decode cX0_doAsk 40 = .ok (.iload 5, 2) := by decide +kernel
theorem dX0_doAsk_42 : decode cX0_doAsk 42 = .ok (.lshr, 1) := by decide +kernel
theorem dX0_doAsk_43 : decode cX0_doAsk 43 = .ok (.lconst 1, 1) := by decide +kernel
theorem dX0_doAsk_44 : decode cX0_doAsk 44 = .ok (.land, 1) := by decide +kernel
theorem dX0_doAsk_45 : decode cX0_doAsk 45 = .ok (.lconst 0, 1) := by decide +kernel
theorem dX0_doAsk_46 : decode cX0_doAsk 46 = .ok (.lcmp, 1) := by decide +kernel
theorem dX0_doAsk_47 : decode cX0_doAsk 47 = .ok (.ifCond .eq 13, 3) := by decide +kernel
theorem dX0_doAsk_50 : decode cX0_doAsk 50 = .ok (.aload_n 0, 1) := by decide +kernel
theorem dX0_doAsk_51 : decode cX0_doAsk 51 = .ok (.iload 5, 2) := by decide +kernel
theorem dX0_doAsk_53 : decode cX0_doAsk 53 = .ok (.iload_n 2, 1) := by decide +kernel
theorem dX0_doAsk_54 : decode cX0_doAsk 54 = .ok (.invokevirtual 159, 3) := by decide +kernel
theorem dX0_doAsk_57 : decode cX0_doAsk 57 = .ok (.goto 4, 3) := by decide +kernel
theorem dX0_doAsk_60 : decode cX0_doAsk 60 = .ok (.iconst (-1), 1) := by decide +kernel
theorem dX0_doAsk_61 : decode cX0_doAsk 61 = .ok (.istore 6, 2) := by decide +kernel
theorem dX0_doAsk_63 : decode cX0_doAsk 63 = .ok (.iload 6, 2) := by decide +kernel
theorem dX0_doAsk_65 : decode cX0_doAsk 65 = .ok (.ifCond .lt 30, 3) := by decide +kernel
theorem dX0_doAsk_68 : decode cX0_doAsk 68 = .ok (.aload_n 0, 1) := by decide +kernel
theorem dX0_doAsk_69 : decode cX0_doAsk 69 = .ok (.iload_n 1, 1) := by decide +kernel
theorem dX0_doAsk_70 : decode cX0_doAsk 70 = .ok (.iload_n 2, 1) := by decide +kernel
theorem dX0_doAsk_71 : decode cX0_doAsk 71 = .ok (.aload_n 0, 1) := by decide +kernel
theorem dX0_doAsk_72 : decode cX0_doAsk 72 = .ok (.iload 6, 2) := by decide +kernel
theorem dX0_doAsk_74 : decode cX0_doAsk 74 = .ok (.aload_n 0, 1) := by decide +kernel
theorem dX0_doAsk_75 : decode cX0_doAsk 75 = .ok (.getfield 57, 3) := by decide +kernel
theorem dX0_doAsk_78 : decode cX0_doAsk 78 = .ok (.iload_n 1, 1) := by decide +kernel
theorem dX0_doAsk_79 : decode cX0_doAsk 79 = .ok (.iload_n 2, 1) := by decide +kernel
theorem dX0_doAsk_80 : decode cX0_doAsk 80 = .ok (.iload 5, 2) := by decide +kernel
theorem dX0_doAsk_82 : decode cX0_doAsk 82 = .ok (.invokevirtual 162, 3) := by decide +kernel
theorem dX0_doAsk_85 : decode cX0_doAsk 85 = .ok (.invokevirtual 84, 3) := by decide +kernel
theorem dX0_doAsk_88 : decode cX0_doAsk 88 = .ok (.lconst 1, 1) := by decide +kernel
theorem dX0_doAsk_89 : decode cX0_doAsk 89 = .ok (.iload 5, 2) := by decide +kernel
theorem dX0_doAsk_91 : decode cX0_doAsk 91 = .ok (.lshl, 1) := by decide +kernel
theorem dX0_doAsk_92 : decode cX0_doAsk 92 = .ok (.invokevirtual 166, 3) := by decide +kernel
theorem dX0_doAsk_95 : decode cX0_doAsk 95 = .ok (.iinc 5 1, 3) := by decide +kernel
theorem dX0_doAsk_98 : decode cX0_doAsk 98 = .ok (.goto (-80), 3) := by decide +kernel
theorem dX0_doAsk_101 : decode cX0_doAsk 101 = .ok (.return_, 1) := by decide +kernel
theorem dX0_doCall_0 : decode cX0_doCall 0 = .ok (.aload_n 0, 1) := by decide +kernel
theorem dX0_doCall_1 : decode cX0_doCall 1 = .ok (.iload_n 1, 1) := by decide +kernel
theorem dX0_doCall_2 : decode cX0_doCall 2 = .ok (.iload_n 2, 1) := by decide +kernel
theorem dX0_doCall_3 : decode cX0_doCall 3 = .ok (.aload_n 0, 1) := by decide +kernel
theorem dX0_doCall_4 : decode cX0_doCall 4 = .ok (.aload_n 0, 1) := by decide +kernel
theorem dX0_doCall_5 : decode cX0_doCall 5 = .ok (.getfield 50, 3) := by decide +kernel
theorem dX0_doCall_8 : decode cX0_doCall 8 = .ok (.getfield 112, 3) := by decide +kernel
theorem dX0_doCall_11 : decode cX0_doCall 11 = .ok (.iload_n 2, 1) := by decide +kernel
theorem dX0_doCall_12 : decode cX0_doCall 12 = .ok (.iaload, 1) := by decide +kernel
theorem dX0_doCall_13 : decode cX0_doCall 13 = .ok (.aload_n 0, 1) := by decide +kernel
theorem dX0_doCall_14 : decode cX0_doCall 14 = .ok (.getfield 57, 3) := by decide +kernel
theorem dX0_doCall_17 : decode cX0_doCall 17 = .ok (.iload_n 1, 1) := by decide +kernel
theorem dX0_doCall_18 : decode cX0_doCall 18 = .ok (.iload_n 2, 1) := by decide +kernel
theorem dX0_doCall_19 : decode cX0_doCall 19 = .ok (.invokevirtual 170, 3) := by decide +kernel
theorem dX0_doCall_22 : decode cX0_doCall 22 = .ok (.invokevirtual 84, 3) := by decide +kernel
theorem dX0_doCall_25 : decode cX0_doCall 25 = .ok (.lconst 0, 1) := by decide +kernel
theorem dX0_doCall_26 : decode cX0_doCall 26 = .ok (.invokevirtual 166, 3) := by decide +kernel
theorem dX0_doCall_29 : decode cX0_doCall 29 = .ok (.return_, 1) := by decide +kernel
theorem dX0_link_0 : decode cX0_link 0 = .ok (.iload_n 3, 1) := by decide +kernel
theorem dX0_link_1 : decode cX0_link 1 = .ok (.ifCond .ge 4, 3) := by decide +kernel
theorem dX0_link_4 : decode cX0_link 4 = .ok (.return_, 1) := by decide +kernel
theorem dX0_link_5 : decode cX0_link 5 = .ok (.aload_n 0, 1) := by decide +kernel
theorem dX0_link_6 : decode cX0_link 6 = .ok (.iload_n 3, 1) := by decide +kernel
theorem dX0_link_7 : decode cX0_link 7 = .ok (.iconst 0, 1) := by decide +kernel
theorem dX0_link_8 : decode cX0_link 8 = .ok (.lload 4, 2) := by decide +kernel
theorem dX0_link_10 : decode cX0_link 10 = .ok (.invokevirtual 122, 3) := by decide +kernel
theorem dX0_link_13 : decode cX0_link 13 = .ok (.aload_n 0, 1) := by decide +kernel
theorem dX0_link_14 : decode cX0_link 14 = .ok (.iload_n 3, 1) := by decide +kernel
theorem dX0_link_15 : decode cX0_link 15 = .ok (.iconst 1, 1) := by decide +kernel
theorem dX0_link_16 : decode cX0_link 16 = .ok (.aload_n 0, 1) := by decide +kernel
theorem dX0_link_17 : decode cX0_link 17 = .ok (.iload_n 1, 1) := by decide +kernel
theorem dX0_link_18 : decode cX0_link 18 = .ok (.aload_n 0, 1) := by decide +kernel
theorem dX0_link_19 : decode cX0_link 19 = .ok (.getfield 50, 3) := by decide +kernel
theorem dX0_link_22 : decode cX0_link 22 = .ok (.getfield 173, 3) := by decide +kernel
theorem dX0_link_25 : decode cX0_link 25 = .ok (.iload_n 2, 1) := by decide +kernel
theorem dX0_link_26 : decode cX0_link 26 = .ok (.iaload, 1) := by decide +kernel
theorem dX0_link_27 : decode cX0_link 27 = .ok (.invokevirtual 126, 3) := by decide +kernel
theorem dX0_link_30 : decode cX0_link 30 = .ok (.invokevirtual 122, 3) := by decide +kernel
theorem dX0_link_33 : decode cX0_link 33 = .ok (.aload_n 0, 1) := by decide +kernel
theorem dX0_link_34 : decode cX0_link 34 = .ok (.iload_n 1, 1) := by decide +kernel
theorem dX0_link_35 : decode cX0_link 35 = .ok (.aload_n 0, 1) := by decide +kernel
theorem dX0_link_36 : decode cX0_link 36 = .ok (.getfield 50, 3) := by decide +kernel
theorem dX0_link_39 : decode cX0_link 39 = .ok (.getfield 106, 3) := by decide +kernel
theorem dX0_link_42 : decode cX0_link 42 = .ok (.iload_n 2, 1) := by decide +kernel
theorem dX0_link_43 : decode cX0_link 43 = .ok (.iaload, 1) := by decide +kernel
theorem dX0_link_44 : decode cX0_link 44 = .ok (.aload_n 0, 1) := by decide +kernel
theorem dX0_link_45 : decode cX0_link 45 = .ok (.iload_n 3, 1) := by decide +kernel
theorem dX0_link_46 : decode cX0_link 46 = .ok (.bipush 6, 2) := by decide +kernel
theorem dX0_link_48 : decode cX0_link 48 = .ok (.invokevirtual 126, 3) := by decide +kernel
theorem dX0_link_51 : decode cX0_link 51 = .ok (.invokevirtual 122, 3) := by decide +kernel
theorem dX0_link_54 : decode cX0_link 54 = .ok (.aload_n 0, 1) := by decide +kernel
theorem dX0_link_55 : decode cX0_link 55 = .ok (.iload_n 1, 1) := by decide +kernel
theorem dX0_link_56 : decode cX0_link 56 = .ok (.iload_n 2, 1) := by decide +kernel
theorem dX0_link_57 : decode cX0_link 57 = .ok (.aload_n 0, 1) := by decide +kernel
theorem dX0_link_58 : decode cX0_link 58 = .ok (.iload_n 3, 1) := by decide +kernel
theorem dX0_link_59 : decode cX0_link 59 = .ok (.bipush 7, 2) := by decide +kernel
theorem dX0_link_61 : decode cX0_link 61 = .ok (.invokevirtual 126, 3) := by decide +kernel
theorem dX0_link_64 : decode cX0_link 64 = .ok (.invokevirtual 153, 3) := by decide +kernel
theorem dX0_link_67 : decode cX0_link 67 = .ok (.return_, 1) := by decide +kernel
theorem dX0_raiseAt_0 : decode cX0_raiseAt 0 = .ok (.aload_n 0, 1) := by decide +kernel
theorem dX0_raiseAt_1 : decode cX0_raiseAt 1 = .ok (.getfield 50, 3) := by decide +kernel
theorem dX0_raiseAt_4 : decode cX0_raiseAt 4 = .ok (.getfield 176, 3) := by decide +kernel
theorem dX0_raiseAt_7 : decode cX0_raiseAt 7 = .ok (.iload_n 2, 1) := by decide +kernel
theorem dX0_raiseAt_8 : decode cX0_raiseAt 8 = .ok (.iaload, 1) := by decide +kernel
theorem dX0_raiseAt_9 : decode cX0_raiseAt 9 = .ok (.istore 5, 2) := by decide +kernel
theorem dX0_raiseAt_11 : decode cX0_raiseAt 11 = .ok (.lload_n 3, 1) := by decide +kernel
theorem dX0_raiseAt_12 : decode cX0_raiseAt 12 = .ok (.lstore 6, 2) := by decide +kernel
theorem dX0_raiseAt_14 : decode cX0_raiseAt 14 = .ok (.iload 5, 2) := by decide +kernel
theorem dX0_raiseAt_16 : decode cX0_raiseAt 16 = .ok (.iconst 1, 1) := by decide +kernel
theorem dX0_raiseAt_17 : decode cX0_raiseAt 17 = .ok (.isub, 1) := by decide +kernel
theorem dX0_raiseAt_18 : decode cX0_raiseAt 18 = .ok (.istore 8, 2) := by decide +kernel
theorem dX0_raiseAt_20 : decode cX0_raiseAt 20 = .ok (.iload 8, 2) := by decide +kernel
theorem dX0_raiseAt_22 : decode cX0_raiseAt 22 = .ok (.ifCond .lt 103, 3) := by decide +kernel
theorem dX0_raiseAt_25 : decode cX0_raiseAt 25 = .ok (.lload 6, 2) := by decide +kernel
theorem dX0_raiseAt_27 : decode cX0_raiseAt 27 = .ok (.lconst 0, 1) := by decide +kernel
theorem dX0_raiseAt_28 : decode cX0_raiseAt 28 = .ok (.lcmp, 1) := by decide +kernel
theorem dX0_raiseAt_29 : decode cX0_raiseAt 29 = .ok (.ifCond .eq 96, 3) := by decide +kernel
theorem dX0_raiseAt_32 : decode cX0_raiseAt 32 = .ok (.aload_n 0, 1) := by decide +kernel
theorem dX0_raiseAt_33 : decode cX0_raiseAt 33 = .ok (.getfield 50, 3) := by decide +kernel
theorem dX0_raiseAt_36 : decode cX0_raiseAt 36 = .ok (.aload_n 0, 1) := by decide +kernel
theorem dX0_raiseAt_37 : decode cX0_raiseAt 37 = .ok (.getfield 57, 3) := by decide +kernel
theorem dX0_raiseAt_40 : decode cX0_raiseAt 40 = .ok (.getfield 92, 3) := by decide +kernel
theorem dX0_raiseAt_43 : decode cX0_raiseAt 43 = .ok (.iload_n 1, 1) := by decide +kernel
theorem dX0_raiseAt_44 : decode cX0_raiseAt 44 = .ok (.iaload, 1) := by decide +kernel
theorem dX0_raiseAt_45 : decode cX0_raiseAt 45 = .ok (.iload 8, 2) := by decide +kernel
theorem dX0_raiseAt_47 : decode cX0_raiseAt 47 = .ok (.invokevirtual 100, 3) := by decide +kernel
theorem dX0_raiseAt_50 : decode cX0_raiseAt 50 = .ok (.istore 9, 2) := by decide +kernel
theorem dX0_raiseAt_52 : decode cX0_raiseAt 52 = .ok (.iload 9, 2) := by decide +kernel
theorem dX0_raiseAt_54 : decode cX0_raiseAt 54 = .ok (.ifCond .lt 65, 3) := by decide +kernel
theorem dX0_raiseAt_57 : decode cX0_raiseAt 57 = .ok (.aload_n 0, 1) := by decide +kernel
theorem dX0_raiseAt_58 : decode cX0_raiseAt 58 = .ok (.getfield 50, 3) := by decide +kernel
theorem dX0_raiseAt_61 : decode cX0_raiseAt 61 = .ok (.iload 9, 2) := by decide +kernel
theorem dX0_raiseAt_63 : decode cX0_raiseAt 63 = .ok (.iload 5, 2) := by decide +kernel
theorem dX0_raiseAt_65 : decode cX0_raiseAt 65 = .ok (.invokevirtual 179, 3) := by decide +kernel
theorem dX0_raiseAt_68 : decode cX0_raiseAt 68 = .ok (.ifCond .eq 51, 3) := by decide +kernel
theorem dX0_raiseAt_71 : decode cX0_raiseAt 71 = .ok (.lload 6, 2) := by decide +kernel
theorem dX0_raiseAt_73 : decode cX0_raiseAt 73 = .ok (.aload_n 0, 1) := by decide +kernel
theorem dX0_raiseAt_74 : decode cX0_raiseAt 74 = .ok (.getfield 21, 3) := by decide +kernel
theorem dX0_raiseAt_77 : decode cX0_raiseAt 77 = .ok (.aload_n 0, 1) := by decide +kernel
theorem dX0_raiseAt_78 : decode cX0_raiseAt 78 = .ok (.getfield 50, 3) := by decide +kernel
theorem dX0_raiseAt_81 : decode cX0_raiseAt 81 = .ok (.getfield 112, 3) := by decide +kernel
theorem dX0_raiseAt_84 : decode cX0_raiseAt 84 = .ok (.iload 9, 2) := by decide +kernel
theorem dX0_raiseAt_86 : decode cX0_raiseAt 86 = .ok (.iaload, 1) := by decide +kernel
theorem dX0_raiseAt_87 : decode cX0_raiseAt 87 = .ok (.laload, 1) := by decide +kernel
theorem dX0_raiseAt_88 : decode cX0_raiseAt 88 = .ok (.land, 1) := by decide +kernel
theorem dX0_raiseAt_89 : decode cX0_raiseAt 89 = .ok (.lstore 10, 2) := by decide +kernel
theorem dX0_raiseAt_91 : decode cX0_raiseAt 91 = .ok (.aload_n 0, 1) := by decide +kernel
theorem dX0_raiseAt_92 : decode cX0_raiseAt 92 = .ok (.iload_n 1, 1) := by decide +kernel
theorem dX0_raiseAt_93 : decode cX0_raiseAt 93 = .ok (.aload_n 0, 1) := by decide +kernel
theorem dX0_raiseAt_94 : decode cX0_raiseAt 94 = .ok (.getfield 50, 3) := by decide +kernel
theorem dX0_raiseAt_97 : decode cX0_raiseAt 97 = .ok (.getfield 106, 3) := by decide +kernel
theorem dX0_raiseAt_100 : decode cX0_raiseAt 100 = .ok (.iload 9, 2) := by decide +kernel
theorem dX0_raiseAt_102 : decode cX0_raiseAt 102 = .ok (.iaload, 1) := by decide +kernel
theorem dX0_raiseAt_103 : decode cX0_raiseAt 103 = .ok (.lload 10, 2) := by decide +kernel
theorem dX0_raiseAt_105 : decode cX0_raiseAt 105 = .ok (.invokevirtual 122, 3) := by decide +kernel
theorem dX0_raiseAt_108 : decode cX0_raiseAt 108 = .ok (.lload 6, 2) := by decide +kernel
theorem dX0_raiseAt_110 : decode cX0_raiseAt 110 = .ok (.lload 10, 2) := by decide +kernel
theorem dX0_raiseAt_112 : decode cX0_raiseAt 112 = .ok (.ldc2_w 129, 3) := by decide +kernel
theorem dX0_raiseAt_115 : decode cX0_raiseAt 115 = .ok (.lxor, 1) := by decide +kernel
theorem dX0_raiseAt_116 : decode cX0_raiseAt 116 = .ok (.land, 1) := by decide +kernel
theorem dX0_raiseAt_117 : decode cX0_raiseAt 117 = .ok (.lstore 6, 2) := by decide +kernel
theorem dX0_raiseAt_119 : decode cX0_raiseAt 119 = .ok (.iinc 8 (-1), 3) := by decide +kernel
theorem dX0_raiseAt_122 : decode cX0_raiseAt 122 = .ok (.goto (-102), 3) := by decide +kernel
theorem dX0_raiseAt_125 : decode cX0_raiseAt 125 = .ok (.aload_n 0, 1) := by decide +kernel
theorem dX0_raiseAt_126 : decode cX0_raiseAt 126 = .ok (.iload_n 1, 1) := by decide +kernel
theorem dX0_raiseAt_127 : decode cX0_raiseAt 127 = .ok (.bipush 7, 2) := by decide +kernel
theorem dX0_raiseAt_129 : decode cX0_raiseAt 129 = .ok (.lload 6, 2) := by decide +kernel
theorem dX0_raiseAt_131 : decode cX0_raiseAt 131 = .ok (.invokevirtual 122, 3) := by decide +kernel
theorem dX0_raiseAt_134 : decode cX0_raiseAt 134 = .ok (.return_, 1) := by decide +kernel
theorem dX0_methodAskedOf_0 : decode cX0_methodAskedOf 0 = .ok (.aload_n 0, 1) := by decide +kernel
theorem dX0_methodAskedOf_1 : decode cX0_methodAskedOf 1 = .ok (.getfield 50, 3) := by decide +kernel
theorem dX0_methodAskedOf_4 : decode cX0_methodAskedOf 4 = .ok (.aload_n 0, 1) := by decide +kernel
theorem dX0_methodAskedOf_5 : decode cX0_methodAskedOf 5 = .ok (.getfield 50, 3) := by decide +kernel
theorem dX0_methodAskedOf_8 : decode cX0_methodAskedOf 8 = .ok (.aload_n 0, 1) := by decide +kernel
theorem dX0_methodAskedOf_9 : decode cX0_methodAskedOf 9 = .ok (.getfield 57, 3) := by decide +kernel
theorem dX0_methodAskedOf_12 : decode cX0_methodAskedOf 12 = .ok (.getfield 183, 3) := by decide +kernel
theorem dX0_methodAskedOf_15 : decode cX0_methodAskedOf 15 = .ok (.iload_n 1, 1) := by decide +kernel
theorem dX0_methodAskedOf_16 : decode cX0_methodAskedOf 16 = .ok (.iaload, 1) := by decide +kernel
theorem dX0_methodAskedOf_17 : decode cX0_methodAskedOf 17 = .ok (.invokevirtual 186, 3) := by decide +kernel
theorem dX0_methodAskedOf_20 : decode cX0_methodAskedOf 20 = .ok (.aload_n 0, 1) := by decide +kernel
theorem dX0_methodAskedOf_21 : decode cX0_methodAskedOf 21 = .ok (.getfield 50, 3) := by decide +kernel
theorem dX0_methodAskedOf_24 : decode cX0_methodAskedOf 24 = .ok (.getfield 112, 3) := by decide +kernel
theorem dX0_methodAskedOf_27 : decode cX0_methodAskedOf 27 = .ok (.iload_n 2, 1) := by decide +kernel
theorem dX0_methodAskedOf_28 : decode cX0_methodAskedOf 28 = .ok (.iaload, 1) := by decide +kernel
theorem dX0_methodAskedOf_29 : decode cX0_methodAskedOf 29 = .ok (.invokevirtual 190, 3) := by decide +kernel
theorem dX0_methodAskedOf_32 : decode cX0_methodAskedOf 32 = .ok (.ireturn, 1) := by decide +kernel
theorem dX0_nodeFor_0 : decode cX0_nodeFor 0 = .ok (.aload_n 0, 1) := by decide +kernel
theorem dX0_nodeFor_1 : decode cX0_nodeFor 1 = .ok (.getfield 57, 3) := by decide +kernel
theorem dX0_nodeFor_4 : decode cX0_nodeFor 4 = .ok (.iload_n 1, 1) := by decide +kernel
theorem dX0_nodeFor_5 : decode cX0_nodeFor 5 = .ok (.iload_n 2, 1) := by decide +kernel
theorem dX0_nodeFor_6 : decode cX0_nodeFor 6 = .ok (.invokevirtual 193, 3) := by decide +kernel
theorem dX0_nodeFor_9 : decode cX0_nodeFor 9 = .ok (.istore_n 3, 1) := by decide +kernel
theorem dX0_nodeFor_10 : decode cX0_nodeFor 10 = .ok (.iload_n 3, 1) := by decide +kernel
theorem dX0_nodeFor_11 : decode cX0_nodeFor 11 = .ok (.ifCond .lt 5, 3) := by decide +kernel
theorem dX0_nodeFor_14 : decode cX0_nodeFor 14 = .ok (.iload_n 3, 1) := by decide +kernel
theorem dX0_nodeFor_15 : decode cX0_nodeFor 15 = .ok (.ireturn, 1) := by decide +kernel
theorem dX0_nodeFor_16 : decode cX0_nodeFor 16 = .ok (.aload_n 0, 1) := by decide +kernel
theorem dX0_nodeFor_17 : decode cX0_nodeFor 17 = .ok (.getfield 57, 3) := by decide +kernel
theorem dX0_nodeFor_20 : decode cX0_nodeFor 20 = .ok (.iload_n 1, 1) := by decide +kernel
theorem dX0_nodeFor_21 : decode cX0_nodeFor 21 = .ok (.iload_n 2, 1) := by decide +kernel
theorem dX0_nodeFor_22 : decode cX0_nodeFor 22 = .ok (.invokevirtual 196, 3) := by decide +kernel
theorem dX0_nodeFor_25 : decode cX0_nodeFor 25 = .ok (.istore 4, 2) := by decide +kernel
theorem dX0_nodeFor_27 : decode cX0_nodeFor 27 = .ok (.iload 4, 2) := by decide +kernel
theorem dX0_nodeFor_29 : decode cX0_nodeFor 29 = .ok (.ifCond .lt 38, 3) := by decide +kernel
theorem dX0_nodeFor_32 : decode cX0_nodeFor 32 = .ok (.iconst 0, 1) := by decide +kernel
theorem dX0_nodeFor_33 : decode cX0_nodeFor 33 = .ok (.istore 5, 2) := by decide +kernel
theorem dX0_nodeFor_35 : decode cX0_nodeFor 35 = .ok (.iload 5, 2) := by decide +kernel
theorem dX0_nodeFor_37 : decode cX0_nodeFor 37 = .ok (.bipush 8, 2) := by decide +kernel
theorem dX0_nodeFor_39 : decode cX0_nodeFor 39 = .ok (.if_icmp .ge 23, 3) := by decide +kernel
theorem dX0_nodeFor_42 : decode cX0_nodeFor 42 = .ok (.aload_n 0, 1) := by decide +kernel
theorem dX0_nodeFor_43 : decode cX0_nodeFor 43 = .ok (.getfield 11, 3) := by decide +kernel
theorem dX0_nodeFor_46 : decode cX0_nodeFor 46 = .ok (.iload 4, 2) := by decide +kernel
theorem dX0_nodeFor_48 : decode cX0_nodeFor 48 = .ok (.bipush 8, 2) := by decide +kernel
theorem dX0_nodeFor_50 : decode cX0_nodeFor 50 = .ok (.imul, 1) := by decide +kernel
theorem dX0_nodeFor_51 : decode cX0_nodeFor 51 = .ok (.iload 5, 2) := by decide +kernel
theorem dX0_nodeFor_53 : decode cX0_nodeFor 53 = .ok (.iadd, 1) := by decide +kernel
theorem dX0_nodeFor_54 : decode cX0_nodeFor 54 = .ok (.lconst 0, 1) := by decide +kernel
theorem dX0_nodeFor_55 : decode cX0_nodeFor 55 = .ok (.lastore, 1) := by decide +kernel
theorem dX0_nodeFor_56 : decode cX0_nodeFor 56 = .ok (.iinc 5 1, 3) := by decide +kernel
theorem dX0_nodeFor_59 : decode cX0_nodeFor 59 = .ok (.goto (-24), 3) := by decide +kernel
theorem dX0_nodeFor_62 : decode cX0_nodeFor 62 = .ok (.aload_n 0, 1) := by decide +kernel
theorem dX0_nodeFor_63 : decode cX0_nodeFor 63 = .ok (.iconst 1, 1) := by decide +kernel
theorem dX0_nodeFor_64 : decode cX0_nodeFor 64 = .ok (.putfield 28, 3) := by decide +kernel
theorem dX0_nodeFor_67 : decode cX0_nodeFor 67 = .ok (.iload 4, 2) := by decide +kernel
theorem dX0_nodeFor_69 : decode cX0_nodeFor 69 = .ok (.ireturn, 1) := by decide +kernel
theorem dX0_nameFor_0 : decode cX0_nameFor 0 = .ok (.aload_n 0, 1) := by decide +kernel
theorem dX0_nameFor_1 : decode cX0_nameFor 1 = .ok (.getfield 57, 3) := by decide +kernel
theorem dX0_nameFor_4 : decode cX0_nameFor 4 = .ok (.iload_n 1, 1) := by decide +kernel
theorem dX0_nameFor_5 : decode cX0_nameFor 5 = .ok (.iload_n 2, 1) := by decide +kernel
theorem dX0_nameFor_6 : decode cX0_nameFor 6 = .ok (.invokevirtual 199, 3) := by decide +kernel
theorem dX0_nameFor_9 : decode cX0_nameFor 9 = .ok (.istore_n 3, 1) := by decide +kernel
theorem dX0_nameFor_10 : decode cX0_nameFor 10 = .ok (.iload_n 3, 1) := by decide +kernel
theorem dX0_nameFor_11 : decode cX0_nameFor 11 = .ok (.ifCond .lt 7, 3) := by decide +kernel
theorem dX0_nameFor_14 : decode cX0_nameFor 14 = .ok (.lconst 1, 1) := by decide +kernel
theorem dX0_nameFor_15 : decode cX0_nameFor 15 = .ok (.iload_n 3, 1) := by decide +kernel
theorem dX0_nameFor_16 : decode cX0_nameFor 16 = .ok (.lshl, 1) := by decide +kernel
theorem dX0_nameFor_17 : decode cX0_nameFor 17 = .ok (.lreturn, 1) := by decide +kernel
theorem dX0_nameFor_18 : decode cX0_nameFor 18 = .ok (.aload_n 0, 1) := by decide +kernel
theorem dX0_nameFor_19 : decode cX0_nameFor 19 = .ok (.getfield 57, 3) := by decide +kernel
theorem dX0_nameFor_22 : decode cX0_nameFor 22 = .ok (.iload_n 1, 1) := by decide +kernel
theorem dX0_nameFor_23 : decode cX0_nameFor 23 = .ok (.iload_n 2, 1) := by decide +kernel
theorem dX0_nameFor_24 : decode cX0_nameFor 24 = .ok (.invokevirtual 202, 3) := by decide +kernel
theorem dX0_nameFor_27 : decode cX0_nameFor 27 = .ok (.istore 4, 2) := by decide +kernel
theorem dX0_nameFor_29 : decode cX0_nameFor 29 = .ok (.iload 4, 2) := by decide +kernel
theorem dX0_nameFor_31 : decode cX0_nameFor 31 = .ok (.ifCond .ge 5, 3) := by decide +kernel
theorem dX0_nameFor_34 : decode cX0_nameFor 34 = .ok (.lconst 0, 1) := by decide +kernel
theorem dX0_nameFor_35 : decode cX0_nameFor 35 = .ok (.lreturn, 1) := by decide +kernel
theorem dX0_nameFor_36 : decode cX0_nameFor 36 = .ok (.lconst 1, 1) := by decide +kernel
theorem dX0_nameFor_37 : decode cX0_nameFor 37 = .ok (.iload 4, 2) := by decide +kernel
theorem dX0_nameFor_39 : decode cX0_nameFor 39 = .ok (.lshl, 1) := by decide +kernel
theorem dX0_nameFor_40 : decode cX0_nameFor 40 = .ok (.lstore 5, 2) := by decide +kernel
theorem dX0_nameFor_42 : decode cX0_nameFor 42 = .ok (.iconst 0, 1) := by decide +kernel
theorem dX0_nameFor_43 : decode cX0_nameFor 43 = .ok (.istore 7, 2) := by decide +kernel
theorem dX0_nameFor_45 : decode cX0_nameFor 45 = .ok (.iload 7, 2) := by decide +kernel
theorem dX0_nameFor_47 : decode cX0_nameFor 47 = .ok (.iconst 5, 1) := by decide +kernel
theorem dX0_nameFor_48 : decode cX0_nameFor 48 = .ok (.if_icmp .ge 22, 3) := by decide +kernel
theorem dX0_nameFor_51 : decode cX0_nameFor 51 = .ok (.aload_n 0, 1) := by decide +kernel
theorem dX0_nameFor_52 : decode cX0_nameFor 52 = .ok (.getfield 15, 3) := by decide +kernel
theorem dX0_nameFor_55 : decode cX0_nameFor 55 = .ok (.iload 4, 2) := by decide +kernel
theorem dX0_nameFor_57 : decode cX0_nameFor 57 = .ok (.iconst 5, 1) := by decide +kernel
theorem dX0_nameFor_58 : decode cX0_nameFor 58 = .ok (.imul, 1) := by decide +kernel
theorem dX0_nameFor_59 : decode cX0_nameFor 59 = .ok (.iload 7, 2) := by decide +kernel
theorem dX0_nameFor_61 : decode cX0_nameFor 61 = .ok (.iadd, 1) := by decide +kernel
theorem dX0_nameFor_62 : decode cX0_nameFor 62 = .ok (.lconst 0, 1) := by decide +kernel
theorem dX0_nameFor_63 : decode cX0_nameFor 63 = .ok (.lastore, 1) := by decide +kernel
theorem dX0_nameFor_64 : decode cX0_nameFor 64 = .ok (.iinc 7 1, 3) := by decide +kernel
theorem dX0_nameFor_67 : decode cX0_nameFor 67 = .ok (.goto (-22), 3) := by decide +kernel
theorem dX0_nameFor_70 : decode cX0_nameFor 70 = .ok (.aload_n 0, 1) := by decide +kernel
theorem dX0_nameFor_71 : decode cX0_nameFor 71 = .ok (.getfield 50, 3) := by decide +kernel
theorem dX0_nameFor_74 : decode cX0_nameFor 74 = .ok (.getfield 115, 3) := by decide +kernel
theorem dX0_nameFor_77 : decode cX0_nameFor 77 = .ok (.iload_n 2, 1) := by decide +kernel
theorem dX0_nameFor_78 : decode cX0_nameFor 78 = .ok (.iaload, 1) := by decide +kernel
theorem dX0_nameFor_79 : decode cX0_nameFor 79 = .ok (.iconst 1, 1) := by decide +kernel
theorem dX0_nameFor_80 : decode cX0_nameFor 80 = .ok (.if_icmp .ne 14, 3) := by decide +kernel
theorem dX0_nameFor_83 : decode cX0_nameFor 83 = .ok (.aload_n 0, 1) := by decide +kernel
theorem dX0_nameFor_84 : decode cX0_nameFor 84 = .ok (.dup, 1) := by decide +kernel
theorem dX0_nameFor_85 : decode cX0_nameFor 85 = .ok (.getfield 24, 3) := by decide +kernel
theorem dX0_nameFor_88 : decode cX0_nameFor 88 = .ok (.lload 5, 2) := by decide +kernel
theorem dX0_nameFor_90 : decode cX0_nameFor 90 = .ok (.lor, 1) := by decide +kernel
theorem dX0_nameFor_91 : decode cX0_nameFor 91 = .ok (.putfield 24, 3) := by decide +kernel
theorem dX0_nameFor_94 : decode cX0_nameFor 94 = .ok (.iconst 0, 1) := by decide +kernel
theorem dX0_nameFor_95 : decode cX0_nameFor 95 = .ok (.istore 7, 2) := by decide +kernel
theorem dX0_nameFor_97 : decode cX0_nameFor 97 = .ok (.iload 7, 2) := by decide +kernel
theorem dX0_nameFor_99 : decode cX0_nameFor 99 = .ok (.aload_n 0, 1) := by decide +kernel
theorem dX0_nameFor_100 : decode cX0_nameFor 100 = .ok (.getfield 50, 3) := by decide +kernel
theorem dX0_nameFor_103 : decode cX0_nameFor 103 = .ok (.getfield 205, 3) := by decide +kernel
theorem dX0_nameFor_106 : decode cX0_nameFor 106 = .ok (.if_icmp .ge 41, 3) := by decide +kernel
theorem dX0_nameFor_109 : decode cX0_nameFor 109 = .ok (.aload_n 0, 1) := by decide +kernel
theorem dX0_nameFor_110 : decode cX0_nameFor 110 = .ok (.getfield 50, 3) := by decide +kernel
theorem dX0_nameFor_113 : decode cX0_nameFor 113 = .ok (.aload_n 0, 1) := by decide +kernel
theorem dX0_nameFor_114 : decode cX0_nameFor 114 = .ok (.getfield 50, 3) := by decide +kernel
theorem dX0_nameFor_117 : decode cX0_nameFor 117 = .ok (.iload_n 2, 1) := by decide +kernel
theorem dX0_nameFor_118 : decode cX0_nameFor 118 = .ok (.invokevirtual 186, 3) := by decide +kernel
theorem dX0_nameFor_121 : decode cX0_nameFor 121 = .ok (.iload 7, 2) := by decide +kernel
theorem dX0_nameFor_123 : decode cX0_nameFor 123 = .ok (.invokevirtual 208, 3) := by decide +kernel
theorem dX0_nameFor_126 : decode cX0_nameFor 126 = .ok (.ifCond .eq 15, 3) := by decide +kernel
theorem dX0_nameFor_129 : decode cX0_nameFor 129 = .ok (.aload_n 0, 1) := by decide +kernel
theorem dX0_nameFor_130 : decode cX0_nameFor 130 = .ok (.getfield 21, 3) := by decide +kernel
theorem dX0_nameFor_133 : decode cX0_nameFor 133 = .ok (.iload 7, 2) := by decide +kernel
theorem dX0_nameFor_135 : decode cX0_nameFor 135 = .ok (.dup2, 1) := by decide +kernel
theorem dX0_nameFor_136 : decode cX0_nameFor 136 = .ok (.laload, 1) := by decide +kernel
theorem dX0_nameFor_137 : decode cX0_nameFor 137 = .ok (.lload 5, 2) := by decide +kernel
theorem dX0_nameFor_139 : decode cX0_nameFor 139 = .ok (.lor, 1) := by decide +kernel
theorem dX0_nameFor_140 : decode cX0_nameFor 140 = .ok (.lastore, 1) := by decide +kernel
theorem dX0_nameFor_141 : decode cX0_nameFor 141 = .ok (.iinc 7 1, 3) := by decide +kernel
theorem dX0_nameFor_144 : decode cX0_nameFor 144 = .ok (.goto (-47), 3) := by decide +kernel
theorem dX0_nameFor_147 : decode cX0_nameFor 147 = .ok (.lload 5, 2) := by decide +kernel
theorem dX0_nameFor_149 : decode cX0_nameFor 149 = .ok (.lreturn, 1) := by decide +kernel
theorem dX0_setOf_0 : decode cX0_setOf 0 = .ok (.aload_n 0, 1) := by decide +kernel
theorem dX0_setOf_1 : decode cX0_setOf 1 = .ok (.getfield 11, 3) := by decide +kernel
theorem dX0_setOf_4 : decode cX0_setOf 4 = .ok (.iload_n 1, 1) := by decide +kernel
theorem dX0_setOf_5 : decode cX0_setOf 5 = .ok (.bipush 8, 2) := by decide +kernel
theorem dX0_setOf_7 : decode cX0_setOf 7 = .ok (.imul, 1) := by decide +kernel
theorem dX0_setOf_8 : decode cX0_setOf 8 = .ok (.iload_n 2, 1) := by decide +kernel
theorem dX0_setOf_9 : decode cX0_setOf 9 = .ok (.iadd, 1) := by decide +kernel
theorem dX0_setOf_10 : decode cX0_setOf 10 = .ok (.laload, 1) := by decide +kernel
theorem dX0_setOf_11 : decode cX0_setOf 11 = .ok (.lreturn, 1) := by decide +kernel
theorem dX0_insideOf_0 : decode cX0_insideOf 0 = .ok (.aload_n 0, 1) := by decide +kernel
theorem dX0_insideOf_1 : decode cX0_insideOf 1 = .ok (.getfield 15, 3) := by decide +kernel
theorem dX0_insideOf_4 : decode cX0_insideOf 4 = .ok (.iload_n 1, 1) := by decide +kernel
theorem dX0_insideOf_5 : decode cX0_insideOf 5 = .ok (.iconst 5, 1) := by decide +kernel
theorem dX0_insideOf_6 : decode cX0_insideOf 6 = .ok (.imul, 1) := by decide +kernel
theorem dX0_insideOf_7 : decode cX0_insideOf 7 = .ok (.iload_n 2, 1) := by decide +kernel
theorem dX0_insideOf_8 : decode cX0_insideOf 8 = .ok (.iadd, 1) := by decide +kernel
theorem dX0_insideOf_9 : decode cX0_insideOf 9 = .ok (.laload, 1) := by decide +kernel
theorem dX0_insideOf_10 : decode cX0_insideOf 10 = .ok (.lreturn, 1) := by decide +kernel
theorem dX0_addToVar_0 : decode cX0_addToVar 0 = .ok (.iload_n 1, 1) := by decide +kernel
theorem dX0_addToVar_1 : decode cX0_addToVar 1 = .ok (.bipush 8, 2) := by decide +kernel
theorem dX0_addToVar_3 : decode cX0_addToVar 3 = .ok (.imul, 1) := by decide +kernel
theorem dX0_addToVar_4 : decode cX0_addToVar 4 = .ok (.iload_n 2, 1) := by decide +kernel
theorem dX0_addToVar_5 : decode cX0_addToVar 5 = .ok (.iadd, 1) := by decide +kernel
theorem dX0_addToVar_6 : decode cX0_addToVar 6 = .ok (.istore 5, 2) := by decide +kernel
theorem dX0_addToVar_8 : decode cX0_addToVar 8 = .ok (.lload_n 3, 1) := by decide +kernel
theorem dX0_addToVar_9 : decode cX0_addToVar 9 = .ok (.aload_n 0, 1) := by decide +kernel
theorem dX0_addToVar_10 : decode cX0_addToVar 10 = .ok (.getfield 11, 3) := by decide +kernel
theorem dX0_addToVar_13 : decode cX0_addToVar 13 = .ok (.iload 5, 2) := by decide +kernel
theorem dX0_addToVar_15 : decode cX0_addToVar 15 = .ok (.laload, 1) := by decide +kernel
theorem dX0_addToVar_16 : decode cX0_addToVar 16 = .ok (.ldc2_w 129, 3) := by decide +kernel
theorem dX0_addToVar_19 : decode cX0_addToVar 19 = .ok (.lxor, 1) := by decide +kernel
theorem dX0_addToVar_20 : decode cX0_addToVar 20 = .ok (.land, 1) := by decide +kernel
theorem dX0_addToVar_21 : decode cX0_addToVar 21 = .ok (.lconst 0, 1) := by decide +kernel
theorem dX0_addToVar_22 : decode cX0_addToVar 22 = .ok (.lcmp, 1) := by decide +kernel
theorem dX0_addToVar_23 : decode cX0_addToVar 23 = .ok (.ifCond .eq 19, 3) := by decide +kernel
theorem dX0_addToVar_26 : decode cX0_addToVar 26 = .ok (.aload_n 0, 1) := by decide +kernel
theorem dX0_addToVar_27 : decode cX0_addToVar 27 = .ok (.getfield 11, 3) := by decide +kernel
theorem dX0_addToVar_30 : decode cX0_addToVar 30 = .ok (.iload 5, 2) := by decide +kernel
theorem dX0_addToVar_32 : decode cX0_addToVar 32 = .ok (.dup2, 1) := by decide +kernel
theorem dX0_addToVar_33 : decode cX0_addToVar 33 = .ok (.laload, 1) := by decide +kernel
theorem dX0_addToVar_34 : decode cX0_addToVar 34 = .ok (.lload_n 3, 1) := by decide +kernel
theorem dX0_addToVar_35 : decode cX0_addToVar 35 = .ok (.lor, 1) := by decide +kernel
theorem dX0_addToVar_36 : decode cX0_addToVar 36 = .ok (.lastore, 1) := by decide +kernel
theorem dX0_addToVar_37 : decode cX0_addToVar 37 = .ok (.aload_n 0, 1) := by decide +kernel
theorem dX0_addToVar_38 : decode cX0_addToVar 38 = .ok (.iconst 1, 1) := by decide +kernel
theorem dX0_addToVar_39 : decode cX0_addToVar 39 = .ok (.putfield 28, 3) := by decide +kernel
theorem dX0_addToVar_42 : decode cX0_addToVar 42 = .ok (.return_, 1) := by decide +kernel
theorem dX0_addToGlobal_0 : decode cX0_addToGlobal 0 = .ok (.lload_n 2, 1) := by decide +kernel
theorem dX0_addToGlobal_1 : decode cX0_addToGlobal 1 = .ok (.aload_n 0, 1) := by decide +kernel
theorem dX0_addToGlobal_2 : decode cX0_addToGlobal 2 = .ok (.getfield 18, 3) := by decide +kernel
theorem dX0_addToGlobal_5 : decode cX0_addToGlobal 5 = .ok (.iload_n 1, 1) := by decide +kernel
theorem dX0_addToGlobal_6 : decode cX0_addToGlobal 6 = .ok (.laload, 1) := by decide +kernel
theorem dX0_addToGlobal_7 : decode cX0_addToGlobal 7 = .ok (.ldc2_w 129, 3) := by decide +kernel
theorem dX0_addToGlobal_10 : decode cX0_addToGlobal 10 = .ok (.lxor, 1) := by decide +kernel
theorem dX0_addToGlobal_11 : decode cX0_addToGlobal 11 = .ok (.land, 1) := by decide +kernel
theorem dX0_addToGlobal_12 : decode cX0_addToGlobal 12 = .ok (.lconst 0, 1) := by decide +kernel
theorem dX0_addToGlobal_13 : decode cX0_addToGlobal 13 = .ok (.lcmp, 1) := by decide +kernel
theorem dX0_addToGlobal_14 : decode cX0_addToGlobal 14 = .ok (.ifCond .eq 18, 3) := by decide +kernel
theorem dX0_addToGlobal_17 : decode cX0_addToGlobal 17 = .ok (.aload_n 0, 1) := by decide +kernel
theorem dX0_addToGlobal_18 : decode cX0_addToGlobal 18 = .ok (.getfield 18, 3) := by decide +kernel
theorem dX0_addToGlobal_21 : decode cX0_addToGlobal 21 = .ok (.iload_n 1, 1) := by decide +kernel
theorem dX0_addToGlobal_22 : decode cX0_addToGlobal 22 = .ok (.dup2, 1) := by decide +kernel
theorem dX0_addToGlobal_23 : decode cX0_addToGlobal 23 = .ok (.laload, 1) := by decide +kernel
theorem dX0_addToGlobal_24 : decode cX0_addToGlobal 24 = .ok (.lload_n 2, 1) := by decide +kernel
theorem dX0_addToGlobal_25 : decode cX0_addToGlobal 25 = .ok (.lor, 1) := by decide +kernel
theorem dX0_addToGlobal_26 : decode cX0_addToGlobal 26 = .ok (.lastore, 1) := by decide +kernel
theorem dX0_addToGlobal_27 : decode cX0_addToGlobal 27 = .ok (.aload_n 0, 1) := by decide +kernel
theorem dX0_addToGlobal_28 : decode cX0_addToGlobal 28 = .ok (.iconst 1, 1) := by decide +kernel
theorem dX0_addToGlobal_29 : decode cX0_addToGlobal 29 = .ok (.putfield 28, 3) := by decide +kernel
theorem dX0_addToGlobal_32 : decode cX0_addToGlobal 32 = .ok (.return_, 1) := by decide +kernel
theorem dX0_addInside_0 : decode cX0_addInside 0 = .ok (.iload_n 1, 1) := by decide +kernel
theorem dX0_addInside_1 : decode cX0_addInside 1 = .ok (.iconst 5, 1) := by decide +kernel
theorem dX0_addInside_2 : decode cX0_addInside 2 = .ok (.imul, 1) := by decide +kernel
theorem dX0_addInside_3 : decode cX0_addInside 3 = .ok (.iload_n 2, 1) := by decide +kernel
theorem dX0_addInside_4 : decode cX0_addInside 4 = .ok (.iadd, 1) := by decide +kernel
theorem dX0_addInside_5 : decode cX0_addInside 5 = .ok (.istore 5, 2) := by decide +kernel
theorem dX0_addInside_7 : decode cX0_addInside 7 = .ok (.lload_n 3, 1) := by decide +kernel
theorem dX0_addInside_8 : decode cX0_addInside 8 = .ok (.aload_n 0, 1) := by decide +kernel
theorem dX0_addInside_9 : decode cX0_addInside 9 = .ok (.getfield 15, 3) := by decide +kernel
theorem dX0_addInside_12 : decode cX0_addInside 12 = .ok (.iload 5, 2) := by decide +kernel
theorem dX0_addInside_14 : decode cX0_addInside 14 = .ok (.laload, 1) := by decide +kernel
theorem dX0_addInside_15 : decode cX0_addInside 15 = .ok (.ldc2_w 129, 3) := by decide +kernel
theorem dX0_addInside_18 : decode cX0_addInside 18 = .ok (.lxor, 1) := by decide +kernel
theorem dX0_addInside_19 : decode cX0_addInside 19 = .ok (.land, 1) := by decide +kernel
theorem dX0_addInside_20 : decode cX0_addInside 20 = .ok (.lconst 0, 1) := by decide +kernel
theorem dX0_addInside_21 : decode cX0_addInside 21 = .ok (.lcmp, 1) := by decide +kernel
theorem dX0_addInside_22 : decode cX0_addInside 22 = .ok (.ifCond .eq 19, 3) := by decide +kernel
theorem dX0_addInside_25 : decode cX0_addInside 25 = .ok (.aload_n 0, 1) := by decide +kernel
theorem dX0_addInside_26 : decode cX0_addInside 26 = .ok (.getfield 15, 3) := by decide +kernel
theorem dX0_addInside_29 : decode cX0_addInside 29 = .ok (.iload 5, 2) := by decide +kernel
theorem dX0_addInside_31 : decode cX0_addInside 31 = .ok (.dup2, 1) := by decide +kernel
theorem dX0_addInside_32 : decode cX0_addInside 32 = .ok (.laload, 1) := by decide +kernel
theorem dX0_addInside_33 : decode cX0_addInside 33 = .ok (.lload_n 3, 1) := by decide +kernel
theorem dX0_addInside_34 : decode cX0_addInside 34 = .ok (.lor, 1) := by decide +kernel
theorem dX0_addInside_35 : decode cX0_addInside 35 = .ok (.lastore, 1) := by decide +kernel
theorem dX0_addInside_36 : decode cX0_addInside 36 = .ok (.aload_n 0, 1) := by decide +kernel
theorem dX0_addInside_37 : decode cX0_addInside 37 = .ok (.iconst 1, 1) := by decide +kernel
theorem dX0_addInside_38 : decode cX0_addInside 38 = .ok (.putfield 28, 3) := by decide +kernel
theorem dX0_addInside_41 : decode cX0_addInside 41 = .ok (.return_, 1) := by decide +kernel
theorem dX0_storeInAll_0 : decode cX0_storeInAll 0 = .ok (.iconst 0, 1) := by decide +kernel
theorem dX0_storeInAll_1 : decode cX0_storeInAll 1 = .ok (.istore 6, 2) := by decide +kernel
theorem dX0_storeInAll_3 : decode cX0_storeInAll 3 = .ok (.iload 6, 2) := by decide +kernel
theorem dX0_storeInAll_5 : decode cX0_storeInAll 5 = .ok (.aload_n 0, 1) := by decide +kernel
theorem dX0_storeInAll_6 : decode cX0_storeInAll 6 = .ok (.getfield 57, 3) := by decide +kernel
theorem dX0_storeInAll_9 : decode cX0_storeInAll 9 = .ok (.getfield 156, 3) := by decide +kernel
theorem dX0_storeInAll_12 : decode cX0_storeInAll 12 = .ok (.if_icmp .ge 38, 3) := by decide +kernel
theorem dX0_storeInAll_15 : decode cX0_storeInAll 15 = .ok (.lload_n 1, 1) := by decide +kernel
theorem dX0_storeInAll_16 : decode cX0_storeInAll 16 = .ok (.iload 6, 2) := by decide +kernel
theorem dX0_storeInAll_18 : decode cX0_storeInAll 18 = .ok (.lshr, 1) := by decide +kernel
theorem dX0_storeInAll_19 : decode cX0_storeInAll 19 = .ok (.lconst 0, 1) := by decide +kernel
theorem dX0_storeInAll_20 : decode cX0_storeInAll 20 = .ok (.lcmp, 1) := by decide +kernel
theorem dX0_storeInAll_21 : decode cX0_storeInAll 21 = .ok (.ifCond .eq 29, 3) := by decide +kernel
theorem dX0_storeInAll_24 : decode cX0_storeInAll 24 = .ok (.lload_n 1, 1) := by decide +kernel
theorem dX0_storeInAll_25 : decode cX0_storeInAll 25 = .ok (.iload 6, 2) := by decide +kernel
theorem dX0_storeInAll_27 : decode cX0_storeInAll 27 = .ok (.lshr, 1) := by decide +kernel
theorem dX0_storeInAll_28 : decode cX0_storeInAll 28 = .ok (.lconst 1, 1) := by decide +kernel
theorem dX0_storeInAll_29 : decode cX0_storeInAll 29 = .ok (.land, 1) := by decide +kernel
theorem dX0_storeInAll_30 : decode cX0_storeInAll 30 = .ok (.lconst 0, 1) := by decide +kernel
theorem dX0_storeInAll_31 : decode cX0_storeInAll 31 = .ok (.lcmp, 1) := by decide +kernel
theorem dX0_storeInAll_32 : decode cX0_storeInAll 32 = .ok (.ifCond .eq 12, 3) := by decide +kernel
theorem dX0_storeInAll_35 : decode cX0_storeInAll 35 = .ok (.aload_n 0, 1) := by decide +kernel
theorem dX0_storeInAll_36 : decode cX0_storeInAll 36 = .ok (.iload 6, 2) := by decide +kernel
theorem dX0_storeInAll_38 : decode cX0_storeInAll 38 = .ok (.iload_n 3, 1) := by decide +kernel
theorem dX0_storeInAll_39 : decode cX0_storeInAll 39 = .ok (.lload 4, 2) := by decide +kernel
theorem dX0_storeInAll_41 : decode cX0_storeInAll 41 = .ok (.invokevirtual 211, 3) := by decide +kernel
theorem dX0_storeInAll_44 : decode cX0_storeInAll 44 = .ok (.iinc 6 1, 3) := by decide +kernel
theorem dX0_storeInAll_47 : decode cX0_storeInAll 47 = .ok (.goto (-44), 3) := by decide +kernel
theorem dX0_storeInAll_50 : decode cX0_storeInAll 50 = .ok (.return_, 1) := by decide +kernel
theorem dX0_layInAll_0 : decode cX0_layInAll 0 = .ok (.iconst 0, 1) := by decide +kernel
theorem dX0_layInAll_1 : decode cX0_layInAll 1 = .ok (.istore 5, 2) := by decide +kernel
theorem dX0_layInAll_3 : decode cX0_layInAll 3 = .ok (.iload 5, 2) := by decide +kernel
theorem dX0_layInAll_5 : decode cX0_layInAll 5 = .ok (.aload_n 0, 1) := by decide +kernel
theorem dX0_layInAll_6 : decode cX0_layInAll 6 = .ok (.getfield 57, 3) := by decide +kernel
theorem dX0_layInAll_9 : decode cX0_layInAll 9 = .ok (.getfield 156, 3) := by decide +kernel
theorem dX0_layInAll_12 : decode cX0_layInAll 12 = .ok (.if_icmp .ge 61, 3) := by decide +kernel
theorem dX0_layInAll_15 : decode cX0_layInAll 15 = .ok (.lload_n 1, 1) := by decide +kernel
theorem dX0_layInAll_16 : decode cX0_layInAll 16 = .ok (.iload 5, 2) := by decide +kernel
theorem dX0_layInAll_18 : decode cX0_layInAll 18 = .ok (.lshr, 1) := by decide +kernel
theorem dX0_layInAll_19 : decode cX0_layInAll 19 = .ok (.lconst 0, 1) := by decide +kernel
theorem dX0_layInAll_20 : decode cX0_layInAll 20 = .ok (.lcmp, 1) := by decide +kernel
theorem dX0_layInAll_21 : decode cX0_layInAll 21 = .ok (.ifCond .eq 52, 3) := by decide +kernel
theorem dX0_layInAll_24 : decode cX0_layInAll 24 = .ok (.lload_n 1, 1) := by decide +kernel
theorem dX0_layInAll_25 : decode cX0_layInAll 25 = .ok (.iload 5, 2) := by decide +kernel
theorem dX0_layInAll_27 : decode cX0_layInAll 27 = .ok (.lshr, 1) := by decide +kernel
theorem dX0_layInAll_28 : decode cX0_layInAll 28 = .ok (.lconst 1, 1) := by decide +kernel
theorem dX0_layInAll_29 : decode cX0_layInAll 29 = .ok (.land, 1) := by decide +kernel
theorem dX0_layInAll_30 : decode cX0_layInAll 30 = .ok (.lconst 0, 1) := by decide +kernel
theorem dX0_layInAll_31 : decode cX0_layInAll 31 = .ok (.lcmp, 1) := by decide +kernel
theorem dX0_layInAll_32 : decode cX0_layInAll 32 = .ok (.ifCond .eq 35, 3) := by decide +kernel
theorem dX0_layInAll_35 : decode cX0_layInAll 35 = .ok (.aload_n 0, 1) := by decide +kernel
theorem dX0_layInAll_36 : decode cX0_layInAll 36 = .ok (.iload 5, 2) := by decide +kernel
theorem dX0_layInAll_38 : decode cX0_layInAll 38 = .ok (.iconst 4, 1) := by decide +kernel
theorem dX0_layInAll_39 : decode cX0_layInAll 39 = .ok (.lload_n 3, 1) := by decide +kernel
theorem dX0_layInAll_40 : decode cX0_layInAll 40 = .ok (.aload_n 0, 1) := by decide +kernel
theorem dX0_layInAll_41 : decode cX0_layInAll 41 = .ok (.getfield 21, 3) := by decide +kernel
theorem dX0_layInAll_44 : decode cX0_layInAll 44 = .ok (.aload_n 0, 1) := by decide +kernel
theorem dX0_layInAll_45 : decode cX0_layInAll 45 = .ok (.getfield 50, 3) := by decide +kernel
theorem dX0_layInAll_48 : decode cX0_layInAll 48 = .ok (.getfield 109, 3) := by decide +kernel
theorem dX0_layInAll_51 : decode cX0_layInAll 51 = .ok (.aload_n 0, 1) := by decide +kernel
theorem dX0_layInAll_52 : decode cX0_layInAll 52 = .ok (.getfield 57, 3) := by decide +kernel
theorem dX0_layInAll_55 : decode cX0_layInAll 55 = .ok (.getfield 183, 3) := by decide +kernel
theorem dX0_layInAll_58 : decode cX0_layInAll 58 = .ok (.iload 5, 2) := by decide +kernel
theorem dX0_layInAll_60 : decode cX0_layInAll 60 = .ok (.iaload, 1) := by decide +kernel
theorem dX0_layInAll_61 : decode cX0_layInAll 61 = .ok (.iaload, 1) := by decide +kernel
theorem dX0_layInAll_62 : decode cX0_layInAll 62 = .ok (.laload, 1) := by decide +kernel
theorem dX0_layInAll_63 : decode cX0_layInAll 63 = .ok (.land, 1) := by decide +kernel
theorem dX0_layInAll_64 : decode cX0_layInAll 64 = .ok (.invokevirtual 211, 3) := by decide +kernel
theorem dX0_layInAll_67 : decode cX0_layInAll 67 = .ok (.iinc 5 1, 3) := by decide +kernel
theorem dX0_layInAll_70 : decode cX0_layInAll 70 = .ok (.goto (-67), 3) := by decide +kernel
theorem dX0_layInAll_73 : decode cX0_layInAll 73 = .ok (.return_, 1) := by decide +kernel
theorem dX0_insideAny_0 : decode cX0_insideAny 0 = .ok (.lconst 0, 1) := by decide +kernel
theorem dX0_insideAny_1 : decode cX0_insideAny 1 = .ok (.lstore 4, 2) := by decide +kernel
theorem dX0_insideAny_3 : decode cX0_insideAny 3 = .ok (.iconst 0, 1) := by decide +kernel
theorem dX0_insideAny_4 : decode cX0_insideAny 4 = .ok (.istore 6, 2) := by decide +kernel
theorem dX0_insideAny_6 : decode cX0_insideAny 6 = .ok (.iload 6, 2) := by decide +kernel
theorem dX0_insideAny_8 : decode cX0_insideAny 8 = .ok (.aload_n 0, 1) := by decide +kernel
theorem dX0_insideAny_9 : decode cX0_insideAny 9 = .ok (.getfield 57, 3) := by decide +kernel
theorem dX0_insideAny_12 : decode cX0_insideAny 12 = .ok (.getfield 156, 3) := by decide +kernel
theorem dX0_insideAny_15 : decode cX0_insideAny 15 = .ok (.if_icmp .ge 41, 3) := by decide +kernel
theorem dX0_insideAny_18 : decode cX0_insideAny 18 = .ok (.lload_n 1, 1) := by decide +kernel
theorem dX0_insideAny_19 : decode cX0_insideAny 19 = .ok (.iload 6, 2) := by decide +kernel
theorem dX0_insideAny_21 : decode cX0_insideAny 21 = .ok (.lshr, 1) := by decide +kernel
theorem dX0_insideAny_22 : decode cX0_insideAny 22 = .ok (.lconst 0, 1) := by decide +kernel
theorem dX0_insideAny_23 : decode cX0_insideAny 23 = .ok (.lcmp, 1) := by decide +kernel
theorem dX0_insideAny_24 : decode cX0_insideAny 24 = .ok (.ifCond .eq 32, 3) := by decide +kernel
theorem dX0_insideAny_27 : decode cX0_insideAny 27 = .ok (.lload_n 1, 1) := by decide +kernel
theorem dX0_insideAny_28 : decode cX0_insideAny 28 = .ok (.iload 6, 2) := by decide +kernel
theorem dX0_insideAny_30 : decode cX0_insideAny 30 = .ok (.lshr, 1) := by decide +kernel
theorem dX0_insideAny_31 : decode cX0_insideAny 31 = .ok (.lconst 1, 1) := by decide +kernel
theorem dX0_insideAny_32 : decode cX0_insideAny 32 = .ok (.land, 1) := by decide +kernel
theorem dX0_insideAny_33 : decode cX0_insideAny 33 = .ok (.lconst 0, 1) := by decide +kernel
theorem dX0_insideAny_34 : decode cX0_insideAny 34 = .ok (.lcmp, 1) := by decide +kernel
theorem dX0_insideAny_35 : decode cX0_insideAny 35 = .ok (.ifCond .eq 15, 3) := by decide +kernel
theorem dX0_insideAny_38 : decode cX0_insideAny 38 = .ok (.lload 4, 2) := by decide +kernel
theorem dX0_insideAny_40 : decode cX0_insideAny 40 = .ok (.aload_n 0, 1) := by decide +kernel
theorem dX0_insideAny_41 : decode cX0_insideAny 41 = .ok (.iload 6, 2) := by decide +kernel
theorem dX0_insideAny_43 : decode cX0_insideAny 43 = .ok (.iload_n 3, 1) := by decide +kernel
theorem dX0_insideAny_44 : decode cX0_insideAny 44 = .ok (.invokevirtual 214, 3) := by decide +kernel
theorem dX0_insideAny_47 : decode cX0_insideAny 47 = .ok (.lor, 1) := by decide +kernel
theorem dX0_insideAny_48 : decode cX0_insideAny 48 = .ok (.lstore 4, 2) := by decide +kernel
theorem dX0_insideAny_50 : decode cX0_insideAny 50 = .ok (.iinc 6 1, 3) := by decide +kernel
theorem dX0_insideAny_53 : decode cX0_insideAny 53 = .ok (.goto (-47), 3) := by decide +kernel
theorem dX0_insideAny_56 : decode cX0_insideAny 56 = .ok (.lload 4, 2) := by decide +kernel
theorem dX0_insideAny_58 : decode cX0_insideAny 58 = .ok (.lreturn, 1) := by decide +kernel
theorem dX0_reach_0 : decode cX0_reach 0 = .ok (.aload_n 0, 1) := by decide +kernel
theorem dX0_reach_1 : decode cX0_reach 1 = .ok (.getfield 47, 3) := by decide +kernel
theorem dX0_reach_4 : decode cX0_reach 4 = .ok (.iconst 0, 1) := by decide +kernel
theorem dX0_reach_5 : decode cX0_reach 5 = .ok (.lconst 0, 1) := by decide +kernel
theorem dX0_reach_6 : decode cX0_reach 6 = .ok (.lastore, 1) := by decide +kernel
theorem dX0_reach_7 : decode cX0_reach 7 = .ok (.aload_n 0, 1) := by decide +kernel
theorem dX0_reach_8 : decode cX0_reach 8 = .ok (.getfield 47, 3) := by decide +kernel
theorem dX0_reach_11 : decode cX0_reach 11 = .ok (.iconst 1, 1) := by decide +kernel
theorem dX0_reach_12 : decode cX0_reach 12 = .ok (.lconst 0, 1) := by decide +kernel
theorem dX0_reach_13 : decode cX0_reach 13 = .ok (.lastore, 1) := by decide +kernel
theorem dX0_reach_14 : decode cX0_reach 14 = .ok (.aload_n 0, 1) := by decide +kernel
theorem dX0_reach_15 : decode cX0_reach 15 = .ok (.getfield 50, 3) := by decide +kernel
theorem dX0_reach_18 : decode cX0_reach 18 = .ok (.getfield 115, 3) := by decide +kernel
theorem dX0_reach_21 : decode cX0_reach 21 = .ok (.iload_n 2, 1) := by decide +kernel
theorem dX0_reach_22 : decode cX0_reach 22 = .ok (.iaload, 1) := by decide +kernel
theorem dX0_reach_23 : decode cX0_reach 23 = .ok (.bipush 10, 2) := by decide +kernel
theorem dX0_reach_25 : decode cX0_reach 25 = .ok (.if_icmp .ne 33, 3) := by decide +kernel
theorem dX0_reach_28 : decode cX0_reach 28 = .ok (.aload_n 0, 1) := by decide +kernel
theorem dX0_reach_29 : decode cX0_reach 29 = .ok (.aload_n 0, 1) := by decide +kernel
theorem dX0_reach_30 : decode cX0_reach 30 = .ok (.getfield 57, 3) := by decide +kernel
theorem dX0_reach_33 : decode cX0_reach 33 = .ok (.aload_n 0, 1) := by decide +kernel
theorem dX0_reach_34 : decode cX0_reach 34 = .ok (.getfield 50, 3) := by decide +kernel
theorem dX0_reach_37 : decode cX0_reach 37 = .ok (.getfield 112, 3) := by decide +kernel
theorem dX0_reach_40 : decode cX0_reach 40 = .ok (.iload_n 2, 1) := by decide +kernel
theorem dX0_reach_41 : decode cX0_reach 41 = .ok (.iaload, 1) := by decide +kernel
theorem dX0_reach_42 : decode cX0_reach 42 = .ok (.aload_n 0, 1) := by decide +kernel
theorem dX0_reach_43 : decode cX0_reach 43 = .ok (.getfield 57, 3) := by decide +kernel
theorem dX0_reach_46 : decode cX0_reach 46 = .ok (.iload_n 1, 1) := by decide +kernel
theorem dX0_reach_47 : decode cX0_reach 47 = .ok (.iload_n 2, 1) := by decide +kernel
theorem dX0_reach_48 : decode cX0_reach 48 = .ok (.invokevirtual 170, 3) := by decide +kernel
theorem dX0_reach_51 : decode cX0_reach 51 = .ok (.invokevirtual 193, 3) := by decide +kernel
theorem dX0_reach_54 : decode cX0_reach 54 = .ok (.invokevirtual 217, 3) := by decide +kernel
theorem dX0_reach_57 : decode cX0_reach 57 = .ok (.return_, 1) := by decide +kernel
theorem dX0_reach_58 : decode cX0_reach 58 = .ok (.aload_n 0, 1) := by decide +kernel
theorem dX0_reach_59 : decode cX0_reach 59 = .ok (.iload_n 1, 1) := by decide +kernel
theorem dX0_reach_60 : decode cX0_reach 60 = .ok (.aload_n 0, 1) := by decide +kernel
theorem dX0_reach_61 : decode cX0_reach 61 = .ok (.getfield 50, 3) := by decide +kernel
theorem dX0_reach_64 : decode cX0_reach 64 = .ok (.getfield 109, 3) := by decide +kernel
theorem dX0_reach_67 : decode cX0_reach 67 = .ok (.iload_n 2, 1) := by decide +kernel
theorem dX0_reach_68 : decode cX0_reach 68 = .ok (.iaload, 1) := by decide +kernel
theorem dX0_reach_69 : decode cX0_reach 69 = .ok (.invokevirtual 126, 3) := by decide +kernel
theorem dX0_reach_72 : decode cX0_reach 72 = .ok (.lstore_n 3, 1) := by decide +kernel
theorem dX0_reach_73 : decode cX0_reach 73 = .ok (.iconst 0, 1) := by decide +kernel
theorem dX0_reach_74 : decode cX0_reach 74 = .ok (.istore 5, 2) := by decide +kernel
theorem dX0_reach_76 : decode cX0_reach 76 = .ok (.iload 5, 2) := by decide +kernel
theorem dX0_reach_78 : decode cX0_reach 78 = .ok (.aload_n 0, 1) := by decide +kernel
theorem dX0_reach_79 : decode cX0_reach 79 = .ok (.getfield 57, 3) := by decide +kernel
theorem dX0_reach_82 : decode cX0_reach 82 = .ok (.getfield 156, 3) := by decide +kernel
theorem dX0_reach_85 : decode cX0_reach 85 = .ok (.if_icmp .ge 71, 3) := by decide +kernel
theorem dX0_reach_88 : decode cX0_reach 88 = .ok (.lload_n 3, 1) := by decide +kernel
theorem dX0_reach_89 : decode cX0_reach 89 = .ok (.iload 5, 2) := by decide +kernel
theorem dX0_reach_91 : decode cX0_reach 91 = .ok (.lshr, 1) := by decide +kernel
theorem dX0_reach_92 : decode cX0_reach 92 = .ok (.lconst 0, 1) := by decide +kernel
theorem dX0_reach_93 : decode cX0_reach 93 = .ok (.lcmp, 1) := by decide +kernel
theorem dX0_reach_94 : decode cX0_reach 94 = .ok (.ifCond .eq 62, 3) := by decide +kernel
theorem dX0_reach_97 : decode cX0_reach 97 = .ok (.lload_n 3, 1) := by decide +kernel
theorem dX0_reach_98 : decode cX0_reach 98 = .ok (.iload 5, 2) := by decide +kernel
theorem dX0_reach_100 : decode cX0_reach 100 = .ok (.lshr, 1) := by decide +kernel
theorem dX0_reach_101 : decode cX0_reach 101 = .ok (.lconst 1, 1) := by decide +kernel
theorem dX0_reach_102 : decode cX0_reach 102 = .ok (.land, 1) := by decide +kernel
theorem dX0_reach_103 : decode cX0_reach 103 = .ok (.lconst 0, 1) := by decide +kernel
theorem dX0_reach_104 : decode cX0_reach 104 = .ok (.lcmp, 1) := by decide +kernel
theorem dX0_reach_105 : decode cX0_reach 105 = .ok (.ifCond .eq 13, 3) := by decide +kernel
theorem dX0_reach_108 : decode cX0_reach 108 = .ok (.aload_n 0, 1) := by decide +kernel
theorem dX0_reach_109 : decode cX0_reach 109 = .ok (.iload 5, 2) := by decide +kernel
theorem dX0_reach_111 : decode cX0_reach 111 = .ok (.iload_n 2, 1) := by decide +kernel
theorem dX0_reach_112 : decode cX0_reach 112 = .ok (.invokevirtual 159, 3) := by decide +kernel
theorem dX0_reach_115 : decode cX0_reach 115 = .ok (.goto 4, 3) := by decide +kernel
theorem dX0_reach_118 : decode cX0_reach 118 = .ok (.iconst (-1), 1) := by decide +kernel
theorem dX0_reach_119 : decode cX0_reach 119 = .ok (.istore 6, 2) := by decide +kernel
theorem dX0_reach_121 : decode cX0_reach 121 = .ok (.iload 6, 2) := by decide +kernel
theorem dX0_reach_123 : decode cX0_reach 123 = .ok (.ifCond .lt 27, 3) := by decide +kernel
theorem dX0_reach_126 : decode cX0_reach 126 = .ok (.aload_n 0, 1) := by decide +kernel
theorem dX0_reach_127 : decode cX0_reach 127 = .ok (.aload_n 0, 1) := by decide +kernel
theorem dX0_reach_128 : decode cX0_reach 128 = .ok (.getfield 57, 3) := by decide +kernel
theorem dX0_reach_131 : decode cX0_reach 131 = .ok (.iload 6, 2) := by decide +kernel
theorem dX0_reach_133 : decode cX0_reach 133 = .ok (.aload_n 0, 1) := by decide +kernel
theorem dX0_reach_134 : decode cX0_reach 134 = .ok (.getfield 57, 3) := by decide +kernel
theorem dX0_reach_137 : decode cX0_reach 137 = .ok (.iload_n 1, 1) := by decide +kernel
theorem dX0_reach_138 : decode cX0_reach 138 = .ok (.iload_n 2, 1) := by decide +kernel
theorem dX0_reach_139 : decode cX0_reach 139 = .ok (.iload 5, 2) := by decide +kernel
theorem dX0_reach_141 : decode cX0_reach 141 = .ok (.invokevirtual 162, 3) := by decide +kernel
theorem dX0_reach_144 : decode cX0_reach 144 = .ok (.invokevirtual 193, 3) := by decide +kernel
theorem dX0_reach_147 : decode cX0_reach 147 = .ok (.invokevirtual 217, 3) := by decide +kernel
theorem dX0_reach_150 : decode cX0_reach 150 = .ok (.iinc 5 1, 3) := by decide +kernel
theorem dX0_reach_153 : decode cX0_reach 153 = .ok (.goto (-77), 3) := by decide +kernel
theorem dX0_reach_156 : decode cX0_reach 156 = .ok (.return_, 1) := by decide +kernel
theorem dX0_noteReached_0 : decode cX0_noteReached 0 = .ok (.iload_n 1, 1) := by decide +kernel
theorem dX0_noteReached_1 : decode cX0_noteReached 1 = .ok (.ifCond .lt 21, 3) := by decide +kernel
theorem dX0_noteReached_4 : decode cX0_noteReached 4 = .ok (.aload_n 0, 1) := by decide +kernel
theorem dX0_noteReached_5 : decode cX0_noteReached 5 = .ok (.getfield 47, 3) := by decide +kernel
theorem dX0_noteReached_8 : decode cX0_noteReached 8 = .ok (.iload_n 1, 1) := by decide +kernel
theorem dX0_noteReached_9 : decode cX0_noteReached 9 = .ok (.bipush 6, 2) := by decide +kernel
theorem dX0_noteReached_11 : decode cX0_noteReached 11 = .ok (.ishr, 1) := by decide +kernel
theorem dX0_noteReached_12 : decode cX0_noteReached 12 = .ok (.dup2, 1) := by decide +kernel
theorem dX0_noteReached_13 : decode cX0_noteReached 13 = .ok (.laload, 1) := by decide +kernel
theorem dX0_noteReached_14 : decode cX0_noteReached 14 = .ok (.lconst 1, 1) := by decide +kernel
theorem dX0_noteReached_15 : decode cX0_noteReached 15 = .ok (.iload_n 1, 1) := by decide +kernel
theorem dX0_noteReached_16 : decode cX0_noteReached 16 = .ok (.bipush 63, 2) := by decide +kernel
theorem dX0_noteReached_18 : decode cX0_noteReached 18 = .ok (.iand, 1) := by decide +kernel
theorem dX0_noteReached_19 : decode cX0_noteReached 19 = .ok (.lshl, 1) := by decide +kernel
theorem dX0_noteReached_20 : decode cX0_noteReached 20 = .ok (.lor, 1) := by decide +kernel
theorem dX0_noteReached_21 : decode cX0_noteReached 21 = .ok (.lastore, 1) := by decide +kernel
theorem dX0_noteReached_22 : decode cX0_noteReached 22 = .ok (.return_, 1) := by decide +kernel
theorem dX0_isReached_0 : decode cX0_isReached 0 = .ok (.aload_n 0, 1) := by decide +kernel
theorem dX0_isReached_1 : decode cX0_isReached 1 = .ok (.getfield 47, 3) := by decide +kernel
theorem dX0_isReached_4 : decode cX0_isReached 4 = .ok (.iload_n 1, 1) := by decide +kernel
theorem dX0_isReached_5 : decode cX0_isReached 5 = .ok (.bipush 6, 2) := by decide +kernel
theorem dX0_isReached_7 : decode cX0_isReached 7 = .ok (.ishr, 1) := by decide +kernel
theorem dX0_isReached_8 : decode cX0_isReached 8 = .ok (.laload, 1) := by decide +kernel
theorem dX0_isReached_9 : decode cX0_isReached 9 = .ok (.iload_n 1, 1) := by decide +kernel
theorem dX0_isReached_10 : decode cX0_isReached 10 = .ok (.bipush 63, 2) := by decide +kernel
theorem dX0_isReached_12 : decode cX0_isReached 12 = .ok (.iand, 1) := by decide +kernel
theorem dX0_isReached_13 : decode cX0_isReached 13 = .ok (.lshr, 1) := by decide +kernel
theorem dX0_isReached_14 : decode cX0_isReached 14 = .ok (.lconst 1, 1) := by decide +kernel
theorem dX0_isReached_15 : decode cX0_isReached 15 = .ok (.land, 1) := by decide +kernel
theorem dX0_isReached_16 : decode cX0_isReached 16 = .ok (.lconst 0, 1) := by decide +kernel
theorem dX0_isReached_17 : decode cX0_isReached 17 = .ok (.lcmp, 1) := by decide +kernel
theorem dX0_isReached_18 : decode cX0_isReached 18 = .ok (.ifCond .eq 7, 3) := by decide +kernel
theorem dX0_isReached_21 : decode cX0_isReached 21 = .ok (.iconst 1, 1) := by decide +kernel
theorem dX0_isReached_22 : decode cX0_isReached 22 = .ok (.goto 4, 3) := by decide +kernel
theorem dX0_isReached_25 : decode cX0_isReached 25 = .ok (.iconst 0, 1) := by decide +kernel
theorem dX0_isReached_26 : decode cX0_isReached 26 = .ok (.ireturn, 1) := by decide +kernel
theorem dX0_reachedAt_0 : decode cX0_reachedAt 0 = .ok (.iload_n 3, 1) := by decide +kernel
theorem dX0_reachedAt_1 : decode cX0_reachedAt 1 = .ok (.ifCond .ge 6, 3) := by decide +kernel
theorem dX0_reachedAt_4 : decode cX0_reachedAt 4 = .ok (.bipush (-9), 2) := by decide +kernel
theorem dX0_reachedAt_6 : decode cX0_reachedAt 6 = .ok (.ireturn, 1) := by decide +kernel
theorem dX0_reachedAt_7 : decode cX0_reachedAt 7 = .ok (.aload_n 0, 1) := by decide +kernel
theorem dX0_reachedAt_8 : decode cX0_reachedAt 8 = .ok (.iload_n 1, 1) := by decide +kernel
theorem dX0_reachedAt_9 : decode cX0_reachedAt 9 = .ok (.iload_n 2, 1) := by decide +kernel
theorem dX0_reachedAt_10 : decode cX0_reachedAt 10 = .ok (.invokevirtual 221, 3) := by decide +kernel
theorem dX0_reachedAt_13 : decode cX0_reachedAt 13 = .ok (.iload_n 3, 1) := by decide +kernel
theorem dX0_reachedAt_14 : decode cX0_reachedAt 14 = .ok (.istore 4, 2) := by decide +kernel
theorem dX0_reachedAt_16 : decode cX0_reachedAt 16 = .ok (.iconst 0, 1) := by decide +kernel
theorem dX0_reachedAt_17 : decode cX0_reachedAt 17 = .ok (.istore 5, 2) := by decide +kernel
theorem dX0_reachedAt_19 : decode cX0_reachedAt 19 = .ok (.iload 5, 2) := by decide +kernel
theorem dX0_reachedAt_21 : decode cX0_reachedAt 21 = .ok (.aload_n 0, 1) := by decide +kernel
theorem dX0_reachedAt_22 : decode cX0_reachedAt 22 = .ok (.getfield 57, 3) := by decide +kernel
theorem dX0_reachedAt_25 : decode cX0_reachedAt 25 = .ok (.getfield 89, 3) := by decide +kernel
theorem dX0_reachedAt_28 : decode cX0_reachedAt 28 = .ok (.if_icmp .ge 29, 3) := by decide +kernel
theorem dX0_reachedAt_31 : decode cX0_reachedAt 31 = .ok (.aload_n 0, 1) := by decide +kernel
theorem dX0_reachedAt_32 : decode cX0_reachedAt 32 = .ok (.iload 5, 2) := by decide +kernel
theorem dX0_reachedAt_34 : decode cX0_reachedAt 34 = .ok (.invokevirtual 224, 3) := by decide +kernel
theorem dX0_reachedAt_37 : decode cX0_reachedAt 37 = .ok (.ifCond .eq 14, 3) := by decide +kernel
theorem dX0_reachedAt_40 : decode cX0_reachedAt 40 = .ok (.iload 4, 2) := by decide +kernel
theorem dX0_reachedAt_42 : decode cX0_reachedAt 42 = .ok (.ifCond .ne 6, 3) := by decide +kernel
theorem dX0_reachedAt_45 : decode cX0_reachedAt 45 = .ok (.iload 5, 2) := by decide +kernel
theorem dX0_reachedAt_47 : decode cX0_reachedAt 47 = .ok (.ireturn, 1) := by decide +kernel
theorem dX0_reachedAt_48 : decode cX0_reachedAt 48 = .ok (.iinc 4 (-1), 3) := by decide +kernel
theorem dX0_reachedAt_51 : decode cX0_reachedAt 51 = .ok (.iinc 5 1, 3) := by decide +kernel
theorem dX0_reachedAt_54 : decode cX0_reachedAt 54 = .ok (.goto (-35), 3) := by decide +kernel
theorem dX0_reachedAt_57 : decode cX0_reachedAt 57 = .ok (.bipush (-9), 2) := by decide +kernel
theorem dX0_reachedAt_59 : decode cX0_reachedAt 59 = .ok (.ireturn, 1) := by decide +kernel
theorem dX0_countLeaders_0 : decode cX0_countLeaders 0 = .ok (.aload_n 0, 1) := by decide +kernel
theorem dX0_countLeaders_1 : decode cX0_countLeaders 1 = .ok (.getfield 36, 3) := by decide +kernel
theorem dX0_countLeaders_4 : decode cX0_countLeaders 4 = .ok (.iconst 0, 1) := by decide +kernel
theorem dX0_countLeaders_5 : decode cX0_countLeaders 5 = .ok (.invokestatic 228, 3) := by decide +kernel
theorem dX0_countLeaders_8 : decode cX0_countLeaders 8 = .ok (.iconst 0, 1) := by decide +kernel
theorem dX0_countLeaders_9 : decode cX0_countLeaders 9 = .ok (.istore_n 1, 1) := by decide +kernel
theorem dX0_countLeaders_10 : decode cX0_countLeaders 10 = .ok (.iload_n 1, 1) := by decide +kernel
theorem dX0_countLeaders_11 : decode cX0_countLeaders 11 = .ok (.aload_n 0, 1) := by decide +kernel
theorem dX0_countLeaders_12 : decode cX0_countLeaders 12 = .ok (.getfield 57, 3) := by decide +kernel
theorem dX0_countLeaders_15 : decode cX0_countLeaders 15 = .ok (.getfield 89, 3) := by decide +kernel
theorem dX0_countLeaders_18 : decode cX0_countLeaders 18 = .ok (.if_icmp .ge 75, 3) := by decide +kernel
theorem dX0_countLeaders_21 : decode cX0_countLeaders 21 = .ok (.aload_n 0, 1) := by decide +kernel
theorem dX0_countLeaders_22 : decode cX0_countLeaders 22 = .ok (.getfield 57, 3) := by decide +kernel
theorem dX0_countLeaders_25 : decode cX0_countLeaders 25 = .ok (.getfield 92, 3) := by decide +kernel
theorem dX0_countLeaders_28 : decode cX0_countLeaders 28 = .ok (.iload_n 1, 1) := by decide +kernel
theorem dX0_countLeaders_29 : decode cX0_countLeaders 29 = .ok (.iaload, 1) := by decide +kernel
theorem dX0_countLeaders_30 : decode cX0_countLeaders 30 = .ok (.istore_n 2, 1) := by decide +kernel
theorem dX0_countLeaders_31 : decode cX0_countLeaders 31 = .ok (.iconst 0, 1) := by decide +kernel
theorem dX0_countLeaders_32 : decode cX0_countLeaders 32 = .ok (.istore_n 3, 1) := by decide +kernel
theorem dX0_countLeaders_33 : decode cX0_countLeaders 33 = .ok (.iload_n 3, 1) := by decide +kernel
theorem dX0_countLeaders_34 : decode cX0_countLeaders 34 = .ok (.aload_n 0, 1) := by decide +kernel
theorem dX0_countLeaders_35 : decode cX0_countLeaders 35 = .ok (.getfield 50, 3) := by decide +kernel
theorem dX0_countLeaders_38 : decode cX0_countLeaders 38 = .ok (.getfield 95, 3) := by decide +kernel
theorem dX0_countLeaders_41 : decode cX0_countLeaders 41 = .ok (.iload_n 2, 1) := by decide +kernel
theorem dX0_countLeaders_42 : decode cX0_countLeaders 42 = .ok (.iaload, 1) := by decide +kernel
theorem dX0_countLeaders_43 : decode cX0_countLeaders 43 = .ok (.if_icmp .ge 44, 3) := by decide +kernel
theorem dX0_countLeaders_46 : decode cX0_countLeaders 46 = .ok (.aload_n 0, 1) := by decide +kernel
theorem dX0_countLeaders_47 : decode cX0_countLeaders 47 = .ok (.getfield 50, 3) := by decide +kernel
theorem dX0_countLeaders_50 : decode cX0_countLeaders 50 = .ok (.iload_n 2, 1) := by decide +kernel
theorem dX0_countLeaders_51 : decode cX0_countLeaders 51 = .ok (.iload_n 3, 1) := by decide +kernel
theorem dX0_countLeaders_52 : decode cX0_countLeaders 52 = .ok (.invokevirtual 100, 3) := by decide +kernel
theorem dX0_countLeaders_55 : decode cX0_countLeaders 55 = .ok (.istore 4, 2) := by decide +kernel
theorem dX0_countLeaders_57 : decode cX0_countLeaders 57 = .ok (.aload_n 0, 1) := by decide +kernel
theorem dX0_countLeaders_58 : decode cX0_countLeaders 58 = .ok (.getfield 50, 3) := by decide +kernel
theorem dX0_countLeaders_61 : decode cX0_countLeaders 61 = .ok (.iload 4, 2) := by decide +kernel
theorem dX0_countLeaders_63 : decode cX0_countLeaders 63 = .ok (.invokevirtual 231, 3) := by decide +kernel
theorem dX0_countLeaders_66 : decode cX0_countLeaders 66 = .ok (.ifCond .eq 15, 3) := by decide +kernel
theorem dX0_countLeaders_69 : decode cX0_countLeaders 69 = .ok (.aload_n 0, 1) := by decide +kernel
theorem dX0_countLeaders_70 : decode cX0_countLeaders 70 = .ok (.iload_n 1, 1) := by decide +kernel
theorem dX0_countLeaders_71 : decode cX0_countLeaders 71 = .ok (.iload 4, 2) := by decide +kernel
theorem dX0_countLeaders_73 : decode cX0_countLeaders 73 = .ok (.invokevirtual 221, 3) := by decide +kernel
theorem dX0_countLeaders_76 : decode cX0_countLeaders 76 = .ok (.aload_n 0, 1) := by decide +kernel
theorem dX0_countLeaders_77 : decode cX0_countLeaders 77 = .ok (.iload_n 1, 1) := by decide +kernel
theorem dX0_countLeaders_78 : decode cX0_countLeaders 78 = .ok (.invokevirtual 234, 3) := by decide +kernel
theorem dX0_countLeaders_81 : decode cX0_countLeaders 81 = .ok (.iinc 3 1, 3) := by decide +kernel
theorem dX0_countLeaders_84 : decode cX0_countLeaders 84 = .ok (.goto (-51), 3) := by decide +kernel
theorem dX0_countLeaders_87 : decode cX0_countLeaders 87 = .ok (.iinc 1 1, 3) := by decide +kernel
theorem dX0_countLeaders_90 : decode cX0_countLeaders 90 = .ok (.goto (-80), 3) := by decide +kernel
theorem dX0_countLeaders_93 : decode cX0_countLeaders 93 = .ok (.aload_n 0, 1) := by decide +kernel
theorem dX0_countLeaders_94 : decode cX0_countLeaders 94 = .ok (.invokevirtual 237, 3) := by decide +kernel
theorem dX0_countLeaders_97 : decode cX0_countLeaders 97 = .ok (.return_, 1) := by decide +kernel
theorem dX0_countReached_0 : decode cX0_countReached 0 = .ok (.iconst 0, 1) := by decide +kernel
theorem dX0_countReached_1 : decode cX0_countReached 1 = .ok (.istore_n 2, 1) := by decide +kernel
theorem dX0_countReached_2 : decode cX0_countReached 2 = .ok (.iload_n 2, 1) := by decide +kernel
theorem dX0_countReached_3 : decode cX0_countReached 3 = .ok (.aload_n 0, 1) := by decide +kernel
theorem dX0_countReached_4 : decode cX0_countReached 4 = .ok (.getfield 57, 3) := by decide +kernel
theorem dX0_countReached_7 : decode cX0_countReached 7 = .ok (.getfield 89, 3) := by decide +kernel
theorem dX0_countReached_10 : decode cX0_countReached 10 = .ok (.if_icmp .ge 34, 3) := by decide +kernel
theorem dX0_countReached_13 : decode cX0_countReached 13 = .ok (.aload_n 0, 1) := by decide +kernel
theorem dX0_countReached_14 : decode cX0_countReached 14 = .ok (.iload_n 2, 1) := by decide +kernel
theorem dX0_countReached_15 : decode cX0_countReached 15 = .ok (.invokevirtual 224, 3) := by decide +kernel
theorem dX0_countReached_18 : decode cX0_countReached 18 = .ok (.ifCond .eq 20, 3) := by decide +kernel
theorem dX0_countReached_21 : decode cX0_countReached 21 = .ok (.aload_n 0, 1) := by decide +kernel
theorem dX0_countReached_22 : decode cX0_countReached 22 = .ok (.getfield 36, 3) := by decide +kernel
theorem dX0_countReached_25 : decode cX0_countReached 25 = .ok (.iload_n 2, 1) := by decide +kernel
theorem dX0_countReached_26 : decode cX0_countReached 26 = .ok (.dup2, 1) := by decide +kernel
theorem dX0_countReached_27 : decode cX0_countReached 27 = .ok (.iaload, 1) := by decide +kernel
theorem dX0_countReached_28 : decode cX0_countReached 28 = .ok (.iconst 1, 1) := by decide +kernel
theorem dX0_countReached_29 : decode cX0_countReached 29 = .ok (.iadd, 1) := by decide +kernel
theorem dX0_countReached_30 : decode cX0_countReached 30 = .ok (.iastore, 1) := by decide +kernel
theorem dX0_countReached_31 : decode cX0_countReached 31 = .ok (.aload_n 0, 1) := by decide +kernel
theorem dX0_countReached_32 : decode cX0_countReached 32 = .ok (.getfield 40, 3) := by decide +kernel
theorem dX0_countReached_35 : decode cX0_countReached 35 = .ok (.iload_n 2, 1) := by decide +kernel
theorem dX0_countReached_36 : decode cX0_countReached 36 = .ok (.iload_n 1, 1) := by decide +kernel
theorem dX0_countReached_37 : decode cX0_countReached 37 = .ok (.iastore, 1) := by decide +kernel
theorem dX0_countReached_38 : decode cX0_countReached 38 = .ok (.iinc 2 1, 3) := by decide +kernel
theorem dX0_countReached_41 : decode cX0_countReached 41 = .ok (.goto (-39), 3) := by decide +kernel
theorem dX0_countReached_44 : decode cX0_countReached 44 = .ok (.return_, 1) := by decide +kernel
theorem dX0_settleOnce_0 : decode cX0_settleOnce 0 = .ok (.aload_n 0, 1) := by decide +kernel
theorem dX0_settleOnce_1 : decode cX0_settleOnce 1 = .ok (.getfield 43, 3) := by decide +kernel
theorem dX0_settleOnce_4 : decode cX0_settleOnce 4 = .ok (.iconst 0, 1) := by decide +kernel
theorem dX0_settleOnce_5 : decode cX0_settleOnce 5 = .ok (.aload_n 0, 1) := by decide +kernel
theorem dX0_settleOnce_6 : decode cX0_settleOnce 6 = .ok (.getfield 36, 3) := by decide +kernel
theorem dX0_settleOnce_9 : decode cX0_settleOnce 9 = .ok (.iconst 0, 1) := by decide +kernel
theorem dX0_settleOnce_10 : decode cX0_settleOnce 10 = .ok (.iaload, 1) := by decide +kernel
theorem dX0_settleOnce_11 : decode cX0_settleOnce 11 = .ok (.ifCond .ne 7, 3) := by decide +kernel
theorem dX0_settleOnce_14 : decode cX0_settleOnce 14 = .ok (.iconst 1, 1) := by decide +kernel
theorem dX0_settleOnce_15 : decode cX0_settleOnce 15 = .ok (.goto 4, 3) := by decide +kernel
theorem dX0_settleOnce_18 : decode cX0_settleOnce 18 = .ok (.iconst 0, 1) := by decide +kernel
theorem dX0_settleOnce_19 : decode cX0_settleOnce 19 = .ok (.bastore, 1) := by decide +kernel
theorem dX0_settleOnce_20 : decode cX0_settleOnce 20 = .ok (.iconst 1, 1) := by decide +kernel
theorem dX0_settleOnce_21 : decode cX0_settleOnce 21 = .ok (.istore_n 1, 1) := by decide +kernel
theorem dX0_settleOnce_22 : decode cX0_settleOnce 22 = .ok (.iload_n 1, 1) := by decide +kernel
theorem dX0_settleOnce_23 : decode cX0_settleOnce 23 = .ok (.aload_n 0, 1) := by decide +kernel
theorem dX0_settleOnce_24 : decode cX0_settleOnce 24 = .ok (.getfield 57, 3) := by decide +kernel
theorem dX0_settleOnce_27 : decode cX0_settleOnce 27 = .ok (.getfield 89, 3) := by decide +kernel
theorem dX0_settleOnce_30 : decode cX0_settleOnce 30 = .ok (.if_icmp .ge 54, 3) := by decide +kernel
theorem dX0_settleOnce_33 : decode cX0_settleOnce 33 = .ok (.aload_n 0, 1) := by decide +kernel
theorem dX0_settleOnce_34 : decode cX0_settleOnce 34 = .ok (.getfield 43, 3) := by decide +kernel
theorem dX0_settleOnce_37 : decode cX0_settleOnce 37 = .ok (.iload_n 1, 1) := by decide +kernel
theorem dX0_settleOnce_38 : decode cX0_settleOnce 38 = .ok (.aload_n 0, 1) := by decide +kernel
theorem dX0_settleOnce_39 : decode cX0_settleOnce 39 = .ok (.getfield 36, 3) := by decide +kernel
theorem dX0_settleOnce_42 : decode cX0_settleOnce 42 = .ok (.iload_n 1, 1) := by decide +kernel
theorem dX0_settleOnce_43 : decode cX0_settleOnce 43 = .ok (.iaload, 1) := by decide +kernel
theorem dX0_settleOnce_44 : decode cX0_settleOnce 44 = .ok (.iconst 1, 1) := by decide +kernel
theorem dX0_settleOnce_45 : decode cX0_settleOnce 45 = .ok (.if_icmp .ne 31, 3) := by decide +kernel
theorem dX0_settleOnce_48 : decode cX0_settleOnce 48 = .ok (.aload_n 0, 1) := by decide +kernel
theorem dX0_settleOnce_49 : decode cX0_settleOnce 49 = .ok (.getfield 40, 3) := by decide +kernel
theorem dX0_settleOnce_52 : decode cX0_settleOnce 52 = .ok (.iload_n 1, 1) := by decide +kernel
theorem dX0_settleOnce_53 : decode cX0_settleOnce 53 = .ok (.iaload, 1) := by decide +kernel
theorem dX0_settleOnce_54 : decode cX0_settleOnce 54 = .ok (.iload_n 1, 1) := by decide +kernel
theorem dX0_settleOnce_55 : decode cX0_settleOnce 55 = .ok (.if_icmp .ge 21, 3) := by decide +kernel
theorem dX0_settleOnce_58 : decode cX0_settleOnce 58 = .ok (.aload_n 0, 1) := by decide +kernel
theorem dX0_settleOnce_59 : decode cX0_settleOnce 59 = .ok (.getfield 43, 3) := by decide +kernel
theorem dX0_settleOnce_62 : decode cX0_settleOnce 62 = .ok (.aload_n 0, 1) := by decide +kernel
theorem dX0_settleOnce_63 : decode cX0_settleOnce 63 = .ok (.getfield 40, 3) := by decide +kernel
theorem dX0_settleOnce_66 : decode cX0_settleOnce 66 = .ok (.iload_n 1, 1) := by decide +kernel
theorem dX0_settleOnce_67 : decode cX0_settleOnce 67 = .ok (.iaload, 1) := by decide +kernel
theorem dX0_settleOnce_68 : decode cX0_settleOnce 68 = .ok (.baload, 1) := by decide +kernel
theorem dX0_settleOnce_69 : decode cX0_settleOnce 69 = .ok (.ifCond .eq 7, 3) := by decide +kernel
theorem dX0_settleOnce_72 : decode cX0_settleOnce 72 = .ok (.iconst 1, 1) := by decide +kernel
theorem dX0_settleOnce_73 : decode cX0_settleOnce 73 = .ok (.goto 4, 3) := by decide +kernel
theorem dX0_settleOnce_76 : decode cX0_settleOnce 76 = .ok (.iconst 0, 1) := by decide +kernel
theorem dX0_settleOnce_77 : decode cX0_settleOnce 77 = .ok (.bastore, 1) := by decide +kernel
theorem dX0_settleOnce_78 : decode cX0_settleOnce 78 = .ok (.iinc 1 1, 3) := by decide +kernel
theorem dX0_settleOnce_81 : decode cX0_settleOnce 81 = .ok (.goto (-59), 3) := by decide +kernel
theorem dX0_settleOnce_84 : decode cX0_settleOnce 84 = .ok (.return_, 1) := by decide +kernel
theorem dX0_isNoMoreThan_0 : decode cX0_isNoMoreThan 0 = .ok (.aload_n 0, 1) := by decide +kernel
theorem dX0_isNoMoreThan_1 : decode cX0_isNoMoreThan 1 = .ok (.iload_n 2, 1) := by decide +kernel
theorem dX0_isNoMoreThan_2 : decode cX0_isNoMoreThan 2 = .ok (.iload_n 3, 1) := by decide +kernel
theorem dX0_isNoMoreThan_3 : decode cX0_isNoMoreThan 3 = .ok (.invokevirtual 240, 3) := by decide +kernel
theorem dX0_isNoMoreThan_6 : decode cX0_isNoMoreThan 6 = .ok (.lstore 4, 2) := by decide +kernel
theorem dX0_isNoMoreThan_8 : decode cX0_isNoMoreThan 8 = .ok (.aload_n 1, 1) := by decide +kernel
theorem dX0_isNoMoreThan_9 : decode cX0_isNoMoreThan 9 = .ok (.iload_n 2, 1) := by decide +kernel
theorem dX0_isNoMoreThan_10 : decode cX0_isNoMoreThan 10 = .ok (.iload_n 3, 1) := by decide +kernel
theorem dX0_isNoMoreThan_11 : decode cX0_isNoMoreThan 11 = .ok (.invokevirtual 240, 3) := by decide +kernel
theorem dX0_isNoMoreThan_14 : decode cX0_isNoMoreThan 14 = .ok (.lstore 6, 2) := by decide +kernel
theorem dX0_isNoMoreThan_16 : decode cX0_isNoMoreThan 16 = .ok (.iconst 0, 1) := by decide +kernel
theorem dX0_isNoMoreThan_17 : decode cX0_isNoMoreThan 17 = .ok (.istore 8, 2) := by decide +kernel
theorem dX0_isNoMoreThan_19 : decode cX0_isNoMoreThan 19 = .ok (.iload 8, 2) := by decide +kernel
theorem dX0_isNoMoreThan_21 : decode cX0_isNoMoreThan 21 = .ok (.aload_n 0, 1) := by decide +kernel
theorem dX0_isNoMoreThan_22 : decode cX0_isNoMoreThan 22 = .ok (.getfield 57, 3) := by decide +kernel
theorem dX0_isNoMoreThan_25 : decode cX0_isNoMoreThan 25 = .ok (.getfield 156, 3) := by decide +kernel
theorem dX0_isNoMoreThan_28 : decode cX0_isNoMoreThan 28 = .ok (.if_icmp .ge 52, 3) := by decide +kernel
theorem dX0_isNoMoreThan_31 : decode cX0_isNoMoreThan 31 = .ok (.lload 4, 2) := by decide +kernel
theorem dX0_isNoMoreThan_33 : decode cX0_isNoMoreThan 33 = .ok (.iload 8, 2) := by decide +kernel
theorem dX0_isNoMoreThan_35 : decode cX0_isNoMoreThan 35 = .ok (.lshr, 1) := by decide +kernel
theorem dX0_isNoMoreThan_36 : decode cX0_isNoMoreThan 36 = .ok (.lconst 0, 1) := by decide +kernel
theorem dX0_isNoMoreThan_37 : decode cX0_isNoMoreThan 37 = .ok (.lcmp, 1) := by decide +kernel
theorem dX0_isNoMoreThan_38 : decode cX0_isNoMoreThan 38 = .ok (.ifCond .eq 42, 3) := by decide +kernel
theorem dX0_isNoMoreThan_41 : decode cX0_isNoMoreThan 41 = .ok (.lload 4, 2) := by decide +kernel
theorem dX0_isNoMoreThan_43 : decode cX0_isNoMoreThan 43 = .ok (.iload 8, 2) := by decide +kernel
theorem dX0_isNoMoreThan_45 : decode cX0_isNoMoreThan 45 = .ok (.lshr, 1) := by decide +kernel
theorem dX0_isNoMoreThan_46 : decode cX0_isNoMoreThan 46 = .ok (.lconst 1, 1) := by decide +kernel
theorem dX0_isNoMoreThan_47 : decode cX0_isNoMoreThan 47 = .ok (.land, 1) := by decide +kernel
theorem dX0_isNoMoreThan_48 : decode cX0_isNoMoreThan 48 = .ok (.lconst 0, 1) := by decide +kernel
theorem dX0_isNoMoreThan_49 : decode cX0_isNoMoreThan 49 = .ok (.lcmp, 1) := by decide +kernel
theorem dX0_isNoMoreThan_50 : decode cX0_isNoMoreThan 50 = .ok (.ifCond .eq 24, 3) := by decide +kernel
theorem dX0_isNoMoreThan_53 : decode cX0_isNoMoreThan 53 = .ok (.aload_n 1, 1) := by decide +kernel
theorem dX0_isNoMoreThan_54 : decode cX0_isNoMoreThan 54 = .ok (.lload 6, 2) := by decide +kernel
theorem dX0_isNoMoreThan_56 : decode cX0_isNoMoreThan 56 = .ok (.aload_n 0, 1) := by decide +kernel
theorem dX0_isNoMoreThan_57 : decode cX0_isNoMoreThan 57 = .ok (.getfield 57, 3) := by decide +kernel
theorem dX0_isNoMoreThan_60 : decode cX0_isNoMoreThan 60 = .ok (.getfield 183, 3) := by decide +kernel
theorem dX0_isNoMoreThan_63 : decode cX0_isNoMoreThan 63 = .ok (.iload 8, 2) := by decide +kernel
theorem dX0_isNoMoreThan_65 : decode cX0_isNoMoreThan 65 = .ok (.iaload, 1) := by decide +kernel
theorem dX0_isNoMoreThan_66 : decode cX0_isNoMoreThan 66 = .ok (.invokevirtual 243, 3) := by decide +kernel
theorem dX0_isNoMoreThan_69 : decode cX0_isNoMoreThan 69 = .ok (.ifCond .ne 5, 3) := by decide +kernel
theorem dX0_isNoMoreThan_72 : decode cX0_isNoMoreThan 72 = .ok (.iconst 0, 1) := by decide +kernel
theorem dX0_isNoMoreThan_73 : decode cX0_isNoMoreThan 73 = .ok (.ireturn, 1) := by decide +kernel
theorem dX0_isNoMoreThan_74 : decode cX0_isNoMoreThan 74 = .ok (.iinc 8 1, 3) := by decide +kernel
theorem dX0_isNoMoreThan_77 : decode cX0_isNoMoreThan 77 = .ok (.goto (-58), 3) := by decide +kernel
theorem dX0_isNoMoreThan_80 : decode cX0_isNoMoreThan 80 = .ok (.iconst 1, 1) := by decide +kernel
theorem dX0_isNoMoreThan_81 : decode cX0_isNoMoreThan 81 = .ok (.ireturn, 1) := by decide +kernel
theorem dX0_namesIn_0 : decode cX0_namesIn 0 = .ok (.lconst 0, 1) := by decide +kernel
theorem dX0_namesIn_1 : decode cX0_namesIn 1 = .ok (.lstore_n 3, 1) := by decide +kernel
theorem dX0_namesIn_2 : decode cX0_namesIn 2 = .ok (.iconst 0, 1) := by decide +kernel
theorem dX0_namesIn_3 : decode cX0_namesIn 3 = .ok (.istore 5, 2) := by decide +kernel
theorem dX0_namesIn_5 : decode cX0_namesIn 5 = .ok (.iload 5, 2) := by decide +kernel
theorem dX0_namesIn_7 : decode cX0_namesIn 7 = .ok (.aload_n 0, 1) := by decide +kernel
theorem dX0_namesIn_8 : decode cX0_namesIn 8 = .ok (.getfield 57, 3) := by decide +kernel
theorem dX0_namesIn_11 : decode cX0_namesIn 11 = .ok (.getfield 89, 3) := by decide +kernel
theorem dX0_namesIn_14 : decode cX0_namesIn 14 = .ok (.if_icmp .ge 33, 3) := by decide +kernel
theorem dX0_namesIn_17 : decode cX0_namesIn 17 = .ok (.aload_n 0, 1) := by decide +kernel
theorem dX0_namesIn_18 : decode cX0_namesIn 18 = .ok (.getfield 57, 3) := by decide +kernel
theorem dX0_namesIn_21 : decode cX0_namesIn 21 = .ok (.getfield 92, 3) := by decide +kernel
theorem dX0_namesIn_24 : decode cX0_namesIn 24 = .ok (.iload 5, 2) := by decide +kernel
theorem dX0_namesIn_26 : decode cX0_namesIn 26 = .ok (.iaload, 1) := by decide +kernel
theorem dX0_namesIn_27 : decode cX0_namesIn 27 = .ok (.iload_n 1, 1) := by decide +kernel
theorem dX0_namesIn_28 : decode cX0_namesIn 28 = .ok (.if_icmp .ne 13, 3) := by decide +kernel
theorem dX0_namesIn_31 : decode cX0_namesIn 31 = .ok (.lload_n 3, 1) := by decide +kernel
theorem dX0_namesIn_32 : decode cX0_namesIn 32 = .ok (.aload_n 0, 1) := by decide +kernel
theorem dX0_namesIn_33 : decode cX0_namesIn 33 = .ok (.iload 5, 2) := by decide +kernel
theorem dX0_namesIn_35 : decode cX0_namesIn 35 = .ok (.iload_n 2, 1) := by decide +kernel
theorem dX0_namesIn_36 : decode cX0_namesIn 36 = .ok (.invokevirtual 126, 3) := by decide +kernel
theorem dX0_namesIn_39 : decode cX0_namesIn 39 = .ok (.lor, 1) := by decide +kernel
theorem dX0_namesIn_40 : decode cX0_namesIn 40 = .ok (.lstore_n 3, 1) := by decide +kernel
theorem dX0_namesIn_41 : decode cX0_namesIn 41 = .ok (.iinc 5 1, 3) := by decide +kernel
theorem dX0_namesIn_44 : decode cX0_namesIn 44 = .ok (.goto (-39), 3) := by decide +kernel
theorem dX0_namesIn_47 : decode cX0_namesIn 47 = .ok (.lload_n 3, 1) := by decide +kernel
theorem dX0_namesIn_48 : decode cX0_namesIn 48 = .ok (.lreturn, 1) := by decide +kernel
theorem dX0_hasStep_0 : decode cX0_hasStep 0 = .ok (.iconst 0, 1) := by decide +kernel
theorem dX0_hasStep_1 : decode cX0_hasStep 1 = .ok (.istore 4, 2) := by decide +kernel
theorem dX0_hasStep_3 : decode cX0_hasStep 3 = .ok (.iload 4, 2) := by decide +kernel
theorem dX0_hasStep_5 : decode cX0_hasStep 5 = .ok (.aload_n 0, 1) := by decide +kernel
theorem dX0_hasStep_6 : decode cX0_hasStep 6 = .ok (.getfield 57, 3) := by decide +kernel
theorem dX0_hasStep_9 : decode cX0_hasStep 9 = .ok (.getfield 156, 3) := by decide +kernel
theorem dX0_hasStep_12 : decode cX0_hasStep 12 = .ok (.if_icmp .ge 45, 3) := by decide +kernel
theorem dX0_hasStep_15 : decode cX0_hasStep 15 = .ok (.lload_n 1, 1) := by decide +kernel
theorem dX0_hasStep_16 : decode cX0_hasStep 16 = .ok (.iload 4, 2) := by decide +kernel
theorem dX0_hasStep_18 : decode cX0_hasStep 18 = .ok (.lshr, 1) := by decide +kernel
theorem dX0_hasStep_19 : decode cX0_hasStep 19 = .ok (.lconst 0, 1) := by decide +kernel
theorem dX0_hasStep_20 : decode cX0_hasStep 20 = .ok (.lcmp, 1) := by decide +kernel
theorem dX0_hasStep_21 : decode cX0_hasStep 21 = .ok (.ifCond .eq 36, 3) := by decide +kernel
theorem dX0_hasStep_24 : decode cX0_hasStep 24 = .ok (.lload_n 1, 1) := by decide +kernel
theorem dX0_hasStep_25 : decode cX0_hasStep 25 = .ok (.iload 4, 2) := by decide +kernel
theorem dX0_hasStep_27 : decode cX0_hasStep 27 = .ok (.lshr, 1) := by decide +kernel
theorem dX0_hasStep_28 : decode cX0_hasStep 28 = .ok (.lconst 1, 1) := by decide +kernel
theorem dX0_hasStep_29 : decode cX0_hasStep 29 = .ok (.land, 1) := by decide +kernel
theorem dX0_hasStep_30 : decode cX0_hasStep 30 = .ok (.lconst 0, 1) := by decide +kernel
theorem dX0_hasStep_31 : decode cX0_hasStep 31 = .ok (.lcmp, 1) := by decide +kernel
theorem dX0_hasStep_32 : decode cX0_hasStep 32 = .ok (.ifCond .eq 19, 3) := by decide +kernel
theorem dX0_hasStep_35 : decode cX0_hasStep 35 = .ok (.aload_n 0, 1) := by decide +kernel
theorem dX0_hasStep_36 : decode cX0_hasStep 36 = .ok (.getfield 57, 3) := by decide +kernel
theorem dX0_hasStep_39 : decode cX0_hasStep 39 = .ok (.getfield 183, 3) := by decide +kernel
theorem dX0_hasStep_42 : decode cX0_hasStep 42 = .ok (.iload 4, 2) := by decide +kernel
theorem dX0_hasStep_44 : decode cX0_hasStep 44 = .ok (.iaload, 1) := by decide +kernel
theorem dX0_hasStep_45 : decode cX0_hasStep 45 = .ok (.iload_n 3, 1) := by decide +kernel
theorem dX0_hasStep_46 : decode cX0_hasStep 46 = .ok (.if_icmp .ne 5, 3) := by decide +kernel
theorem dX0_hasStep_49 : decode cX0_hasStep 49 = .ok (.iconst 1, 1) := by decide +kernel
theorem dX0_hasStep_50 : decode cX0_hasStep 50 = .ok (.ireturn, 1) := by decide +kernel
theorem dX0_hasStep_51 : decode cX0_hasStep 51 = .ok (.iinc 4 1, 3) := by decide +kernel
theorem dX0_hasStep_54 : decode cX0_hasStep 54 = .ok (.goto (-51), 3) := by decide +kernel
theorem dX0_hasStep_57 : decode cX0_hasStep 57 = .ok (.iconst 0, 1) := by decide +kernel
theorem dX0_hasStep_58 : decode cX0_hasStep 58 = .ok (.ireturn, 1) := by decide +kernel
theorem dX1_init_0 : decode cX1_init 0 = .ok (.aload_n 0, 1) := by decide +kernel
theorem dX1_init_1 : decode cX1_init 1 = .ok (.invokespecial 3, 3) := by decide +kernel
theorem dX1_init_4 : decode cX1_init 4 = .ok (.aload_n 0, 1) := by decide +kernel
theorem dX1_init_5 : decode cX1_init 5 = .ok (.iconst 0, 1) := by decide +kernel
theorem dX1_init_6 : decode cX1_init 6 = .ok (.putfield 9, 3) := by decide +kernel
theorem dX1_init_9 : decode cX1_init 9 = .ok (.aload_n 0, 1) := by decide +kernel
theorem dX1_init_10 : decode cX1_init 10 = .ok (.bipush 25, 2) := by decide +kernel
theorem dX1_init_12 : decode cX1_init 12 = .ok (.newarray .int, 2) := by decide +kernel
theorem dX1_init_14 : decode cX1_init 14 = .ok (.putfield 15, 3) := by decide +kernel
theorem dX1_init_17 : decode cX1_init 17 = .ok (.aload_n 0, 1) := by decide +kernel
theorem dX1_init_18 : decode cX1_init 18 = .ok (.bipush 25, 2) := by decide +kernel
theorem dX1_init_20 : decode cX1_init 20 = .ok (.newarray .int, 2) := by decide +kernel
theorem dX1_init_22 : decode cX1_init 22 = .ok (.putfield 19, 3) := by decide +kernel
theorem dX1_init_25 : decode cX1_init 25 = .ok (.aload_n 0, 1) := by decide +kernel
theorem dX1_init_26 : decode cX1_init 26 = .ok (.bipush 25, 2) := by decide +kernel
theorem dX1_init_28 : decode cX1_init 28 = .ok (.newarray .int, 2) := by decide +kernel
theorem dX1_init_30 : decode cX1_init 30 = .ok (.putfield 22, 3) := by decide +kernel
theorem dX1_init_33 : decode cX1_init 33 = .ok (.aload_n 0, 1) := by decide +kernel
theorem dX1_init_34 : decode cX1_init 34 = .ok (.sipush 150, 3) := by decide +kernel
theorem dX1_init_37 : decode cX1_init 37 = .ok (.newarray .int, 2) := by decide +kernel
theorem dX1_init_39 : decode cX1_init 39 = .ok (.putfield 25, 3) := by decide +kernel
theorem dX1_init_42 : decode cX1_init 42 = .ok (.return_, 1) := by decide +kernel
theorem dX1_isFull_0 : decode cX1_isFull 0 = .ok (.aload_n 0, 1) := by decide +kernel
theorem dX1_isFull_1 : decode cX1_isFull 1 = .ok (.getfield 9, 3) := by decide +kernel
theorem dX1_isFull_4 : decode cX1_isFull 4 = .ok (.bipush 25, 2) := by decide +kernel
theorem dX1_isFull_6 : decode cX1_isFull 6 = .ok (.if_icmp .lt 7, 3) := by decide +kernel
theorem dX1_isFull_9 : decode cX1_isFull 9 = .ok (.iconst 1, 1) := by decide +kernel
theorem dX1_isFull_10 : decode cX1_isFull 10 = .ok (.goto 4, 3) := by decide +kernel
theorem dX1_isFull_13 : decode cX1_isFull 13 = .ok (.iconst 0, 1) := by decide +kernel
theorem dX1_isFull_14 : decode cX1_isFull 14 = .ok (.ireturn, 1) := by decide +kernel
theorem dX1_push_0 : decode cX1_push 0 = .ok (.aload_n 0, 1) := by decide +kernel
theorem dX1_push_1 : decode cX1_push 1 = .ok (.getfield 15, 3) := by decide +kernel
theorem dX1_push_4 : decode cX1_push 4 = .ok (.aload_n 0, 1) := by decide +kernel
theorem dX1_push_5 : decode cX1_push 5 = .ok (.getfield 9, 3) := by decide +kernel
theorem dX1_push_8 : decode cX1_push 8 = .ok (.iload_n 1, 1) := by decide +kernel
theorem dX1_push_9 : decode cX1_push 9 = .ok (.iastore, 1) := by decide +kernel
theorem dX1_push_10 : decode cX1_push 10 = .ok (.aload_n 0, 1) := by decide +kernel
theorem dX1_push_11 : decode cX1_push 11 = .ok (.getfield 19, 3) := by decide +kernel
theorem dX1_push_14 : decode cX1_push 14 = .ok (.aload_n 0, 1) := by decide +kernel
theorem dX1_push_15 : decode cX1_push 15 = .ok (.getfield 9, 3) := by decide +kernel
theorem dX1_push_18 : decode cX1_push 18 = .ok (.iload_n 2, 1) := by decide +kernel
theorem dX1_push_19 : decode cX1_push 19 = .ok (.iastore, 1) := by decide +kernel
theorem dX1_push_20 : decode cX1_push 20 = .ok (.aload_n 0, 1) := by decide +kernel
theorem dX1_push_21 : decode cX1_push 21 = .ok (.getfield 22, 3) := by decide +kernel
theorem dX1_push_24 : decode cX1_push 24 = .ok (.aload_n 0, 1) := by decide +kernel
theorem dX1_push_25 : decode cX1_push 25 = .ok (.getfield 9, 3) := by decide +kernel
theorem dX1_push_28 : decode cX1_push 28 = .ok (.iconst 0, 1) := by decide +kernel
theorem dX1_push_29 : decode cX1_push 29 = .ok (.iastore, 1) := by decide +kernel
theorem dX1_push_30 : decode cX1_push 30 = .ok (.iconst 0, 1) := by decide +kernel
theorem dX1_push_31 : decode cX1_push 31 = .ok (.istore_n 3, 1) := by decide +kernel
theorem dX1_push_32 : decode cX1_push 32 = .ok (.iload_n 3, 1) := by decide +kernel
theorem dX1_push_33 : decode cX1_push 33 = .ok (.bipush 6, 2) := by decide +kernel
theorem dX1_push_35 : decode cX1_push 35 = .ok (.if_icmp .ge 25, 3) := by decide +kernel
theorem dX1_push_38 : decode cX1_push 38 = .ok (.aload_n 0, 1) := by decide +kernel
theorem dX1_push_39 : decode cX1_push 39 = .ok (.getfield 25, 3) := by decide +kernel
theorem dX1_push_42 : decode cX1_push 42 = .ok (.aload_n 0, 1) := by decide +kernel
theorem dX1_push_43 : decode cX1_push 43 = .ok (.getfield 9, 3) := by decide +kernel
theorem dX1_push_46 : decode cX1_push 46 = .ok (.bipush 6, 2) := by decide +kernel
theorem dX1_push_48 : decode cX1_push 48 = .ok (.imul, 1) := by decide +kernel
theorem dX1_push_49 : decode cX1_push 49 = .ok (.iload_n 3, 1) := by decide +kernel
theorem dX1_push_50 : decode cX1_push 50 = .ok (.iadd, 1) := by decide +kernel
theorem dX1_push_51 : decode cX1_push 51 = .ok (.bipush (-9), 2) := by decide +kernel
theorem dX1_push_53 : decode cX1_push 53 = .ok (.iastore, 1) := by decide +kernel
theorem dX1_push_54 : decode cX1_push 54 = .ok (.iinc 3 1, 3) := by decide +kernel
theorem dX1_push_57 : decode cX1_push 57 = .ok (.goto (-25), 3) := by decide +kernel
theorem dX1_push_60 : decode cX1_push 60 = .ok (.aload_n 0, 1) := by decide +kernel
theorem dX1_push_61 : decode cX1_push 61 = .ok (.dup, 1) := by decide +kernel
theorem dX1_push_62 : decode cX1_push 62 = .ok (.getfield 9, 3) := by decide +kernel
theorem dX1_push_65 : decode cX1_push 65 = .ok (.iconst 1, 1) := by decide +kernel
theorem dX1_push_66 : decode cX1_push 66 = .ok (.iadd, 1) := by decide +kernel
theorem dX1_push_67 : decode cX1_push 67 = .ok (.putfield 9, 3) := by decide +kernel
theorem dX1_push_70 : decode cX1_push 70 = .ok (.return_, 1) := by decide +kernel
theorem dX1_topMethod_0 : decode cX1_topMethod 0 = .ok (.aload_n 0, 1) := by decide +kernel
theorem dX1_topMethod_1 : decode cX1_topMethod 1 = .ok (.getfield 15, 3) := by decide +kernel
theorem dX1_topMethod_4 : decode cX1_topMethod 4 = .ok (.aload_n 0, 1) := by decide +kernel
theorem dX1_topMethod_5 : decode cX1_topMethod 5 = .ok (.getfield 9, 3) := by decide +kernel
theorem dX1_topMethod_8 : decode cX1_topMethod 8 = .ok (.iconst 1, 1) := by decide +kernel
theorem dX1_topMethod_9 : decode cX1_topMethod 9 = .ok (.isub, 1) := by decide +kernel
theorem dX1_topMethod_10 : decode cX1_topMethod 10 = .ok (.iaload, 1) := by decide +kernel
theorem dX1_topMethod_11 : decode cX1_topMethod 11 = .ok (.ireturn, 1) := by decide +kernel
theorem dX1_topNode_0 : decode cX1_topNode 0 = .ok (.aload_n 0, 1) := by decide +kernel
theorem dX1_topNode_1 : decode cX1_topNode 1 = .ok (.getfield 19, 3) := by decide +kernel
theorem dX1_topNode_4 : decode cX1_topNode 4 = .ok (.aload_n 0, 1) := by decide +kernel
theorem dX1_topNode_5 : decode cX1_topNode 5 = .ok (.getfield 9, 3) := by decide +kernel
theorem dX1_topNode_8 : decode cX1_topNode 8 = .ok (.iconst 1, 1) := by decide +kernel
theorem dX1_topNode_9 : decode cX1_topNode 9 = .ok (.isub, 1) := by decide +kernel
theorem dX1_topNode_10 : decode cX1_topNode 10 = .ok (.iaload, 1) := by decide +kernel
theorem dX1_topNode_11 : decode cX1_topNode 11 = .ok (.ireturn, 1) := by decide +kernel
theorem dX1_topNext_0 : decode cX1_topNext 0 = .ok (.aload_n 0, 1) := by decide +kernel
theorem dX1_topNext_1 : decode cX1_topNext 1 = .ok (.getfield 22, 3) := by decide +kernel
theorem dX1_topNext_4 : decode cX1_topNext 4 = .ok (.aload_n 0, 1) := by decide +kernel
theorem dX1_topNext_5 : decode cX1_topNext 5 = .ok (.getfield 9, 3) := by decide +kernel
theorem dX1_topNext_8 : decode cX1_topNext 8 = .ok (.iconst 1, 1) := by decide +kernel
theorem dX1_topNext_9 : decode cX1_topNext 9 = .ok (.isub, 1) := by decide +kernel
theorem dX1_topNext_10 : decode cX1_topNext 10 = .ok (.iaload, 1) := by decide +kernel
theorem dX1_topNext_11 : decode cX1_topNext 11 = .ok (.ireturn, 1) := by decide +kernel
theorem dX1_goOnAt_0 : decode cX1_goOnAt 0 = .ok (.aload_n 0, 1) := by decide +kernel
theorem dX1_goOnAt_1 : decode cX1_goOnAt 1 = .ok (.getfield 22, 3) := by decide +kernel
theorem dX1_goOnAt_4 : decode cX1_goOnAt 4 = .ok (.aload_n 0, 1) := by decide +kernel
theorem dX1_goOnAt_5 : decode cX1_goOnAt 5 = .ok (.getfield 9, 3) := by decide +kernel
theorem dX1_goOnAt_8 : decode cX1_goOnAt 8 = .ok (.iconst 1, 1) := by decide +kernel
theorem dX1_goOnAt_9 : decode cX1_goOnAt 9 = .ok (.isub, 1) := by decide +kernel
theorem dX1_goOnAt_10 : decode cX1_goOnAt 10 = .ok (.iload_n 1, 1) := by decide +kernel
theorem dX1_goOnAt_11 : decode cX1_goOnAt 11 = .ok (.iastore, 1) := by decide +kernel
theorem dX1_goOnAt_12 : decode cX1_goOnAt 12 = .ok (.return_, 1) := by decide +kernel
theorem dX1_varOf_0 : decode cX1_varOf 0 = .ok (.aload_n 0, 1) := by decide +kernel
theorem dX1_varOf_1 : decode cX1_varOf 1 = .ok (.getfield 25, 3) := by decide +kernel
theorem dX1_varOf_4 : decode cX1_varOf 4 = .ok (.aload_n 0, 1) := by decide +kernel
theorem dX1_varOf_5 : decode cX1_varOf 5 = .ok (.getfield 9, 3) := by decide +kernel
theorem dX1_varOf_8 : decode cX1_varOf 8 = .ok (.iconst 1, 1) := by decide +kernel
theorem dX1_varOf_9 : decode cX1_varOf 9 = .ok (.isub, 1) := by decide +kernel
theorem dX1_varOf_10 : decode cX1_varOf 10 = .ok (.bipush 6, 2) := by decide +kernel
theorem dX1_varOf_12 : decode cX1_varOf 12 = .ok (.imul, 1) := by decide +kernel
theorem dX1_varOf_13 : decode cX1_varOf 13 = .ok (.iload_n 1, 1) := by decide +kernel
theorem dX1_varOf_14 : decode cX1_varOf 14 = .ok (.iadd, 1) := by decide +kernel
theorem dX1_varOf_15 : decode cX1_varOf 15 = .ok (.iaload, 1) := by decide +kernel
theorem dX1_varOf_16 : decode cX1_varOf 16 = .ok (.ireturn, 1) := by decide +kernel
theorem dX1_setVar_0 : decode cX1_setVar 0 = .ok (.aload_n 0, 1) := by decide +kernel
theorem dX1_setVar_1 : decode cX1_setVar 1 = .ok (.getfield 25, 3) := by decide +kernel
theorem dX1_setVar_4 : decode cX1_setVar 4 = .ok (.aload_n 0, 1) := by decide +kernel
theorem dX1_setVar_5 : decode cX1_setVar 5 = .ok (.getfield 9, 3) := by decide +kernel
theorem dX1_setVar_8 : decode cX1_setVar 8 = .ok (.iconst 1, 1) := by decide +kernel
theorem dX1_setVar_9 : decode cX1_setVar 9 = .ok (.isub, 1) := by decide +kernel
theorem dX1_setVar_10 : decode cX1_setVar 10 = .ok (.bipush 6, 2) := by decide +kernel
theorem dX1_setVar_12 : decode cX1_setVar 12 = .ok (.imul, 1) := by decide +kernel
theorem dX1_setVar_13 : decode cX1_setVar 13 = .ok (.iload_n 1, 1) := by decide +kernel
theorem dX1_setVar_14 : decode cX1_setVar 14 = .ok (.iadd, 1) := by decide +kernel
theorem dX1_setVar_15 : decode cX1_setVar 15 = .ok (.iload_n 2, 1) := by decide +kernel
theorem dX1_setVar_16 : decode cX1_setVar 16 = .ok (.iastore, 1) := by decide +kernel
theorem dX1_setVar_17 : decode cX1_setVar 17 = .ok (.return_, 1) := by decide +kernel
theorem dX2_init_0 : decode cX2_init 0 = .ok (.aload_n 0, 1) := by decide +kernel
theorem dX2_init_1 : decode cX2_init 1 = .ok (.invokespecial 3, 3) := by decide +kernel
theorem dX2_init_4 : decode cX2_init 4 = .ok (.aload_n 0, 1) := by decide +kernel
theorem dX2_init_5 : decode cX2_init 5 = .ok (.iconst 0, 1) := by decide +kernel
theorem dX2_init_6 : decode cX2_init 6 = .ok (.putfield 9, 3) := by decide +kernel
theorem dX2_init_9 : decode cX2_init 9 = .ok (.aload_n 0, 1) := by decide +kernel
theorem dX2_init_10 : decode cX2_init 10 = .ok (.sipush 300, 3) := by decide +kernel
theorem dX2_init_13 : decode cX2_init 13 = .ok (.newarray .int, 2) := by decide +kernel
theorem dX2_init_15 : decode cX2_init 15 = .ok (.putfield 15, 3) := by decide +kernel
theorem dX2_init_18 : decode cX2_init 18 = .ok (.aload_n 0, 1) := by decide +kernel
theorem dX2_init_19 : decode cX2_init 19 = .ok (.sipush 300, 3) := by decide +kernel
theorem dX2_init_22 : decode cX2_init 22 = .ok (.newarray .int, 2) := by decide +kernel
theorem dX2_init_24 : decode cX2_init 24 = .ok (.putfield 19, 3) := by decide +kernel
theorem dX2_init_27 : decode cX2_init 27 = .ok (.aload_n 0, 1) := by decide +kernel
theorem dX2_init_28 : decode cX2_init 28 = .ok (.sipush 300, 3) := by decide +kernel
theorem dX2_init_31 : decode cX2_init 31 = .ok (.newarray .int, 2) := by decide +kernel
theorem dX2_init_33 : decode cX2_init 33 = .ok (.putfield 22, 3) := by decide +kernel
theorem dX2_init_36 : decode cX2_init 36 = .ok (.aload_n 0, 1) := by decide +kernel
theorem dX2_init_37 : decode cX2_init 37 = .ok (.sipush 1500, 3) := by decide +kernel
theorem dX2_init_40 : decode cX2_init 40 = .ok (.newarray .int, 2) := by decide +kernel
theorem dX2_init_42 : decode cX2_init 42 = .ok (.putfield 25, 3) := by decide +kernel
theorem dX2_init_45 : decode cX2_init 45 = .ok (.aload_n 0, 1) := by decide +kernel
theorem dX2_init_46 : decode cX2_init 46 = .ok (.iconst 4, 1) := by decide +kernel
theorem dX2_init_47 : decode cX2_init 47 = .ok (.newarray .int, 2) := by decide +kernel
theorem dX2_init_49 : decode cX2_init 49 = .ok (.putfield 28, 3) := by decide +kernel
theorem dX2_init_52 : decode cX2_init 52 = .ok (.aload_n 0, 1) := by decide +kernel
theorem dX2_init_53 : decode cX2_init 53 = .ok (.aload_n 1, 1) := by decide +kernel
theorem dX2_init_54 : decode cX2_init 54 = .ok (.putfield 31, 3) := by decide +kernel
theorem dX2_init_57 : decode cX2_init 57 = .ok (.return_, 1) := by decide +kernel
theorem dX2_clear_0 : decode cX2_clear 0 = .ok (.aload_n 0, 1) := by decide +kernel
theorem dX2_clear_1 : decode cX2_clear 1 = .ok (.iconst 0, 1) := by decide +kernel
theorem dX2_clear_2 : decode cX2_clear 2 = .ok (.putfield 9, 3) := by decide +kernel
theorem dX2_clear_5 : decode cX2_clear 5 = .ok (.aload_n 0, 1) := by decide +kernel
theorem dX2_clear_6 : decode cX2_clear 6 = .ok (.getfield 28, 3) := by decide +kernel
theorem dX2_clear_9 : decode cX2_clear 9 = .ok (.bipush (-9), 2) := by decide +kernel
theorem dX2_clear_11 : decode cX2_clear 11 = .ok (.invokestatic 35, 3) := by decide +kernel
theorem dX2_clear_14 : decode cX2_clear 14 = .ok (.return_, 1) := by decide +kernel
theorem dX2_add_0 : decode cX2_add 0 = .ok (.aload_n 0, 1) := by decide +kernel
theorem dX2_add_1 : decode cX2_add 1 = .ok (.getfield 9, 3) := by decide +kernel
theorem dX2_add_4 : decode cX2_add 4 = .ok (.sipush 300, 3) := by decide +kernel
theorem dX2_add_7 : decode cX2_add 7 = .ok (.if_icmp .lt 6, 3) := by decide +kernel
theorem dX2_add_10 : decode cX2_add 10 = .ok (.bipush (-9), 2) := by decide +kernel
theorem dX2_add_12 : decode cX2_add 12 = .ok (.ireturn, 1) := by decide +kernel
theorem dX2_add_13 : decode cX2_add 13 = .ok (.aload_n 0, 1) := by decide +kernel
theorem dX2_add_14 : decode cX2_add 14 = .ok (.getfield 9, 3) := by decide +kernel
theorem dX2_add_17 : decode cX2_add 17 = .ok (.istore 4, 2) := by decide +kernel
theorem dX2_add_19 : decode cX2_add 19 = .ok (.aload_n 0, 1) := by decide +kernel
theorem dX2_add_20 : decode cX2_add 20 = .ok (.getfield 15, 3) := by decide +kernel
theorem dX2_add_23 : decode cX2_add 23 = .ok (.iload 4, 2) := by decide +kernel
theorem dX2_add_25 : decode cX2_add 25 = .ok (.iload_n 1, 1) := by decide +kernel
theorem dX2_add_26 : decode cX2_add 26 = .ok (.iastore, 1) := by decide +kernel
theorem dX2_add_27 : decode cX2_add 27 = .ok (.aload_n 0, 1) := by decide +kernel
theorem dX2_add_28 : decode cX2_add 28 = .ok (.getfield 19, 3) := by decide +kernel
theorem dX2_add_31 : decode cX2_add 31 = .ok (.iload 4, 2) := by decide +kernel
theorem dX2_add_33 : decode cX2_add 33 = .ok (.iload_n 2, 1) := by decide +kernel
theorem dX2_add_34 : decode cX2_add 34 = .ok (.iastore, 1) := by decide +kernel
theorem dX2_add_35 : decode cX2_add 35 = .ok (.aload_n 0, 1) := by decide +kernel
theorem dX2_add_36 : decode cX2_add 36 = .ok (.getfield 22, 3) := by decide +kernel
theorem dX2_add_39 : decode cX2_add 39 = .ok (.iload 4, 2) := by decide +kernel
theorem dX2_add_41 : decode cX2_add 41 = .ok (.iload_n 3, 1) := by decide +kernel
theorem dX2_add_42 : decode cX2_add 42 = .ok (.iastore, 1) := by decide +kernel
theorem dX2_add_43 : decode cX2_add 43 = .ok (.iconst 0, 1) := by decide +kernel
theorem dX2_add_44 : decode cX2_add 44 = .ok (.istore 5, 2) := by decide +kernel
theorem dX2_add_46 : decode cX2_add 46 = .ok (.iload 5, 2) := by decide +kernel
theorem dX2_add_48 : decode cX2_add 48 = .ok (.iconst 5, 1) := by decide +kernel
theorem dX2_add_49 : decode cX2_add 49 = .ok (.if_icmp .ge 23, 3) := by decide +kernel
theorem dX2_add_52 : decode cX2_add 52 = .ok (.aload_n 0, 1) := by decide +kernel
theorem dX2_add_53 : decode cX2_add 53 = .ok (.getfield 25, 3) := by decide +kernel
theorem dX2_add_56 : decode cX2_add 56 = .ok (.iload 4, 2) := by decide +kernel
theorem dX2_add_58 : decode cX2_add 58 = .ok (.iconst 5, 1) := by decide +kernel
theorem dX2_add_59 : decode cX2_add 59 = .ok (.imul, 1) := by decide +kernel
theorem dX2_add_60 : decode cX2_add 60 = .ok (.iload 5, 2) := by decide +kernel
theorem dX2_add_62 : decode cX2_add 62 = .ok (.iadd, 1) := by decide +kernel
theorem dX2_add_63 : decode cX2_add 63 = .ok (.bipush (-9), 2) := by decide +kernel
theorem dX2_add_65 : decode cX2_add 65 = .ok (.iastore, 1) := by decide +kernel
theorem dX2_add_66 : decode cX2_add 66 = .ok (.iinc 5 1, 3) := by decide +kernel
theorem dX2_add_69 : decode cX2_add 69 = .ok (.goto (-23), 3) := by decide +kernel
theorem dX2_add_72 : decode cX2_add 72 = .ok (.aload_n 0, 1) := by decide +kernel
theorem dX2_add_73 : decode cX2_add 73 = .ok (.dup, 1) := by decide +kernel
theorem dX2_add_74 : decode cX2_add 74 = .ok (.getfield 9, 3) := by decide +kernel
theorem dX2_add_77 : decode cX2_add 77 = .ok (.iconst 1, 1) := by decide +kernel
theorem dX2_add_78 : decode cX2_add 78 = .ok (.iadd, 1) := by decide +kernel
theorem dX2_add_79 : decode cX2_add 79 = .ok (.putfield 9, 3) := by decide +kernel
theorem dX2_add_82 : decode cX2_add 82 = .ok (.iload 4, 2) := by decide +kernel
theorem dX2_add_84 : decode cX2_add 84 = .ok (.ireturn, 1) := by decide +kernel
theorem dX2_isRow_0 : decode cX2_isRow 0 = .ok (.aload_n 0, 1) := by decide +kernel
theorem dX2_isRow_1 : decode cX2_isRow 1 = .ok (.getfield 31, 3) := by decide +kernel
theorem dX2_isRow_4 : decode cX2_isRow 4 = .ok (.getfield 41, 3) := by decide +kernel
theorem dX2_isRow_7 : decode cX2_isRow 7 = .ok (.aload_n 0, 1) := by decide +kernel
theorem dX2_isRow_8 : decode cX2_isRow 8 = .ok (.getfield 15, 3) := by decide +kernel
theorem dX2_isRow_11 : decode cX2_isRow 11 = .ok (.iload_n 1, 1) := by decide +kernel
theorem dX2_isRow_12 : decode cX2_isRow 12 = .ok (.iaload, 1) := by decide +kernel
theorem dX2_isRow_13 : decode cX2_isRow 13 = .ok (.iaload, 1) := by decide +kernel
theorem dX2_isRow_14 : decode cX2_isRow 14 = .ok (.iconst 1, 1) := by decide +kernel
theorem dX2_isRow_15 : decode cX2_isRow 15 = .ok (.if_icmp .ne 7, 3) := by decide +kernel
theorem dX2_isRow_18 : decode cX2_isRow 18 = .ok (.iconst 1, 1) := by decide +kernel
theorem dX2_isRow_19 : decode cX2_isRow 19 = .ok (.goto 4, 3) := by decide +kernel
theorem dX2_isRow_22 : decode cX2_isRow 22 = .ok (.iconst 0, 1) := by decide +kernel
theorem dX2_isRow_23 : decode cX2_isRow 23 = .ok (.ireturn, 1) := by decide +kernel
theorem dX2_classOf_0 : decode cX2_classOf 0 = .ok (.aload_n 0, 1) := by decide +kernel
theorem dX2_classOf_1 : decode cX2_classOf 1 = .ok (.getfield 31, 3) := by decide +kernel
theorem dX2_classOf_4 : decode cX2_classOf 4 = .ok (.aload_n 0, 1) := by decide +kernel
theorem dX2_classOf_5 : decode cX2_classOf 5 = .ok (.getfield 15, 3) := by decide +kernel
theorem dX2_classOf_8 : decode cX2_classOf 8 = .ok (.iload_n 1, 1) := by decide +kernel
theorem dX2_classOf_9 : decode cX2_classOf 9 = .ok (.iaload, 1) := by decide +kernel
theorem dX2_classOf_10 : decode cX2_classOf 10 = .ok (.invokevirtual 46, 3) := by decide +kernel
theorem dX2_classOf_13 : decode cX2_classOf 13 = .ok (.ireturn, 1) := by decide +kernel
theorem dX2_rowClass_0 : decode cX2_rowClass 0 = .ok (.aload_n 0, 1) := by decide +kernel
theorem dX2_rowClass_1 : decode cX2_rowClass 1 = .ok (.getfield 31, 3) := by decide +kernel
theorem dX2_rowClass_4 : decode cX2_rowClass 4 = .ok (.getfield 50, 3) := by decide +kernel
theorem dX2_rowClass_7 : decode cX2_rowClass 7 = .ok (.aload_n 0, 1) := by decide +kernel
theorem dX2_rowClass_8 : decode cX2_rowClass 8 = .ok (.getfield 15, 3) := by decide +kernel
theorem dX2_rowClass_11 : decode cX2_rowClass 11 = .ok (.iload_n 1, 1) := by decide +kernel
theorem dX2_rowClass_12 : decode cX2_rowClass 12 = .ok (.iaload, 1) := by decide +kernel
theorem dX2_rowClass_13 : decode cX2_rowClass 13 = .ok (.iaload, 1) := by decide +kernel
theorem dX2_rowClass_14 : decode cX2_rowClass 14 = .ok (.ireturn, 1) := by decide +kernel
theorem dX2_hasPlace_0 : decode cX2_hasPlace 0 = .ok (.iload_n 2, 1) := by decide +kernel
theorem dX2_hasPlace_1 : decode cX2_hasPlace 1 = .ok (.aload_n 0, 1) := by decide +kernel
theorem dX2_hasPlace_2 : decode cX2_hasPlace 2 = .ok (.getfield 31, 3) := by decide +kernel
theorem dX2_hasPlace_5 : decode cX2_hasPlace 5 = .ok (.getfield 53, 3) := by decide +kernel
theorem dX2_hasPlace_8 : decode cX2_hasPlace 8 = .ok (.aload_n 0, 1) := by decide +kernel
theorem dX2_hasPlace_9 : decode cX2_hasPlace 9 = .ok (.getfield 15, 3) := by decide +kernel
theorem dX2_hasPlace_12 : decode cX2_hasPlace 12 = .ok (.iload_n 1, 1) := by decide +kernel
theorem dX2_hasPlace_13 : decode cX2_hasPlace 13 = .ok (.iaload, 1) := by decide +kernel
theorem dX2_hasPlace_14 : decode cX2_hasPlace 14 = .ok (.iaload, 1) := by decide +kernel
theorem dX2_hasPlace_15 : decode cX2_hasPlace 15 = .ok (.invokestatic 56, 3) := by decide +kernel
theorem dX2_hasPlace_18 : decode cX2_hasPlace 18 = .ok (.ireturn, 1) := by decide +kernel
theorem dX2_fieldOf_0 : decode cX2_fieldOf 0 = .ok (.aload_n 0, 1) := by decide +kernel
theorem dX2_fieldOf_1 : decode cX2_fieldOf 1 = .ok (.iload_n 1, 1) := by decide +kernel
theorem dX2_fieldOf_2 : decode cX2_fieldOf 2 = .ok (.invokevirtual 60, 3) := by decide +kernel
theorem dX2_fieldOf_5 : decode cX2_fieldOf 5 = .ok (.ifCond .eq 8, 3) := by decide +kernel
theorem dX2_fieldOf_8 : decode cX2_fieldOf 8 = .ok (.bipush (-9), 2) := by decide +kernel
theorem dX2_fieldOf_10 : decode cX2_fieldOf 10 = .ok (.goto 13, 3) := by decide +kernel
theorem dX2_fieldOf_13 : decode cX2_fieldOf 13 = .ok (.aload_n 0, 1) := by decide +kernel
theorem dX2_fieldOf_14 : decode cX2_fieldOf 14 = .ok (.getfield 25, 3) := by decide +kernel
theorem dX2_fieldOf_17 : decode cX2_fieldOf 17 = .ok (.iload_n 1, 1) := by decide +kernel
theorem dX2_fieldOf_18 : decode cX2_fieldOf 18 = .ok (.iconst 5, 1) := by decide +kernel
theorem dX2_fieldOf_19 : decode cX2_fieldOf 19 = .ok (.imul, 1) := by decide +kernel
theorem dX2_fieldOf_20 : decode cX2_fieldOf 20 = .ok (.iload_n 2, 1) := by decide +kernel
theorem dX2_fieldOf_21 : decode cX2_fieldOf 21 = .ok (.iadd, 1) := by decide +kernel
theorem dX2_fieldOf_22 : decode cX2_fieldOf 22 = .ok (.iaload, 1) := by decide +kernel
theorem dX2_fieldOf_23 : decode cX2_fieldOf 23 = .ok (.ireturn, 1) := by decide +kernel
theorem dX2_placeOf_0 : decode cX2_placeOf 0 = .ok (.aload_n 0, 1) := by decide +kernel
theorem dX2_placeOf_1 : decode cX2_placeOf 1 = .ok (.iload_n 1, 1) := by decide +kernel
theorem dX2_placeOf_2 : decode cX2_placeOf 2 = .ok (.invokevirtual 60, 3) := by decide +kernel
theorem dX2_placeOf_5 : decode cX2_placeOf 5 = .ok (.ifCond .eq 16, 3) := by decide +kernel
theorem dX2_placeOf_8 : decode cX2_placeOf 8 = .ok (.aload_n 0, 1) := by decide +kernel
theorem dX2_placeOf_9 : decode cX2_placeOf 9 = .ok (.getfield 25, 3) := by decide +kernel
theorem dX2_placeOf_12 : decode cX2_placeOf 12 = .ok (.iload_n 1, 1) := by decide +kernel
theorem dX2_placeOf_13 : decode cX2_placeOf 13 = .ok (.iconst 5, 1) := by decide +kernel
theorem dX2_placeOf_14 : decode cX2_placeOf 14 = .ok (.imul, 1) := by decide +kernel
theorem dX2_placeOf_15 : decode cX2_placeOf 15 = .ok (.iload_n 2, 1) := by decide +kernel
theorem dX2_placeOf_16 : decode cX2_placeOf 16 = .ok (.iadd, 1) := by decide +kernel
theorem dX2_placeOf_17 : decode cX2_placeOf 17 = .ok (.iaload, 1) := by decide +kernel
theorem dX2_placeOf_18 : decode cX2_placeOf 18 = .ok (.goto 5, 3) := by decide +kernel
theorem dX2_placeOf_21 : decode cX2_placeOf 21 = .ok (.bipush (-9), 2) := by decide +kernel
theorem dX2_placeOf_23 : decode cX2_placeOf 23 = .ok (.ireturn, 1) := by decide +kernel
theorem dX2_countOf_0 : decode cX2_countOf 0 = .ok (.iconst 0, 1) := by decide +kernel
theorem dX2_countOf_1 : decode cX2_countOf 1 = .ok (.istore_n 2, 1) := by decide +kernel
theorem dX2_countOf_2 : decode cX2_countOf 2 = .ok (.iconst 0, 1) := by decide +kernel
theorem dX2_countOf_3 : decode cX2_countOf 3 = .ok (.istore_n 3, 1) := by decide +kernel
theorem dX2_countOf_4 : decode cX2_countOf 4 = .ok (.iload_n 3, 1) := by decide +kernel
theorem dX2_countOf_5 : decode cX2_countOf 5 = .ok (.aload_n 0, 1) := by decide +kernel
theorem dX2_countOf_6 : decode cX2_countOf 6 = .ok (.getfield 9, 3) := by decide +kernel
theorem dX2_countOf_9 : decode cX2_countOf 9 = .ok (.if_icmp .ge 22, 3) := by decide +kernel
theorem dX2_countOf_12 : decode cX2_countOf 12 = .ok (.aload_n 0, 1) := by decide +kernel
theorem dX2_countOf_13 : decode cX2_countOf 13 = .ok (.getfield 19, 3) := by decide +kernel
theorem dX2_countOf_16 : decode cX2_countOf 16 = .ok (.iload_n 3, 1) := by decide +kernel
theorem dX2_countOf_17 : decode cX2_countOf 17 = .ok (.iaload, 1) := by decide +kernel
theorem dX2_countOf_18 : decode cX2_countOf 18 = .ok (.iload_n 1, 1) := by decide +kernel
theorem dX2_countOf_19 : decode cX2_countOf 19 = .ok (.if_icmp .ne 6, 3) := by decide +kernel
theorem dX2_countOf_22 : decode cX2_countOf 22 = .ok (.iinc 2 1, 3) := by decide +kernel
theorem dX2_countOf_25 : decode cX2_countOf 25 = .ok (.iinc 3 1, 3) := by decide +kernel
theorem dX2_countOf_28 : decode cX2_countOf 28 = .ok (.goto (-24), 3) := by decide +kernel
theorem dX2_countOf_31 : decode cX2_countOf 31 = .ok (.iload_n 2, 1) := by decide +kernel
theorem dX2_countOf_32 : decode cX2_countOf 32 = .ok (.ireturn, 1) := by decide +kernel
theorem dX3_init_0 : decode cX3_init 0 = .ok (.aload_n 0, 1) := by decide +kernel
theorem dX3_init_1 : decode cX3_init 1 = .ok (.invokespecial 3, 3) := by decide +kernel
theorem dX3_init_4 : decode cX3_init 4 = .ok (.aload_n 0, 1) := by decide +kernel
theorem dX3_init_5 : decode cX3_init 5 = .ok (.iconst 1, 1) := by decide +kernel
theorem dX3_init_6 : decode cX3_init 6 = .ok (.putfield 9, 3) := by decide +kernel
theorem dX3_init_9 : decode cX3_init 9 = .ok (.aload_n 0, 1) := by decide +kernel
theorem dX3_init_10 : decode cX3_init 10 = .ok (.iconst 0, 1) := by decide +kernel
theorem dX3_init_11 : decode cX3_init 11 = .ok (.putfield 15, 3) := by decide +kernel
theorem dX3_init_14 : decode cX3_init 14 = .ok (.aload_n 0, 1) := by decide +kernel
theorem dX3_init_15 : decode cX3_init 15 = .ok (.iconst 0, 1) := by decide +kernel
theorem dX3_init_16 : decode cX3_init 16 = .ok (.putfield 18, 3) := by decide +kernel
theorem dX3_init_19 : decode cX3_init 19 = .ok (.aload_n 0, 1) := by decide +kernel
theorem dX3_init_20 : decode cX3_init 20 = .ok (.iconst 0, 1) := by decide +kernel
theorem dX3_init_21 : decode cX3_init 21 = .ok (.putfield 21, 3) := by decide +kernel
theorem dX3_init_24 : decode cX3_init 24 = .ok (.aload_n 0, 1) := by decide +kernel
theorem dX3_init_25 : decode cX3_init 25 = .ok (.bipush 10, 2) := by decide +kernel
theorem dX3_init_27 : decode cX3_init 27 = .ok (.newarray .int, 2) := by decide +kernel
theorem dX3_init_29 : decode cX3_init 29 = .ok (.putfield 24, 3) := by decide +kernel
theorem dX3_init_32 : decode cX3_init 32 = .ok (.aload_n 0, 1) := by decide +kernel
theorem dX3_init_33 : decode cX3_init 33 = .ok (.bipush 12, 2) := by decide +kernel
theorem dX3_init_35 : decode cX3_init 35 = .ok (.newarray .int, 2) := by decide +kernel
theorem dX3_init_37 : decode cX3_init 37 = .ok (.putfield 28, 3) := by decide +kernel
theorem dX3_init_40 : decode cX3_init 40 = .ok (.aload_n 0, 1) := by decide +kernel
theorem dX3_init_41 : decode cX3_init 41 = .ok (.bipush 12, 2) := by decide +kernel
theorem dX3_init_43 : decode cX3_init 43 = .ok (.newarray .int, 2) := by decide +kernel
theorem dX3_init_45 : decode cX3_init 45 = .ok (.putfield 31, 3) := by decide +kernel
theorem dX3_init_48 : decode cX3_init 48 = .ok (.aload_n 0, 1) := by decide +kernel
theorem dX3_init_49 : decode cX3_init 49 = .ok (.bipush 80, 2) := by decide +kernel
theorem dX3_init_51 : decode cX3_init 51 = .ok (.newarray .int, 2) := by decide +kernel
theorem dX3_init_53 : decode cX3_init 53 = .ok (.putfield 34, 3) := by decide +kernel
theorem dX3_init_56 : decode cX3_init 56 = .ok (.aload_n 0, 1) := by decide +kernel
theorem dX3_init_57 : decode cX3_init 57 = .ok (.bipush 12, 2) := by decide +kernel
theorem dX3_init_59 : decode cX3_init 59 = .ok (.newarray .int, 2) := by decide +kernel
theorem dX3_init_61 : decode cX3_init 61 = .ok (.putfield 37, 3) := by decide +kernel
theorem dX3_init_64 : decode cX3_init 64 = .ok (.aload_n 0, 1) := by decide +kernel
theorem dX3_init_65 : decode cX3_init 65 = .ok (.sipush 1080, 3) := by decide +kernel
theorem dX3_init_68 : decode cX3_init 68 = .ok (.newarray .int, 2) := by decide +kernel
theorem dX3_init_70 : decode cX3_init 70 = .ok (.putfield 40, 3) := by decide +kernel
theorem dX3_init_73 : decode cX3_init 73 = .ok (.aload_n 0, 1) := by decide +kernel
theorem dX3_init_74 : decode cX3_init 74 = .ok (.bipush 90, 2) := by decide +kernel
theorem dX3_init_76 : decode cX3_init 76 = .ok (.newarray .int, 2) := by decide +kernel
theorem dX3_init_78 : decode cX3_init 78 = .ok (.putfield 43, 3) := by decide +kernel
theorem dX3_init_81 : decode cX3_init 81 = .ok (.aload_n 0, 1) := by decide +kernel
theorem dX3_init_82 : decode cX3_init 82 = .ok (.bipush 90, 2) := by decide +kernel
theorem dX3_init_84 : decode cX3_init 84 = .ok (.newarray .int, 2) := by decide +kernel
theorem dX3_init_86 : decode cX3_init 86 = .ok (.putfield 46, 3) := by decide +kernel
theorem dX3_init_89 : decode cX3_init 89 = .ok (.aload_n 0, 1) := by decide +kernel
theorem dX3_init_90 : decode cX3_init 90 = .ok (.bipush 90, 2) := by decide +kernel
theorem dX3_init_92 : decode cX3_init 92 = .ok (.newarray .int, 2) := by decide +kernel
theorem dX3_init_94 : decode cX3_init 94 = .ok (.putfield 49, 3) := by decide +kernel
theorem dX3_init_97 : decode cX3_init 97 = .ok (.aload_n 0, 1) := by decide +kernel
theorem dX3_init_98 : decode cX3_init 98 = .ok (.bipush 90, 2) := by decide +kernel
theorem dX3_init_100 : decode cX3_init 100 = .ok (.newarray .int, 2) := by decide +kernel
theorem dX3_init_102 : decode cX3_init 102 = .ok (.putfield 52, 3) := by decide +kernel
theorem dX3_init_105 : decode cX3_init 105 = .ok (.aload_n 0, 1) := by decide +kernel
theorem dX3_init_106 : decode cX3_init 106 = .ok (.bipush 90, 2) := by decide +kernel
theorem dX3_init_108 : decode cX3_init 108 = .ok (.newarray .int, 2) := by decide +kernel
theorem dX3_init_110 : decode cX3_init 110 = .ok (.putfield 55, 3) := by decide +kernel
theorem dX3_init_113 : decode cX3_init 113 = .ok (.aload_n 0, 1) := by decide +kernel
theorem dX3_init_114 : decode cX3_init 114 = .ok (.bipush 90, 2) := by decide +kernel
theorem dX3_init_116 : decode cX3_init 116 = .ok (.newarray .int, 2) := by decide +kernel
theorem dX3_init_118 : decode cX3_init 118 = .ok (.putfield 58, 3) := by decide +kernel
theorem dX3_init_121 : decode cX3_init 121 = .ok (.aload_n 0, 1) := by decide +kernel
theorem dX3_init_122 : decode cX3_init 122 = .ok (.bipush 90, 2) := by decide +kernel
theorem dX3_init_124 : decode cX3_init 124 = .ok (.newarray .int, 2) := by decide +kernel
theorem dX3_init_126 : decode cX3_init 126 = .ok (.putfield 61, 3) := by decide +kernel
theorem dX3_init_129 : decode cX3_init 129 = .ok (.aload_n 0, 1) := by decide +kernel
theorem dX3_init_130 : decode cX3_init 130 = .ok (.getfield 24, 3) := by decide +kernel
theorem dX3_init_133 : decode cX3_init 133 = .ok (.iconst 0, 1) := by decide +kernel
theorem dX3_init_134 : decode cX3_init 134 = .ok (.iconst 1, 1) := by decide +kernel
theorem dX3_init_135 : decode cX3_init 135 = .ok (.iastore, 1) := by decide +kernel
theorem dX3_init_136 : decode cX3_init 136 = .ok (.aload_n 0, 1) := by decide +kernel
theorem dX3_init_137 : decode cX3_init 137 = .ok (.getfield 34, 3) := by decide +kernel
theorem dX3_init_140 : decode cX3_init 140 = .ok (.iconst (-1), 1) := by decide +kernel
theorem dX3_init_141 : decode cX3_init 141 = .ok (.invokestatic 64, 3) := by decide +kernel
theorem dX3_init_144 : decode cX3_init 144 = .ok (.return_, 1) := by decide +kernel
theorem dX3_isClass_0 : decode cX3_isClass 0 = .ok (.iload_n 1, 1) := by decide +kernel
theorem dX3_isClass_1 : decode cX3_isClass 1 = .ok (.aload_n 0, 1) := by decide +kernel
theorem dX3_isClass_2 : decode cX3_isClass 2 = .ok (.getfield 9, 3) := by decide +kernel
theorem dX3_isClass_5 : decode cX3_isClass 5 = .ok (.invokestatic 70, 3) := by decide +kernel
theorem dX3_isClass_8 : decode cX3_isClass 8 = .ok (.ireturn, 1) := by decide +kernel
theorem dX3_isMethod_0 : decode cX3_isMethod 0 = .ok (.iload_n 1, 1) := by decide +kernel
theorem dX3_isMethod_1 : decode cX3_isMethod 1 = .ok (.aload_n 0, 1) := by decide +kernel
theorem dX3_isMethod_2 : decode cX3_isMethod 2 = .ok (.getfield 15, 3) := by decide +kernel
theorem dX3_isMethod_5 : decode cX3_isMethod 5 = .ok (.invokestatic 70, 3) := by decide +kernel
theorem dX3_isMethod_8 : decode cX3_isMethod 8 = .ok (.ireturn, 1) := by decide +kernel
theorem dX3_isStatic_0 : decode cX3_isStatic 0 = .ok (.aload_n 0, 1) := by decide +kernel
theorem dX3_isStatic_1 : decode cX3_isStatic 1 = .ok (.iload_n 1, 1) := by decide +kernel
theorem dX3_isStatic_2 : decode cX3_isStatic 2 = .ok (.invokevirtual 74, 3) := by decide +kernel
theorem dX3_isStatic_5 : decode cX3_isStatic 5 = .ok (.ifCond .eq 16, 3) := by decide +kernel
theorem dX3_isStatic_8 : decode cX3_isStatic 8 = .ok (.aload_n 0, 1) := by decide +kernel
theorem dX3_isStatic_9 : decode cX3_isStatic 9 = .ok (.getfield 28, 3) := by decide +kernel
theorem dX3_isStatic_12 : decode cX3_isStatic 12 = .ok (.iload_n 1, 1) := by decide +kernel
theorem dX3_isStatic_13 : decode cX3_isStatic 13 = .ok (.iaload, 1) := by decide +kernel
theorem dX3_isStatic_14 : decode cX3_isStatic 14 = .ok (.ifCond .ge 7, 3) := by decide +kernel
theorem dX3_isStatic_17 : decode cX3_isStatic 17 = .ok (.iconst 1, 1) := by decide +kernel
theorem dX3_isStatic_18 : decode cX3_isStatic 18 = .ok (.goto 4, 3) := by decide +kernel
theorem dX3_isStatic_21 : decode cX3_isStatic 21 = .ok (.iconst 0, 1) := by decide +kernel
theorem dX3_isStatic_22 : decode cX3_isStatic 22 = .ok (.ireturn, 1) := by decide +kernel
theorem dX3_isLeading_0 : decode cX3_isLeading 0 = .ok (.iload_n 1, 1) := by decide +kernel
theorem dX3_isLeading_1 : decode cX3_isLeading 1 = .ok (.aload_n 0, 1) := by decide +kernel
theorem dX3_isLeading_2 : decode cX3_isLeading 2 = .ok (.getfield 18, 3) := by decide +kernel
theorem dX3_isLeading_5 : decode cX3_isLeading 5 = .ok (.invokestatic 70, 3) := by decide +kernel
theorem dX3_isLeading_8 : decode cX3_isLeading 8 = .ok (.ifCond .eq 29, 3) := by decide +kernel
theorem dX3_isLeading_11 : decode cX3_isLeading 11 = .ok (.aload_n 0, 1) := by decide +kernel
theorem dX3_isLeading_12 : decode cX3_isLeading 12 = .ok (.getfield 43, 3) := by decide +kernel
theorem dX3_isLeading_15 : decode cX3_isLeading 15 = .ok (.iload_n 1, 1) := by decide +kernel
theorem dX3_isLeading_16 : decode cX3_isLeading 16 = .ok (.iaload, 1) := by decide +kernel
theorem dX3_isLeading_17 : decode cX3_isLeading 17 = .ok (.bipush 9, 2) := by decide +kernel
theorem dX3_isLeading_19 : decode cX3_isLeading 19 = .ok (.if_icmp .eq 14, 3) := by decide +kernel
theorem dX3_isLeading_22 : decode cX3_isLeading 22 = .ok (.aload_n 0, 1) := by decide +kernel
theorem dX3_isLeading_23 : decode cX3_isLeading 23 = .ok (.getfield 43, 3) := by decide +kernel
theorem dX3_isLeading_26 : decode cX3_isLeading 26 = .ok (.iload_n 1, 1) := by decide +kernel
theorem dX3_isLeading_27 : decode cX3_isLeading 27 = .ok (.iaload, 1) := by decide +kernel
theorem dX3_isLeading_28 : decode cX3_isLeading 28 = .ok (.bipush 10, 2) := by decide +kernel
theorem dX3_isLeading_30 : decode cX3_isLeading 30 = .ok (.if_icmp .ne 7, 3) := by decide +kernel
theorem dX3_isLeading_33 : decode cX3_isLeading 33 = .ok (.iconst 1, 1) := by decide +kernel
theorem dX3_isLeading_34 : decode cX3_isLeading 34 = .ok (.goto 4, 3) := by decide +kernel
theorem dX3_isLeading_37 : decode cX3_isLeading 37 = .ok (.iconst 0, 1) := by decide +kernel
theorem dX3_isLeading_38 : decode cX3_isLeading 38 = .ok (.ireturn, 1) := by decide +kernel
theorem dX3_isFreeFor_0 : decode cX3_isFreeFor 0 = .ok (.aload_n 0, 1) := by decide +kernel
theorem dX3_isFreeFor_1 : decode cX3_isFreeFor 1 = .ok (.iload_n 1, 1) := by decide +kernel
theorem dX3_isFreeFor_2 : decode cX3_isFreeFor 2 = .ok (.invokevirtual 78, 3) := by decide +kernel
theorem dX3_isFreeFor_5 : decode cX3_isFreeFor 5 = .ok (.ifCond .eq 12, 3) := by decide +kernel
theorem dX3_isFreeFor_8 : decode cX3_isFreeFor 8 = .ok (.iload_n 2, 1) := by decide +kernel
theorem dX3_isFreeFor_9 : decode cX3_isFreeFor 9 = .ok (.bipush 8, 2) := by decide +kernel
theorem dX3_isFreeFor_11 : decode cX3_isFreeFor 11 = .ok (.invokestatic 70, 3) := by decide +kernel
theorem dX3_isFreeFor_14 : decode cX3_isFreeFor 14 = .ok (.ifCond .ne 5, 3) := by decide +kernel
theorem dX3_isFreeFor_17 : decode cX3_isFreeFor 17 = .ok (.iconst 0, 1) := by decide +kernel
theorem dX3_isFreeFor_18 : decode cX3_isFreeFor 18 = .ok (.ireturn, 1) := by decide +kernel
theorem dX3_isFreeFor_19 : decode cX3_isFreeFor 19 = .ok (.iconst 0, 1) := by decide +kernel
theorem dX3_isFreeFor_20 : decode cX3_isFreeFor 20 = .ok (.istore_n 3, 1) := by decide +kernel
theorem dX3_isFreeFor_21 : decode cX3_isFreeFor 21 = .ok (.iload_n 3, 1) := by decide +kernel
theorem dX3_isFreeFor_22 : decode cX3_isFreeFor 22 = .ok (.aload_n 0, 1) := by decide +kernel
theorem dX3_isFreeFor_23 : decode cX3_isFreeFor 23 = .ok (.getfield 15, 3) := by decide +kernel
theorem dX3_isFreeFor_26 : decode cX3_isFreeFor 26 = .ok (.if_icmp .ge 31, 3) := by decide +kernel
theorem dX3_isFreeFor_29 : decode cX3_isFreeFor 29 = .ok (.aload_n 0, 1) := by decide +kernel
theorem dX3_isFreeFor_30 : decode cX3_isFreeFor 30 = .ok (.getfield 28, 3) := by decide +kernel
theorem dX3_isFreeFor_33 : decode cX3_isFreeFor 33 = .ok (.iload_n 3, 1) := by decide +kernel
theorem dX3_isFreeFor_34 : decode cX3_isFreeFor 34 = .ok (.iaload, 1) := by decide +kernel
theorem dX3_isFreeFor_35 : decode cX3_isFreeFor 35 = .ok (.iload_n 1, 1) := by decide +kernel
theorem dX3_isFreeFor_36 : decode cX3_isFreeFor 36 = .ok (.if_icmp .ne 15, 3) := by decide +kernel
theorem dX3_isFreeFor_39 : decode cX3_isFreeFor 39 = .ok (.aload_n 0, 1) := by decide +kernel
theorem dX3_isFreeFor_40 : decode cX3_isFreeFor 40 = .ok (.getfield 31, 3) := by decide +kernel
theorem dX3_isFreeFor_43 : decode cX3_isFreeFor 43 = .ok (.iload_n 3, 1) := by decide +kernel
theorem dX3_isFreeFor_44 : decode cX3_isFreeFor 44 = .ok (.iaload, 1) := by decide +kernel
theorem dX3_isFreeFor_45 : decode cX3_isFreeFor 45 = .ok (.iload_n 2, 1) := by decide +kernel
theorem dX3_isFreeFor_46 : decode cX3_isFreeFor 46 = .ok (.if_icmp .ne 5, 3) := by decide +kernel
theorem dX3_isFreeFor_49 : decode cX3_isFreeFor 49 = .ok (.iconst 0, 1) := by decide +kernel
theorem dX3_isFreeFor_50 : decode cX3_isFreeFor 50 = .ok (.ireturn, 1) := by decide +kernel
theorem dX3_isFreeFor_51 : decode cX3_isFreeFor 51 = .ok (.iinc 3 1, 3) := by decide +kernel
theorem dX3_isFreeFor_54 : decode cX3_isFreeFor 54 = .ok (.goto (-33), 3) := by decide +kernel
theorem dX3_isFreeFor_57 : decode cX3_isFreeFor 57 = .ok (.iconst 1, 1) := by decide +kernel
theorem dX3_isFreeFor_58 : decode cX3_isFreeFor 58 = .ok (.ireturn, 1) := by decide +kernel
theorem dX3_isOfSort_0 : decode cX3_isOfSort 0 = .ok (.iload_n 1, 1) := by decide +kernel
theorem dX3_isOfSort_1 : decode cX3_isOfSort 1 = .ok (.tableswitch 120 1 9 #[51, 58, 64, 70, 77, 84, 91, 97, 114], 51) := by decide +kernel
theorem dX3_isOfSort_52 : decode cX3_isOfSort 52 = .ok (.iload_n 2, 1) := by decide +kernel
theorem dX3_isOfSort_53 : decode cX3_isOfSort 53 = .ok (.bipush 6, 2) := by decide +kernel
theorem dX3_isOfSort_55 : decode cX3_isOfSort 55 = .ok (.invokestatic 70, 3) := by decide +kernel
theorem dX3_isOfSort_58 : decode cX3_isOfSort 58 = .ok (.ireturn, 1) := by decide +kernel
theorem dX3_isOfSort_59 : decode cX3_isOfSort 59 = .ok (.aload_n 0, 1) := by decide +kernel
theorem dX3_isOfSort_60 : decode cX3_isOfSort 60 = .ok (.iload_n 2, 1) := by decide +kernel
theorem dX3_isOfSort_61 : decode cX3_isOfSort 61 = .ok (.invokevirtual 78, 3) := by decide +kernel
theorem dX3_isOfSort_64 : decode cX3_isOfSort 64 = .ok (.ireturn, 1) := by decide +kernel
theorem dX3_isOfSort_65 : decode cX3_isOfSort 65 = .ok (.iload_n 2, 1) := by decide +kernel
theorem dX3_isOfSort_66 : decode cX3_isOfSort 66 = .ok (.iconst 4, 1) := by decide +kernel
theorem dX3_isOfSort_67 : decode cX3_isOfSort 67 = .ok (.invokestatic 70, 3) := by decide +kernel
theorem dX3_isOfSort_70 : decode cX3_isOfSort 70 = .ok (.ireturn, 1) := by decide +kernel
theorem dX3_isOfSort_71 : decode cX3_isOfSort 71 = .ok (.iload_n 2, 1) := by decide +kernel
theorem dX3_isOfSort_72 : decode cX3_isOfSort 72 = .ok (.bipush 8, 2) := by decide +kernel
theorem dX3_isOfSort_74 : decode cX3_isOfSort 74 = .ok (.invokestatic 70, 3) := by decide +kernel
theorem dX3_isOfSort_77 : decode cX3_isOfSort 77 = .ok (.ireturn, 1) := by decide +kernel
theorem dX3_isOfSort_78 : decode cX3_isOfSort 78 = .ok (.iload_n 2, 1) := by decide +kernel
theorem dX3_isOfSort_79 : decode cX3_isOfSort 79 = .ok (.bipush 6, 2) := by decide +kernel
theorem dX3_isOfSort_81 : decode cX3_isOfSort 81 = .ok (.invokestatic 70, 3) := by decide +kernel
theorem dX3_isOfSort_84 : decode cX3_isOfSort 84 = .ok (.ireturn, 1) := by decide +kernel
theorem dX3_isOfSort_85 : decode cX3_isOfSort 85 = .ok (.iload_n 2, 1) := by decide +kernel
theorem dX3_isOfSort_86 : decode cX3_isOfSort 86 = .ok (.bipush 8, 2) := by decide +kernel
theorem dX3_isOfSort_88 : decode cX3_isOfSort 88 = .ok (.invokestatic 70, 3) := by decide +kernel
theorem dX3_isOfSort_91 : decode cX3_isOfSort 91 = .ok (.ireturn, 1) := by decide +kernel
theorem dX3_isOfSort_92 : decode cX3_isOfSort 92 = .ok (.aload_n 0, 1) := by decide +kernel
theorem dX3_isOfSort_93 : decode cX3_isOfSort 93 = .ok (.iload_n 2, 1) := by decide +kernel
theorem dX3_isOfSort_94 : decode cX3_isOfSort 94 = .ok (.invokevirtual 81, 3) := by decide +kernel
theorem dX3_isOfSort_97 : decode cX3_isOfSort 97 = .ok (.ireturn, 1) := by decide +kernel
theorem dX3_isOfSort_98 : decode cX3_isOfSort 98 = .ok (.iload_n 2, 1) := by decide +kernel
theorem dX3_isOfSort_99 : decode cX3_isOfSort 99 = .ok (.iconst 1, 1) := by decide +kernel
theorem dX3_isOfSort_100 : decode cX3_isOfSort 100 = .ok (.if_icmp .lt 13, 3) := by decide +kernel
theorem dX3_isOfSort_103 : decode cX3_isOfSort 103 = .ok (.iload_n 2, 1) := by decide +kernel
theorem dX3_isOfSort_104 : decode cX3_isOfSort 104 = .ok (.bipush 30, 2) := by decide +kernel
theorem dX3_isOfSort_106 : decode cX3_isOfSort 106 = .ok (.if_icmp .gt 7, 3) := by decide +kernel
theorem dX3_isOfSort_109 : decode cX3_isOfSort 109 = .ok (.iconst 1, 1) := by decide +kernel
theorem dX3_isOfSort_110 : decode cX3_isOfSort 110 = .ok (.goto 4, 3) := by decide +kernel
theorem dX3_isOfSort_113 : decode cX3_isOfSort 113 = .ok (.iconst 0, 1) := by decide +kernel
theorem dX3_isOfSort_114 : decode cX3_isOfSort 114 = .ok (.ireturn, 1) := by decide +kernel
theorem dX3_isOfSort_115 : decode cX3_isOfSort 115 = .ok (.iload_n 2, 1) := by decide +kernel
theorem dX3_isOfSort_116 : decode cX3_isOfSort 116 = .ok (.iconst 4, 1) := by decide +kernel
theorem dX3_isOfSort_117 : decode cX3_isOfSort 117 = .ok (.invokestatic 70, 3) := by decide +kernel
theorem dX3_isOfSort_120 : decode cX3_isOfSort 120 = .ok (.ireturn, 1) := by decide +kernel
theorem dX3_isOfSort_121 : decode cX3_isOfSort 121 = .ok (.iconst 1, 1) := by decide +kernel
theorem dX3_isOfSort_122 : decode cX3_isOfSort 122 = .ok (.ireturn, 1) := by decide +kernel
theorem dX3_hasRoomFor_0 : decode cX3_hasRoomFor 0 = .ok (.aload_n 0, 1) := by decide +kernel
theorem dX3_hasRoomFor_1 : decode cX3_hasRoomFor 1 = .ok (.getfield 18, 3) := by decide +kernel
theorem dX3_hasRoomFor_4 : decode cX3_hasRoomFor 4 = .ok (.bipush 90, 2) := by decide +kernel
theorem dX3_hasRoomFor_6 : decode cX3_hasRoomFor 6 = .ok (.if_icmp .ge 21, 3) := by decide +kernel
theorem dX3_hasRoomFor_9 : decode cX3_hasRoomFor 9 = .ok (.iload_n 1, 1) := by decide +kernel
theorem dX3_hasRoomFor_10 : decode cX3_hasRoomFor 10 = .ok (.iconst 1, 1) := by decide +kernel
theorem dX3_hasRoomFor_11 : decode cX3_hasRoomFor 11 = .ok (.if_icmp .gt 12, 3) := by decide +kernel
theorem dX3_hasRoomFor_14 : decode cX3_hasRoomFor 14 = .ok (.aload_n 0, 1) := by decide +kernel
theorem dX3_hasRoomFor_15 : decode cX3_hasRoomFor 15 = .ok (.getfield 21, 3) := by decide +kernel
theorem dX3_hasRoomFor_18 : decode cX3_hasRoomFor 18 = .ok (.bipush 55, 2) := by decide +kernel
theorem dX3_hasRoomFor_20 : decode cX3_hasRoomFor 20 = .ok (.if_icmp .ge 7, 3) := by decide +kernel
theorem dX3_hasRoomFor_23 : decode cX3_hasRoomFor 23 = .ok (.iconst 1, 1) := by decide +kernel
theorem dX3_hasRoomFor_24 : decode cX3_hasRoomFor 24 = .ok (.goto 4, 3) := by decide +kernel
theorem dX3_hasRoomFor_27 : decode cX3_hasRoomFor 27 = .ok (.iconst 0, 1) := by decide +kernel
theorem dX3_hasRoomFor_28 : decode cX3_hasRoomFor 28 = .ok (.ireturn, 1) := by decide +kernel
theorem dX3_addClass_0 : decode cX3_addClass 0 = .ok (.aload_n 0, 1) := by decide +kernel
theorem dX3_addClass_1 : decode cX3_addClass 1 = .ok (.getfield 24, 3) := by decide +kernel
theorem dX3_addClass_4 : decode cX3_addClass 4 = .ok (.aload_n 0, 1) := by decide +kernel
theorem dX3_addClass_5 : decode cX3_addClass 5 = .ok (.getfield 9, 3) := by decide +kernel
theorem dX3_addClass_8 : decode cX3_addClass 8 = .ok (.aload_n 0, 1) := by decide +kernel
theorem dX3_addClass_9 : decode cX3_addClass 9 = .ok (.getfield 24, 3) := by decide +kernel
theorem dX3_addClass_12 : decode cX3_addClass 12 = .ok (.iload_n 1, 1) := by decide +kernel
theorem dX3_addClass_13 : decode cX3_addClass 13 = .ok (.iaload, 1) := by decide +kernel
theorem dX3_addClass_14 : decode cX3_addClass 14 = .ok (.iconst 1, 1) := by decide +kernel
theorem dX3_addClass_15 : decode cX3_addClass 15 = .ok (.aload_n 0, 1) := by decide +kernel
theorem dX3_addClass_16 : decode cX3_addClass 16 = .ok (.getfield 9, 3) := by decide +kernel
theorem dX3_addClass_19 : decode cX3_addClass 19 = .ok (.ishl, 1) := by decide +kernel
theorem dX3_addClass_20 : decode cX3_addClass 20 = .ok (.ior, 1) := by decide +kernel
theorem dX3_addClass_21 : decode cX3_addClass 21 = .ok (.iastore, 1) := by decide +kernel
theorem dX3_addClass_22 : decode cX3_addClass 22 = .ok (.aload_n 0, 1) := by decide +kernel
theorem dX3_addClass_23 : decode cX3_addClass 23 = .ok (.getfield 34, 3) := by decide +kernel
theorem dX3_addClass_26 : decode cX3_addClass 26 = .ok (.iload_n 1, 1) := by decide +kernel
theorem dX3_addClass_27 : decode cX3_addClass 27 = .ok (.bipush 8, 2) := by decide +kernel
theorem dX3_addClass_29 : decode cX3_addClass 29 = .ok (.imul, 1) := by decide +kernel
theorem dX3_addClass_30 : decode cX3_addClass 30 = .ok (.aload_n 0, 1) := by decide +kernel
theorem dX3_addClass_31 : decode cX3_addClass 31 = .ok (.getfield 34, 3) := by decide +kernel
theorem dX3_addClass_34 : decode cX3_addClass 34 = .ok (.aload_n 0, 1) := by decide +kernel
theorem dX3_addClass_35 : decode cX3_addClass 35 = .ok (.getfield 9, 3) := by decide +kernel
theorem dX3_addClass_38 : decode cX3_addClass 38 = .ok (.bipush 8, 2) := by decide +kernel
theorem dX3_addClass_40 : decode cX3_addClass 40 = .ok (.imul, 1) := by decide +kernel
theorem dX3_addClass_41 : decode cX3_addClass 41 = .ok (.bipush 8, 2) := by decide +kernel
theorem dX3_addClass_43 : decode cX3_addClass 43 = .ok (.invokestatic 84, 3) := by decide +kernel
theorem dX3_addClass_46 : decode cX3_addClass 46 = .ok (.aload_n 0, 1) := by decide +kernel
theorem dX3_addClass_47 : decode cX3_addClass 47 = .ok (.dup, 1) := by decide +kernel
theorem dX3_addClass_48 : decode cX3_addClass 48 = .ok (.getfield 9, 3) := by decide +kernel
theorem dX3_addClass_51 : decode cX3_addClass 51 = .ok (.iconst 1, 1) := by decide +kernel
theorem dX3_addClass_52 : decode cX3_addClass 52 = .ok (.iadd, 1) := by decide +kernel
theorem dX3_addClass_53 : decode cX3_addClass 53 = .ok (.putfield 9, 3) := by decide +kernel
theorem dX3_addClass_56 : decode cX3_addClass 56 = .ok (.aload_n 0, 1) := by decide +kernel
theorem dX3_addClass_57 : decode cX3_addClass 57 = .ok (.getfield 9, 3) := by decide +kernel
theorem dX3_addClass_60 : decode cX3_addClass 60 = .ok (.iconst 1, 1) := by decide +kernel
theorem dX3_addClass_61 : decode cX3_addClass 61 = .ok (.isub, 1) := by decide +kernel
theorem dX3_addClass_62 : decode cX3_addClass 62 = .ok (.ireturn, 1) := by decide +kernel
theorem dX3_addMethod_0 : decode cX3_addMethod 0 = .ok (.aload_n 0, 1) := by decide +kernel
theorem dX3_addMethod_1 : decode cX3_addMethod 1 = .ok (.getfield 28, 3) := by decide +kernel
theorem dX3_addMethod_4 : decode cX3_addMethod 4 = .ok (.aload_n 0, 1) := by decide +kernel
theorem dX3_addMethod_5 : decode cX3_addMethod 5 = .ok (.getfield 15, 3) := by decide +kernel
theorem dX3_addMethod_8 : decode cX3_addMethod 8 = .ok (.iload_n 1, 1) := by decide +kernel
theorem dX3_addMethod_9 : decode cX3_addMethod 9 = .ok (.iastore, 1) := by decide +kernel
theorem dX3_addMethod_10 : decode cX3_addMethod 10 = .ok (.aload_n 0, 1) := by decide +kernel
theorem dX3_addMethod_11 : decode cX3_addMethod 11 = .ok (.getfield 31, 3) := by decide +kernel
theorem dX3_addMethod_14 : decode cX3_addMethod 14 = .ok (.aload_n 0, 1) := by decide +kernel
theorem dX3_addMethod_15 : decode cX3_addMethod 15 = .ok (.getfield 15, 3) := by decide +kernel
theorem dX3_addMethod_18 : decode cX3_addMethod 18 = .ok (.iload_n 2, 1) := by decide +kernel
theorem dX3_addMethod_19 : decode cX3_addMethod 19 = .ok (.iastore, 1) := by decide +kernel
theorem dX3_addMethod_20 : decode cX3_addMethod 20 = .ok (.iload_n 1, 1) := by decide +kernel
theorem dX3_addMethod_21 : decode cX3_addMethod 21 = .ok (.ifCond .lt 13, 3) := by decide +kernel
theorem dX3_addMethod_24 : decode cX3_addMethod 24 = .ok (.aload_n 0, 1) := by decide +kernel
theorem dX3_addMethod_25 : decode cX3_addMethod 25 = .ok (.iload_n 1, 1) := by decide +kernel
theorem dX3_addMethod_26 : decode cX3_addMethod 26 = .ok (.iload_n 2, 1) := by decide +kernel
theorem dX3_addMethod_27 : decode cX3_addMethod 27 = .ok (.aload_n 0, 1) := by decide +kernel
theorem dX3_addMethod_28 : decode cX3_addMethod 28 = .ok (.getfield 15, 3) := by decide +kernel
theorem dX3_addMethod_31 : decode cX3_addMethod 31 = .ok (.invokevirtual 90, 3) := by decide +kernel
theorem dX3_addMethod_34 : decode cX3_addMethod 34 = .ok (.aload_n 0, 1) := by decide +kernel
theorem dX3_addMethod_35 : decode cX3_addMethod 35 = .ok (.dup, 1) := by decide +kernel
theorem dX3_addMethod_36 : decode cX3_addMethod 36 = .ok (.getfield 15, 3) := by decide +kernel
theorem dX3_addMethod_39 : decode cX3_addMethod 39 = .ok (.iconst 1, 1) := by decide +kernel
theorem dX3_addMethod_40 : decode cX3_addMethod 40 = .ok (.iadd, 1) := by decide +kernel
theorem dX3_addMethod_41 : decode cX3_addMethod 41 = .ok (.putfield 15, 3) := by decide +kernel
theorem dX3_addMethod_44 : decode cX3_addMethod 44 = .ok (.aload_n 0, 1) := by decide +kernel
theorem dX3_addMethod_45 : decode cX3_addMethod 45 = .ok (.getfield 15, 3) := by decide +kernel
theorem dX3_addMethod_48 : decode cX3_addMethod 48 = .ok (.iconst 1, 1) := by decide +kernel
theorem dX3_addMethod_49 : decode cX3_addMethod 49 = .ok (.isub, 1) := by decide +kernel
theorem dX3_addMethod_50 : decode cX3_addMethod 50 = .ok (.ireturn, 1) := by decide +kernel
theorem dX3_setMeant_0 : decode cX3_setMeant 0 = .ok (.iload_n 1, 1) := by decide +kernel
theorem dX3_setMeant_1 : decode cX3_setMeant 1 = .ok (.istore 4, 2) := by decide +kernel
theorem dX3_setMeant_3 : decode cX3_setMeant 3 = .ok (.iload 4, 2) := by decide +kernel
theorem dX3_setMeant_5 : decode cX3_setMeant 5 = .ok (.aload_n 0, 1) := by decide +kernel
theorem dX3_setMeant_6 : decode cX3_setMeant 6 = .ok (.getfield 9, 3) := by decide +kernel
theorem dX3_setMeant_9 : decode cX3_setMeant 9 = .ok (.if_icmp .ge 74, 3) := by decide +kernel
theorem dX3_setMeant_12 : decode cX3_setMeant 12 = .ok (.iload 4, 2) := by decide +kernel
theorem dX3_setMeant_14 : decode cX3_setMeant 14 = .ok (.bipush 8, 2) := by decide +kernel
theorem dX3_setMeant_16 : decode cX3_setMeant 16 = .ok (.imul, 1) := by decide +kernel
theorem dX3_setMeant_17 : decode cX3_setMeant 17 = .ok (.iload_n 2, 1) := by decide +kernel
theorem dX3_setMeant_18 : decode cX3_setMeant 18 = .ok (.iadd, 1) := by decide +kernel
theorem dX3_setMeant_19 : decode cX3_setMeant 19 = .ok (.istore 5, 2) := by decide +kernel
theorem dX3_setMeant_21 : decode cX3_setMeant 21 = .ok (.aload_n 0, 1) := by decide +kernel
theorem dX3_setMeant_22 : decode cX3_setMeant 22 = .ok (.getfield 34, 3) := by decide +kernel
theorem dX3_setMeant_25 : decode cX3_setMeant 25 = .ok (.iload 5, 2) := by decide +kernel
theorem dX3_setMeant_27 : decode cX3_setMeant 27 = .ok (.iaload, 1) := by decide +kernel
theorem dX3_setMeant_28 : decode cX3_setMeant 28 = .ok (.ifCond .lt 19, 3) := by decide +kernel
theorem dX3_setMeant_31 : decode cX3_setMeant 31 = .ok (.aload_n 0, 1) := by decide +kernel
theorem dX3_setMeant_32 : decode cX3_setMeant 32 = .ok (.getfield 28, 3) := by decide +kernel
theorem dX3_setMeant_35 : decode cX3_setMeant 35 = .ok (.aload_n 0, 1) := by decide +kernel
theorem dX3_setMeant_36 : decode cX3_setMeant 36 = .ok (.getfield 34, 3) := by decide +kernel
theorem dX3_setMeant_39 : decode cX3_setMeant 39 = .ok (.iload 5, 2) := by decide +kernel
theorem dX3_setMeant_41 : decode cX3_setMeant 41 = .ok (.iaload, 1) := by decide +kernel
theorem dX3_setMeant_42 : decode cX3_setMeant 42 = .ok (.iaload, 1) := by decide +kernel
theorem dX3_setMeant_43 : decode cX3_setMeant 43 = .ok (.iload_n 1, 1) := by decide +kernel
theorem dX3_setMeant_44 : decode cX3_setMeant 44 = .ok (.if_icmp .ge 7, 3) := by decide +kernel
theorem dX3_setMeant_47 : decode cX3_setMeant 47 = .ok (.iconst 1, 1) := by decide +kernel
theorem dX3_setMeant_48 : decode cX3_setMeant 48 = .ok (.goto 4, 3) := by decide +kernel
theorem dX3_setMeant_51 : decode cX3_setMeant 51 = .ok (.iconst 0, 1) := by decide +kernel
theorem dX3_setMeant_52 : decode cX3_setMeant 52 = .ok (.istore 6, 2) := by decide +kernel
theorem dX3_setMeant_54 : decode cX3_setMeant 54 = .ok (.aload_n 0, 1) := by decide +kernel
theorem dX3_setMeant_55 : decode cX3_setMeant 55 = .ok (.iload 4, 2) := by decide +kernel
theorem dX3_setMeant_57 : decode cX3_setMeant 57 = .ok (.iload_n 1, 1) := by decide +kernel
theorem dX3_setMeant_58 : decode cX3_setMeant 58 = .ok (.invokevirtual 94, 3) := by decide +kernel
theorem dX3_setMeant_61 : decode cX3_setMeant 61 = .ok (.ifCond .eq 16, 3) := by decide +kernel
theorem dX3_setMeant_64 : decode cX3_setMeant 64 = .ok (.iload 6, 2) := by decide +kernel
theorem dX3_setMeant_66 : decode cX3_setMeant 66 = .ok (.ifCond .eq 11, 3) := by decide +kernel
theorem dX3_setMeant_69 : decode cX3_setMeant 69 = .ok (.aload_n 0, 1) := by decide +kernel
theorem dX3_setMeant_70 : decode cX3_setMeant 70 = .ok (.getfield 34, 3) := by decide +kernel
theorem dX3_setMeant_73 : decode cX3_setMeant 73 = .ok (.iload 5, 2) := by decide +kernel
theorem dX3_setMeant_75 : decode cX3_setMeant 75 = .ok (.iload_n 3, 1) := by decide +kernel
theorem dX3_setMeant_76 : decode cX3_setMeant 76 = .ok (.iastore, 1) := by decide +kernel
theorem dX3_setMeant_77 : decode cX3_setMeant 77 = .ok (.iinc 4 1, 3) := by decide +kernel
theorem dX3_setMeant_80 : decode cX3_setMeant 80 = .ok (.goto (-77), 3) := by decide +kernel
theorem dX3_setMeant_83 : decode cX3_setMeant 83 = .ok (.return_, 1) := by decide +kernel
theorem dX3_addStep_0 : decode cX3_addStep 0 = .ok (.aload_n 0, 1) := by decide +kernel
theorem dX3_addStep_1 : decode cX3_addStep 1 = .ok (.getfield 18, 3) := by decide +kernel
theorem dX3_addStep_4 : decode cX3_addStep 4 = .ok (.istore_n 3, 1) := by decide +kernel
theorem dX3_addStep_5 : decode cX3_addStep 5 = .ok (.aload_n 0, 1) := by decide +kernel
theorem dX3_addStep_6 : decode cX3_addStep 6 = .ok (.getfield 43, 3) := by decide +kernel
theorem dX3_addStep_9 : decode cX3_addStep 9 = .ok (.iload_n 3, 1) := by decide +kernel
theorem dX3_addStep_10 : decode cX3_addStep 10 = .ok (.iload_n 2, 1) := by decide +kernel
theorem dX3_addStep_11 : decode cX3_addStep 11 = .ok (.iastore, 1) := by decide +kernel
theorem dX3_addStep_12 : decode cX3_addStep 12 = .ok (.aload_n 0, 1) := by decide +kernel
theorem dX3_addStep_13 : decode cX3_addStep 13 = .ok (.getfield 58, 3) := by decide +kernel
theorem dX3_addStep_16 : decode cX3_addStep 16 = .ok (.iload_n 3, 1) := by decide +kernel
theorem dX3_addStep_17 : decode cX3_addStep 17 = .ok (.iload_n 1, 1) := by decide +kernel
theorem dX3_addStep_18 : decode cX3_addStep 18 = .ok (.iastore, 1) := by decide +kernel
theorem dX3_addStep_19 : decode cX3_addStep 19 = .ok (.aload_n 0, 1) := by decide +kernel
theorem dX3_addStep_20 : decode cX3_addStep 20 = .ok (.getfield 61, 3) := by decide +kernel
theorem dX3_addStep_23 : decode cX3_addStep 23 = .ok (.iload_n 3, 1) := by decide +kernel
theorem dX3_addStep_24 : decode cX3_addStep 24 = .ok (.aload_n 0, 1) := by decide +kernel
theorem dX3_addStep_25 : decode cX3_addStep 25 = .ok (.getfield 37, 3) := by decide +kernel
theorem dX3_addStep_28 : decode cX3_addStep 28 = .ok (.iload_n 1, 1) := by decide +kernel
theorem dX3_addStep_29 : decode cX3_addStep 29 = .ok (.iaload, 1) := by decide +kernel
theorem dX3_addStep_30 : decode cX3_addStep 30 = .ok (.iastore, 1) := by decide +kernel
theorem dX3_addStep_31 : decode cX3_addStep 31 = .ok (.aload_n 0, 1) := by decide +kernel
theorem dX3_addStep_32 : decode cX3_addStep 32 = .ok (.getfield 40, 3) := by decide +kernel
theorem dX3_addStep_35 : decode cX3_addStep 35 = .ok (.iload_n 1, 1) := by decide +kernel
theorem dX3_addStep_36 : decode cX3_addStep 36 = .ok (.bipush 90, 2) := by decide +kernel
theorem dX3_addStep_38 : decode cX3_addStep 38 = .ok (.imul, 1) := by decide +kernel
theorem dX3_addStep_39 : decode cX3_addStep 39 = .ok (.aload_n 0, 1) := by decide +kernel
theorem dX3_addStep_40 : decode cX3_addStep 40 = .ok (.getfield 37, 3) := by decide +kernel
theorem dX3_addStep_43 : decode cX3_addStep 43 = .ok (.iload_n 1, 1) := by decide +kernel
theorem dX3_addStep_44 : decode cX3_addStep 44 = .ok (.iaload, 1) := by decide +kernel
theorem dX3_addStep_45 : decode cX3_addStep 45 = .ok (.iadd, 1) := by decide +kernel
theorem dX3_addStep_46 : decode cX3_addStep 46 = .ok (.iload_n 3, 1) := by decide +kernel
theorem dX3_addStep_47 : decode cX3_addStep 47 = .ok (.iastore, 1) := by decide +kernel
theorem dX3_addStep_48 : decode cX3_addStep 48 = .ok (.aload_n 0, 1) := by decide +kernel
theorem dX3_addStep_49 : decode cX3_addStep 49 = .ok (.getfield 37, 3) := by decide +kernel
theorem dX3_addStep_52 : decode cX3_addStep 52 = .ok (.iload_n 1, 1) := by decide +kernel
theorem dX3_addStep_53 : decode cX3_addStep 53 = .ok (.dup2, 1) := by decide +kernel
theorem dX3_addStep_54 : decode cX3_addStep 54 = .ok (.iaload, 1) := by decide +kernel
theorem dX3_addStep_55 : decode cX3_addStep 55 = .ok (.iconst 1, 1) := by decide +kernel
theorem dX3_addStep_56 : decode cX3_addStep 56 = .ok (.iadd, 1) := by decide +kernel
theorem dX3_addStep_57 : decode cX3_addStep 57 = .ok (.iastore, 1) := by decide +kernel
theorem dX3_addStep_58 : decode cX3_addStep 58 = .ok (.aload_n 0, 1) := by decide +kernel
theorem dX3_addStep_59 : decode cX3_addStep 59 = .ok (.dup, 1) := by decide +kernel
theorem dX3_addStep_60 : decode cX3_addStep 60 = .ok (.getfield 18, 3) := by decide +kernel
theorem dX3_addStep_63 : decode cX3_addStep 63 = .ok (.iconst 1, 1) := by decide +kernel
theorem dX3_addStep_64 : decode cX3_addStep 64 = .ok (.iadd, 1) := by decide +kernel
theorem dX3_addStep_65 : decode cX3_addStep 65 = .ok (.putfield 18, 3) := by decide +kernel
theorem dX3_addStep_68 : decode cX3_addStep 68 = .ok (.iload_n 2, 1) := by decide +kernel
theorem dX3_addStep_69 : decode cX3_addStep 69 = .ok (.iconst 1, 1) := by decide +kernel
theorem dX3_addStep_70 : decode cX3_addStep 70 = .ok (.if_icmp .gt 13, 3) := by decide +kernel
theorem dX3_addStep_73 : decode cX3_addStep 73 = .ok (.aload_n 0, 1) := by decide +kernel
theorem dX3_addStep_74 : decode cX3_addStep 74 = .ok (.dup, 1) := by decide +kernel
theorem dX3_addStep_75 : decode cX3_addStep 75 = .ok (.getfield 21, 3) := by decide +kernel
theorem dX3_addStep_78 : decode cX3_addStep 78 = .ok (.iconst 1, 1) := by decide +kernel
theorem dX3_addStep_79 : decode cX3_addStep 79 = .ok (.iadd, 1) := by decide +kernel
theorem dX3_addStep_80 : decode cX3_addStep 80 = .ok (.putfield 21, 3) := by decide +kernel
theorem dX3_addStep_83 : decode cX3_addStep 83 = .ok (.iload_n 3, 1) := by decide +kernel
theorem dX3_addStep_84 : decode cX3_addStep 84 = .ok (.ireturn, 1) := by decide +kernel
theorem dX3_tellNumbers_0 : decode cX3_tellNumbers 0 = .ok (.aload_n 0, 1) := by decide +kernel
theorem dX3_tellNumbers_1 : decode cX3_tellNumbers 1 = .ok (.getfield 46, 3) := by decide +kernel
theorem dX3_tellNumbers_4 : decode cX3_tellNumbers 4 = .ok (.iload_n 1, 1) := by decide +kernel
theorem dX3_tellNumbers_5 : decode cX3_tellNumbers 5 = .ok (.iload_n 2, 1) := by decide +kernel
theorem dX3_tellNumbers_6 : decode cX3_tellNumbers 6 = .ok (.iastore, 1) := by decide +kernel
theorem dX3_tellNumbers_7 : decode cX3_tellNumbers 7 = .ok (.aload_n 0, 1) := by decide +kernel
theorem dX3_tellNumbers_8 : decode cX3_tellNumbers 8 = .ok (.getfield 49, 3) := by decide +kernel
theorem dX3_tellNumbers_11 : decode cX3_tellNumbers 11 = .ok (.iload_n 1, 1) := by decide +kernel
theorem dX3_tellNumbers_12 : decode cX3_tellNumbers 12 = .ok (.iload_n 3, 1) := by decide +kernel
theorem dX3_tellNumbers_13 : decode cX3_tellNumbers 13 = .ok (.iastore, 1) := by decide +kernel
theorem dX3_tellNumbers_14 : decode cX3_tellNumbers 14 = .ok (.aload_n 0, 1) := by decide +kernel
theorem dX3_tellNumbers_15 : decode cX3_tellNumbers 15 = .ok (.getfield 52, 3) := by decide +kernel
theorem dX3_tellNumbers_18 : decode cX3_tellNumbers 18 = .ok (.iload_n 1, 1) := by decide +kernel
theorem dX3_tellNumbers_19 : decode cX3_tellNumbers 19 = .ok (.iload 4, 2) := by decide +kernel
theorem dX3_tellNumbers_21 : decode cX3_tellNumbers 21 = .ok (.iastore, 1) := by decide +kernel
theorem dX3_tellNumbers_22 : decode cX3_tellNumbers 22 = .ok (.aload_n 0, 1) := by decide +kernel
theorem dX3_tellNumbers_23 : decode cX3_tellNumbers 23 = .ok (.getfield 55, 3) := by decide +kernel
theorem dX3_tellNumbers_26 : decode cX3_tellNumbers 26 = .ok (.iload_n 1, 1) := by decide +kernel
theorem dX3_tellNumbers_27 : decode cX3_tellNumbers 27 = .ok (.iload 5, 2) := by decide +kernel
theorem dX3_tellNumbers_29 : decode cX3_tellNumbers 29 = .ok (.iastore, 1) := by decide +kernel
theorem dX3_tellNumbers_30 : decode cX3_tellNumbers 30 = .ok (.return_, 1) := by decide +kernel
theorem dX3_stepAt_0 : decode cX3_stepAt 0 = .ok (.iload_n 2, 1) := by decide +kernel
theorem dX3_stepAt_1 : decode cX3_stepAt 1 = .ok (.ifCond .lt 27, 3) := by decide +kernel
theorem dX3_stepAt_4 : decode cX3_stepAt 4 = .ok (.iload_n 2, 1) := by decide +kernel
theorem dX3_stepAt_5 : decode cX3_stepAt 5 = .ok (.aload_n 0, 1) := by decide +kernel
theorem dX3_stepAt_6 : decode cX3_stepAt 6 = .ok (.getfield 37, 3) := by decide +kernel
theorem dX3_stepAt_9 : decode cX3_stepAt 9 = .ok (.iload_n 1, 1) := by decide +kernel
theorem dX3_stepAt_10 : decode cX3_stepAt 10 = .ok (.iaload, 1) := by decide +kernel
theorem dX3_stepAt_11 : decode cX3_stepAt 11 = .ok (.if_icmp .ge 17, 3) := by decide +kernel
theorem dX3_stepAt_14 : decode cX3_stepAt 14 = .ok (.aload_n 0, 1) := by decide +kernel
theorem dX3_stepAt_15 : decode cX3_stepAt 15 = .ok (.getfield 40, 3) := by decide +kernel
theorem dX3_stepAt_18 : decode cX3_stepAt 18 = .ok (.iload_n 1, 1) := by decide +kernel
theorem dX3_stepAt_19 : decode cX3_stepAt 19 = .ok (.bipush 90, 2) := by decide +kernel
theorem dX3_stepAt_21 : decode cX3_stepAt 21 = .ok (.imul, 1) := by decide +kernel
theorem dX3_stepAt_22 : decode cX3_stepAt 22 = .ok (.iload_n 2, 1) := by decide +kernel
theorem dX3_stepAt_23 : decode cX3_stepAt 23 = .ok (.iadd, 1) := by decide +kernel
theorem dX3_stepAt_24 : decode cX3_stepAt 24 = .ok (.iaload, 1) := by decide +kernel
theorem dX3_stepAt_25 : decode cX3_stepAt 25 = .ok (.goto 4, 3) := by decide +kernel
theorem dX3_stepAt_28 : decode cX3_stepAt 28 = .ok (.iconst (-1), 1) := by decide +kernel
theorem dX3_stepAt_29 : decode cX3_stepAt 29 = .ok (.ireturn, 1) := by decide +kernel
theorem dX3_liesBelow_0 : decode cX3_liesBelow 0 = .ok (.aload_n 0, 1) := by decide +kernel
theorem dX3_liesBelow_1 : decode cX3_liesBelow 1 = .ok (.getfield 24, 3) := by decide +kernel
theorem dX3_liesBelow_4 : decode cX3_liesBelow 4 = .ok (.iload_n 1, 1) := by decide +kernel
theorem dX3_liesBelow_5 : decode cX3_liesBelow 5 = .ok (.iaload, 1) := by decide +kernel
theorem dX3_liesBelow_6 : decode cX3_liesBelow 6 = .ok (.iload_n 2, 1) := by decide +kernel
theorem dX3_liesBelow_7 : decode cX3_liesBelow 7 = .ok (.ishr, 1) := by decide +kernel
theorem dX3_liesBelow_8 : decode cX3_liesBelow 8 = .ok (.iconst 1, 1) := by decide +kernel
theorem dX3_liesBelow_9 : decode cX3_liesBelow 9 = .ok (.iand, 1) := by decide +kernel
theorem dX3_liesBelow_10 : decode cX3_liesBelow 10 = .ok (.ifCond .eq 7, 3) := by decide +kernel
theorem dX3_liesBelow_13 : decode cX3_liesBelow 13 = .ok (.iconst 1, 1) := by decide +kernel
theorem dX3_liesBelow_14 : decode cX3_liesBelow 14 = .ok (.goto 4, 3) := by decide +kernel
theorem dX3_liesBelow_17 : decode cX3_liesBelow 17 = .ok (.iconst 0, 1) := by decide +kernel
theorem dX3_liesBelow_18 : decode cX3_liesBelow 18 = .ok (.ireturn, 1) := by decide +kernel
theorem dX3_madeClass_0 : decode cX3_madeClass 0 = .ok (.aload_n 0, 1) := by decide +kernel
theorem dX3_madeClass_1 : decode cX3_madeClass 1 = .ok (.getfield 43, 3) := by decide +kernel
theorem dX3_madeClass_4 : decode cX3_madeClass 4 = .ok (.iload_n 1, 1) := by decide +kernel
theorem dX3_madeClass_5 : decode cX3_madeClass 5 = .ok (.iaload, 1) := by decide +kernel
theorem dX3_madeClass_6 : decode cX3_madeClass 6 = .ok (.iconst 1, 1) := by decide +kernel
theorem dX3_madeClass_7 : decode cX3_madeClass 7 = .ok (.if_icmp .ne 7, 3) := by decide +kernel
theorem dX3_madeClass_10 : decode cX3_madeClass 10 = .ok (.iconst 0, 1) := by decide +kernel
theorem dX3_madeClass_11 : decode cX3_madeClass 11 = .ok (.goto 9, 3) := by decide +kernel
theorem dX3_madeClass_14 : decode cX3_madeClass 14 = .ok (.aload_n 0, 1) := by decide +kernel
theorem dX3_madeClass_15 : decode cX3_madeClass 15 = .ok (.getfield 49, 3) := by decide +kernel
theorem dX3_madeClass_18 : decode cX3_madeClass 18 = .ok (.iload_n 1, 1) := by decide +kernel
theorem dX3_madeClass_19 : decode cX3_madeClass 19 = .ok (.iaload, 1) := by decide +kernel
theorem dX3_madeClass_20 : decode cX3_madeClass 20 = .ok (.ireturn, 1) := by decide +kernel
theorem dX3_methodFor_0 : decode cX3_methodFor 0 = .ok (.aload_n 0, 1) := by decide +kernel
theorem dX3_methodFor_1 : decode cX3_methodFor 1 = .ok (.getfield 34, 3) := by decide +kernel
theorem dX3_methodFor_4 : decode cX3_methodFor 4 = .ok (.iload_n 1, 1) := by decide +kernel
theorem dX3_methodFor_5 : decode cX3_methodFor 5 = .ok (.bipush 8, 2) := by decide +kernel
theorem dX3_methodFor_7 : decode cX3_methodFor 7 = .ok (.imul, 1) := by decide +kernel
theorem dX3_methodFor_8 : decode cX3_methodFor 8 = .ok (.iload_n 2, 1) := by decide +kernel
theorem dX3_methodFor_9 : decode cX3_methodFor 9 = .ok (.iadd, 1) := by decide +kernel
theorem dX3_methodFor_10 : decode cX3_methodFor 10 = .ok (.iaload, 1) := by decide +kernel
theorem dX3_methodFor_11 : decode cX3_methodFor 11 = .ok (.ireturn, 1) := by decide +kernel
theorem dX3_covers_0 : decode cX3_covers 0 = .ok (.aload_n 0, 1) := by decide +kernel
theorem dX3_covers_1 : decode cX3_covers 1 = .ok (.getfield 43, 3) := by decide +kernel
theorem dX3_covers_4 : decode cX3_covers 4 = .ok (.iload_n 1, 1) := by decide +kernel
theorem dX3_covers_5 : decode cX3_covers 5 = .ok (.iaload, 1) := by decide +kernel
theorem dX3_covers_6 : decode cX3_covers 6 = .ok (.bipush 16, 2) := by decide +kernel
theorem dX3_covers_8 : decode cX3_covers 8 = .ok (.if_icmp .ne 34, 3) := by decide +kernel
theorem dX3_covers_11 : decode cX3_covers 11 = .ok (.aload_n 0, 1) := by decide +kernel
theorem dX3_covers_12 : decode cX3_covers 12 = .ok (.getfield 61, 3) := by decide +kernel
theorem dX3_covers_15 : decode cX3_covers 15 = .ok (.iload_n 1, 1) := by decide +kernel
theorem dX3_covers_16 : decode cX3_covers 16 = .ok (.iaload, 1) := by decide +kernel
theorem dX3_covers_17 : decode cX3_covers 17 = .ok (.iload_n 2, 1) := by decide +kernel
theorem dX3_covers_18 : decode cX3_covers 18 = .ok (.if_icmp .ge 24, 3) := by decide +kernel
theorem dX3_covers_21 : decode cX3_covers 21 = .ok (.iload_n 2, 1) := by decide +kernel
theorem dX3_covers_22 : decode cX3_covers 22 = .ok (.aload_n 0, 1) := by decide +kernel
theorem dX3_covers_23 : decode cX3_covers 23 = .ok (.getfield 61, 3) := by decide +kernel
theorem dX3_covers_26 : decode cX3_covers 26 = .ok (.iload_n 1, 1) := by decide +kernel
theorem dX3_covers_27 : decode cX3_covers 27 = .ok (.iaload, 1) := by decide +kernel
theorem dX3_covers_28 : decode cX3_covers 28 = .ok (.aload_n 0, 1) := by decide +kernel
theorem dX3_covers_29 : decode cX3_covers 29 = .ok (.getfield 49, 3) := by decide +kernel
theorem dX3_covers_32 : decode cX3_covers 32 = .ok (.iload_n 1, 1) := by decide +kernel
theorem dX3_covers_33 : decode cX3_covers 33 = .ok (.iaload, 1) := by decide +kernel
theorem dX3_covers_34 : decode cX3_covers 34 = .ok (.iadd, 1) := by decide +kernel
theorem dX3_covers_35 : decode cX3_covers 35 = .ok (.if_icmp .gt 7, 3) := by decide +kernel
theorem dX3_covers_38 : decode cX3_covers 38 = .ok (.iconst 1, 1) := by decide +kernel
theorem dX3_covers_39 : decode cX3_covers 39 = .ok (.goto 4, 3) := by decide +kernel
theorem dX3_covers_42 : decode cX3_covers 42 = .ok (.iconst 0, 1) := by decide +kernel
theorem dX3_covers_43 : decode cX3_covers 43 = .ok (.ireturn, 1) := by decide +kernel
theorem dX4_init_0 : decode cX4_init 0 = .ok (.aload_n 0, 1) := by decide +kernel
theorem dX4_init_1 : decode cX4_init 1 = .ok (.invokespecial 3, 3) := by decide +kernel
theorem dX4_init_4 : decode cX4_init 4 = .ok (.aload_n 0, 1) := by decide +kernel
theorem dX4_init_5 : decode cX4_init 5 = .ok (.new 9, 3) := by decide +kernel
theorem dX4_init_8 : decode cX4_init 8 = .ok (.dup, 1) := by decide +kernel
theorem dX4_init_9 : decode cX4_init 9 = .ok (.invokespecial 11, 3) := by decide +kernel
theorem dX4_init_12 : decode cX4_init 12 = .ok (.putfield 12, 3) := by decide +kernel
theorem dX4_init_15 : decode cX4_init 15 = .ok (.aload_n 0, 1) := by decide +kernel
theorem dX4_init_16 : decode cX4_init 16 = .ok (.bipush 9, 2) := by decide +kernel
theorem dX4_init_18 : decode cX4_init 18 = .ok (.newarray .int, 2) := by decide +kernel
theorem dX4_init_20 : decode cX4_init 20 = .ok (.putfield 18, 3) := by decide +kernel
theorem dX4_init_23 : decode cX4_init 23 = .ok (.aload_n 0, 1) := by decide +kernel
theorem dX4_init_24 : decode cX4_init 24 = .ok (.lconst 0, 1) := by decide +kernel
theorem dX4_init_25 : decode cX4_init 25 = .ok (.putfield 22, 3) := by decide +kernel
theorem dX4_init_28 : decode cX4_init 28 = .ok (.aload_n 0, 1) := by decide +kernel
theorem dX4_init_29 : decode cX4_init 29 = .ok (.iconst 0, 1) := by decide +kernel
theorem dX4_init_30 : decode cX4_init 30 = .ok (.putfield 26, 3) := by decide +kernel
theorem dX4_init_33 : decode cX4_init 33 = .ok (.aload_n 0, 1) := by decide +kernel
theorem dX4_init_34 : decode cX4_init 34 = .ok (.iconst 0, 1) := by decide +kernel
theorem dX4_init_35 : decode cX4_init 35 = .ok (.putfield 30, 3) := by decide +kernel
theorem dX4_init_38 : decode cX4_init 38 = .ok (.aload_n 0, 1) := by decide +kernel
theorem dX4_init_39 : decode cX4_init 39 = .ok (.aload_n 1, 1) := by decide +kernel
theorem dX4_init_40 : decode cX4_init 40 = .ok (.putfield 34, 3) := by decide +kernel
theorem dX4_init_43 : decode cX4_init 43 = .ok (.aload_n 0, 1) := by decide +kernel
theorem dX4_init_44 : decode cX4_init 44 = .ok (.aload_n 2, 1) := by decide +kernel
theorem dX4_init_45 : decode cX4_init 45 = .ok (.putfield 38, 3) := by decide +kernel
theorem dX4_init_48 : decode cX4_init 48 = .ok (.aload_n 0, 1) := by decide +kernel
theorem dX4_init_49 : decode cX4_init 49 = .ok (.new 42, 3) := by decide +kernel
theorem dX4_init_52 : decode cX4_init 52 = .ok (.dup, 1) := by decide +kernel
theorem dX4_init_53 : decode cX4_init 53 = .ok (.aload_n 1, 1) := by decide +kernel
theorem dX4_init_54 : decode cX4_init 54 = .ok (.invokespecial 44, 3) := by decide +kernel
theorem dX4_init_57 : decode cX4_init 57 = .ok (.putfield 47, 3) := by decide +kernel
theorem dX4_init_60 : decode cX4_init 60 = .ok (.return_, 1) := by decide +kernel
theorem dX4_go_0 : decode cX4_go 0 = .ok (.aload_n 0, 1) := by decide +kernel
theorem dX4_go_1 : decode cX4_go 1 = .ok (.getfield 47, 3) := by decide +kernel
theorem dX4_go_4 : decode cX4_go 4 = .ok (.invokevirtual 51, 3) := by decide +kernel
theorem dX4_go_7 : decode cX4_go 7 = .ok (.aload_n 0, 1) := by decide +kernel
theorem dX4_go_8 : decode cX4_go 8 = .ok (.getfield 18, 3) := by decide +kernel
theorem dX4_go_11 : decode cX4_go 11 = .ok (.iconst 0, 1) := by decide +kernel
theorem dX4_go_12 : decode cX4_go 12 = .ok (.invokestatic 54, 3) := by decide +kernel
theorem dX4_go_15 : decode cX4_go 15 = .ok (.aload_n 0, 1) := by decide +kernel
theorem dX4_go_16 : decode cX4_go 16 = .ok (.getfield 18, 3) := by decide +kernel
theorem dX4_go_19 : decode cX4_go 19 = .ok (.bipush 6, 2) := by decide +kernel
theorem dX4_go_21 : decode cX4_go 21 = .ok (.bipush (-9), 2) := by decide +kernel
theorem dX4_go_23 : decode cX4_go 23 = .ok (.iastore, 1) := by decide +kernel
theorem dX4_go_24 : decode cX4_go 24 = .ok (.aload_n 0, 1) := by decide +kernel
theorem dX4_go_25 : decode cX4_go 25 = .ok (.getfield 18, 3) := by decide +kernel
theorem dX4_go_28 : decode cX4_go 28 = .ok (.bipush 7, 2) := by decide +kernel
theorem dX4_go_30 : decode cX4_go 30 = .ok (.bipush (-9), 2) := by decide +kernel
theorem dX4_go_32 : decode cX4_go 32 = .ok (.iastore, 1) := by decide +kernel
theorem dX4_go_33 : decode cX4_go 33 = .ok (.aload_n 0, 1) := by decide +kernel
theorem dX4_go_34 : decode cX4_go 34 = .ok (.lload_n 2, 1) := by decide +kernel
theorem dX4_go_35 : decode cX4_go 35 = .ok (.putfield 22, 3) := by decide +kernel
theorem dX4_go_38 : decode cX4_go 38 = .ok (.aload_n 0, 1) := by decide +kernel
theorem dX4_go_39 : decode cX4_go 39 = .ok (.iload 4, 2) := by decide +kernel
theorem dX4_go_41 : decode cX4_go 41 = .ok (.putfield 26, 3) := by decide +kernel
theorem dX4_go_44 : decode cX4_go 44 = .ok (.aload_n 0, 1) := by decide +kernel
theorem dX4_go_45 : decode cX4_go 45 = .ok (.getfield 12, 3) := by decide +kernel
theorem dX4_go_48 : decode cX4_go 48 = .ok (.iconst 0, 1) := by decide +kernel
theorem dX4_go_49 : decode cX4_go 49 = .ok (.putfield 60, 3) := by decide +kernel
theorem dX4_go_52 : decode cX4_go 52 = .ok (.aload_n 0, 1) := by decide +kernel
theorem dX4_go_53 : decode cX4_go 53 = .ok (.iconst 1, 1) := by decide +kernel
theorem dX4_go_54 : decode cX4_go 54 = .ok (.putfield 30, 3) := by decide +kernel
theorem dX4_go_57 : decode cX4_go 57 = .ok (.aload_n 0, 1) := by decide +kernel
theorem dX4_go_58 : decode cX4_go 58 = .ok (.iload_n 1, 1) := by decide +kernel
theorem dX4_go_59 : decode cX4_go 59 = .ok (.iconst 0, 1) := by decide +kernel
theorem dX4_go_60 : decode cX4_go 60 = .ok (.bipush (-9), 2) := by decide +kernel
theorem dX4_go_62 : decode cX4_go 62 = .ok (.bipush (-9), 2) := by decide +kernel
theorem dX4_go_64 : decode cX4_go 64 = .ok (.invokevirtual 63, 3) := by decide +kernel
theorem dX4_go_67 : decode cX4_go 67 = .ok (.iconst 0, 1) := by decide +kernel
theorem dX4_go_68 : decode cX4_go 68 = .ok (.istore 5, 2) := by decide +kernel
theorem dX4_go_70 : decode cX4_go 70 = .ok (.iload 5, 2) := by decide +kernel
theorem dX4_go_72 : decode cX4_go 72 = .ok (.sipush 3000, 3) := by decide +kernel
theorem dX4_go_75 : decode cX4_go 75 = .ok (.if_icmp .ge 20, 3) := by decide +kernel
theorem dX4_go_78 : decode cX4_go 78 = .ok (.aload_n 0, 1) := by decide +kernel
theorem dX4_go_79 : decode cX4_go 79 = .ok (.getfield 30, 3) := by decide +kernel
theorem dX4_go_82 : decode cX4_go 82 = .ok (.ifCond .eq 13, 3) := by decide +kernel
theorem dX4_go_85 : decode cX4_go 85 = .ok (.aload_n 0, 1) := by decide +kernel
theorem dX4_go_86 : decode cX4_go 86 = .ok (.invokevirtual 67, 3) := by decide +kernel
theorem dX4_go_89 : decode cX4_go 89 = .ok (.iinc 5 1, 3) := by decide +kernel
theorem dX4_go_92 : decode cX4_go 92 = .ok (.goto (-22), 3) := by decide +kernel
theorem dX4_go_95 : decode cX4_go 95 = .ok (.aload_n 0, 1) := by decide +kernel
theorem dX4_go_96 : decode cX4_go 96 = .ok (.getfield 18, 3) := by decide +kernel
theorem dX4_go_99 : decode cX4_go 99 = .ok (.iconst 0, 1) := by decide +kernel
theorem dX4_go_100 : decode cX4_go 100 = .ok (.iaload, 1) := by decide +kernel
theorem dX4_go_101 : decode cX4_go 101 = .ok (.ireturn, 1) := by decide +kernel
theorem dX4_takeTurn_0 : decode cX4_takeTurn 0 = .ok (.aload_n 0, 1) := by decide +kernel
theorem dX4_takeTurn_1 : decode cX4_takeTurn 1 = .ok (.getfield 34, 3) := by decide +kernel
theorem dX4_takeTurn_4 : decode cX4_takeTurn 4 = .ok (.aload_n 0, 1) := by decide +kernel
theorem dX4_takeTurn_5 : decode cX4_takeTurn 5 = .ok (.getfield 12, 3) := by decide +kernel
theorem dX4_takeTurn_8 : decode cX4_takeTurn 8 = .ok (.invokevirtual 70, 3) := by decide +kernel
theorem dX4_takeTurn_11 : decode cX4_takeTurn 11 = .ok (.aload_n 0, 1) := by decide +kernel
theorem dX4_takeTurn_12 : decode cX4_takeTurn 12 = .ok (.getfield 12, 3) := by decide +kernel
theorem dX4_takeTurn_15 : decode cX4_takeTurn 15 = .ok (.invokevirtual 74, 3) := by decide +kernel
theorem dX4_takeTurn_18 : decode cX4_takeTurn 18 = .ok (.invokevirtual 77, 3) := by decide +kernel
theorem dX4_takeTurn_21 : decode cX4_takeTurn 21 = .ok (.istore_n 1, 1) := by decide +kernel
theorem dX4_takeTurn_22 : decode cX4_takeTurn 22 = .ok (.iload_n 1, 1) := by decide +kernel
theorem dX4_takeTurn_23 : decode cX4_takeTurn 23 = .ok (.ifCond .ge 12, 3) := by decide +kernel
theorem dX4_takeTurn_26 : decode cX4_takeTurn 26 = .ok (.aload_n 0, 1) := by decide +kernel
theorem dX4_takeTurn_27 : decode cX4_takeTurn 27 = .ok (.bipush (-9), 2) := by decide +kernel
theorem dX4_takeTurn_29 : decode cX4_takeTurn 29 = .ok (.invokevirtual 83, 3) := by decide +kernel
theorem dX4_takeTurn_32 : decode cX4_takeTurn 32 = .ok (.goto 57, 3) := by decide +kernel
theorem dX4_takeTurn_35 : decode cX4_takeTurn 35 = .ok (.aload_n 0, 1) := by decide +kernel
theorem dX4_takeTurn_36 : decode cX4_takeTurn 36 = .ok (.getfield 18, 3) := by decide +kernel
theorem dX4_takeTurn_39 : decode cX4_takeTurn 39 = .ok (.iconst 1, 1) := by decide +kernel
theorem dX4_takeTurn_40 : decode cX4_takeTurn 40 = .ok (.iaload, 1) := by decide +kernel
theorem dX4_takeTurn_41 : decode cX4_takeTurn 41 = .ok (.aload_n 0, 1) := by decide +kernel
theorem dX4_takeTurn_42 : decode cX4_takeTurn 42 = .ok (.getfield 26, 3) := by decide +kernel
theorem dX4_takeTurn_45 : decode cX4_takeTurn 45 = .ok (.if_icmp .lt 13, 3) := by decide +kernel
theorem dX4_takeTurn_48 : decode cX4_takeTurn 48 = .ok (.aload_n 0, 1) := by decide +kernel
theorem dX4_takeTurn_49 : decode cX4_takeTurn 49 = .ok (.bipush 9, 2) := by decide +kernel
theorem dX4_takeTurn_51 : decode cX4_takeTurn 51 = .ok (.iload_n 1, 1) := by decide +kernel
theorem dX4_takeTurn_52 : decode cX4_takeTurn 52 = .ok (.invokevirtual 87, 3) := by decide +kernel
theorem dX4_takeTurn_55 : decode cX4_takeTurn 55 = .ok (.goto 34, 3) := by decide +kernel
theorem dX4_takeTurn_58 : decode cX4_takeTurn 58 = .ok (.aload_n 0, 1) := by decide +kernel
theorem dX4_takeTurn_59 : decode cX4_takeTurn 59 = .ok (.getfield 18, 3) := by decide +kernel
theorem dX4_takeTurn_62 : decode cX4_takeTurn 62 = .ok (.iconst 1, 1) := by decide +kernel
theorem dX4_takeTurn_63 : decode cX4_takeTurn 63 = .ok (.dup2, 1) := by decide +kernel
theorem dX4_takeTurn_64 : decode cX4_takeTurn 64 = .ok (.iaload, 1) := by decide +kernel
theorem dX4_takeTurn_65 : decode cX4_takeTurn 65 = .ok (.iconst 1, 1) := by decide +kernel
theorem dX4_takeTurn_66 : decode cX4_takeTurn 66 = .ok (.iadd, 1) := by decide +kernel
theorem dX4_takeTurn_67 : decode cX4_takeTurn 67 = .ok (.iastore, 1) := by decide +kernel
theorem dX4_takeTurn_68 : decode cX4_takeTurn 68 = .ok (.aload_n 0, 1) := by decide +kernel
theorem dX4_takeTurn_69 : decode cX4_takeTurn 69 = .ok (.getfield 12, 3) := by decide +kernel
theorem dX4_takeTurn_72 : decode cX4_takeTurn 72 = .ok (.aload_n 0, 1) := by decide +kernel
theorem dX4_takeTurn_73 : decode cX4_takeTurn 73 = .ok (.getfield 12, 3) := by decide +kernel
theorem dX4_takeTurn_76 : decode cX4_takeTurn 76 = .ok (.invokevirtual 74, 3) := by decide +kernel
theorem dX4_takeTurn_79 : decode cX4_takeTurn 79 = .ok (.iconst 1, 1) := by decide +kernel
theorem dX4_takeTurn_80 : decode cX4_takeTurn 80 = .ok (.iadd, 1) := by decide +kernel
theorem dX4_takeTurn_81 : decode cX4_takeTurn 81 = .ok (.invokevirtual 91, 3) := by decide +kernel
theorem dX4_takeTurn_84 : decode cX4_takeTurn 84 = .ok (.aload_n 0, 1) := by decide +kernel
theorem dX4_takeTurn_85 : decode cX4_takeTurn 85 = .ok (.iload_n 1, 1) := by decide +kernel
theorem dX4_takeTurn_86 : decode cX4_takeTurn 86 = .ok (.invokevirtual 94, 3) := by decide +kernel
theorem dX4_takeTurn_89 : decode cX4_takeTurn 89 = .ok (.return_, 1) := by decide +kernel
theorem dX4_doStep_0 : decode cX4_doStep 0 = .ok (.aload_n 0, 1) := by decide +kernel
theorem dX4_doStep_1 : decode cX4_doStep 1 = .ok (.getfield 34, 3) := by decide +kernel
theorem dX4_doStep_4 : decode cX4_doStep 4 = .ok (.getfield 97, 3) := by decide +kernel
theorem dX4_doStep_7 : decode cX4_doStep 7 = .ok (.iload_n 1, 1) := by decide +kernel
theorem dX4_doStep_8 : decode cX4_doStep 8 = .ok (.iaload, 1) := by decide +kernel
theorem dX4_doStep_9 : decode cX4_doStep 9 = .ok (.istore_n 2, 1) := by decide +kernel
theorem dX4_doStep_10 : decode cX4_doStep 10 = .ok (.aload_n 0, 1) := by decide +kernel
theorem dX4_doStep_11 : decode cX4_doStep 11 = .ok (.getfield 34, 3) := by decide +kernel
theorem dX4_doStep_14 : decode cX4_doStep 14 = .ok (.getfield 100, 3) := by decide +kernel
theorem dX4_doStep_17 : decode cX4_doStep 17 = .ok (.iload_n 1, 1) := by decide +kernel
theorem dX4_doStep_18 : decode cX4_doStep 18 = .ok (.iaload, 1) := by decide +kernel
theorem dX4_doStep_19 : decode cX4_doStep 19 = .ok (.istore_n 3, 1) := by decide +kernel
theorem dX4_doStep_20 : decode cX4_doStep 20 = .ok (.aload_n 0, 1) := by decide +kernel
theorem dX4_doStep_21 : decode cX4_doStep 21 = .ok (.getfield 34, 3) := by decide +kernel
theorem dX4_doStep_24 : decode cX4_doStep 24 = .ok (.getfield 103, 3) := by decide +kernel
theorem dX4_doStep_27 : decode cX4_doStep 27 = .ok (.iload_n 1, 1) := by decide +kernel
theorem dX4_doStep_28 : decode cX4_doStep 28 = .ok (.iaload, 1) := by decide +kernel
theorem dX4_doStep_29 : decode cX4_doStep 29 = .ok (.istore 4, 2) := by decide +kernel
theorem dX4_doStep_31 : decode cX4_doStep 31 = .ok (.aload_n 0, 1) := by decide +kernel
theorem dX4_doStep_32 : decode cX4_doStep 32 = .ok (.getfield 34, 3) := by decide +kernel
theorem dX4_doStep_35 : decode cX4_doStep 35 = .ok (.getfield 106, 3) := by decide +kernel
theorem dX4_doStep_38 : decode cX4_doStep 38 = .ok (.iload_n 1, 1) := by decide +kernel
theorem dX4_doStep_39 : decode cX4_doStep 39 = .ok (.iaload, 1) := by decide +kernel
theorem dX4_doStep_40 : decode cX4_doStep 40 = .ok (.tableswitch 300 0 15 #[80, 80, 88, 104, 114, 130, 146, 162, 186, 202, 218, 226, 241, 249, 266, 284], 80) := by decide +kernel
theorem dX4_doStep_120 : decode cX4_doStep 120 = .ok (.aload_n 0, 1) := by decide +kernel
theorem dX4_doStep_121 : decode cX4_doStep 121 = .ok (.iload_n 1, 1) := by decide +kernel
theorem dX4_doStep_122 : decode cX4_doStep 122 = .ok (.invokevirtual 109, 3) := by decide +kernel
theorem dX4_doStep_125 : decode cX4_doStep 125 = .ok (.goto 215, 3) := by decide +kernel
theorem dX4_doStep_128 : decode cX4_doStep 128 = .ok (.aload_n 0, 1) := by decide +kernel
theorem dX4_doStep_129 : decode cX4_doStep 129 = .ok (.iload_n 2, 1) := by decide +kernel
theorem dX4_doStep_130 : decode cX4_doStep 130 = .ok (.aload_n 0, 1) := by decide +kernel
theorem dX4_doStep_131 : decode cX4_doStep 131 = .ok (.getfield 12, 3) := by decide +kernel
theorem dX4_doStep_134 : decode cX4_doStep 134 = .ok (.iload_n 3, 1) := by decide +kernel
theorem dX4_doStep_135 : decode cX4_doStep 135 = .ok (.invokevirtual 112, 3) := by decide +kernel
theorem dX4_doStep_138 : decode cX4_doStep 138 = .ok (.invokevirtual 116, 3) := by decide +kernel
theorem dX4_doStep_141 : decode cX4_doStep 141 = .ok (.goto 199, 3) := by decide +kernel
theorem dX4_doStep_144 : decode cX4_doStep 144 = .ok (.aload_n 0, 1) := by decide +kernel
theorem dX4_doStep_145 : decode cX4_doStep 145 = .ok (.iload_n 2, 1) := by decide +kernel
theorem dX4_doStep_146 : decode cX4_doStep 146 = .ok (.bipush (-9), 2) := by decide +kernel
theorem dX4_doStep_148 : decode cX4_doStep 148 = .ok (.invokevirtual 116, 3) := by decide +kernel
theorem dX4_doStep_151 : decode cX4_doStep 151 = .ok (.goto 189, 3) := by decide +kernel
theorem dX4_doStep_154 : decode cX4_doStep 154 = .ok (.aload_n 0, 1) := by decide +kernel
theorem dX4_doStep_155 : decode cX4_doStep 155 = .ok (.iload_n 1, 1) := by decide +kernel
theorem dX4_doStep_156 : decode cX4_doStep 156 = .ok (.aload_n 0, 1) := by decide +kernel
theorem dX4_doStep_157 : decode cX4_doStep 157 = .ok (.getfield 12, 3) := by decide +kernel
theorem dX4_doStep_160 : decode cX4_doStep 160 = .ok (.iload_n 3, 1) := by decide +kernel
theorem dX4_doStep_161 : decode cX4_doStep 161 = .ok (.invokevirtual 112, 3) := by decide +kernel
theorem dX4_doStep_164 : decode cX4_doStep 164 = .ok (.invokevirtual 119, 3) := by decide +kernel
theorem dX4_doStep_167 : decode cX4_doStep 167 = .ok (.goto 173, 3) := by decide +kernel
theorem dX4_doStep_170 : decode cX4_doStep 170 = .ok (.aload_n 0, 1) := by decide +kernel
theorem dX4_doStep_171 : decode cX4_doStep 171 = .ok (.iload_n 1, 1) := by decide +kernel
theorem dX4_doStep_172 : decode cX4_doStep 172 = .ok (.aload_n 0, 1) := by decide +kernel
theorem dX4_doStep_173 : decode cX4_doStep 173 = .ok (.getfield 12, 3) := by decide +kernel
theorem dX4_doStep_176 : decode cX4_doStep 176 = .ok (.iload_n 2, 1) := by decide +kernel
theorem dX4_doStep_177 : decode cX4_doStep 177 = .ok (.invokevirtual 112, 3) := by decide +kernel
theorem dX4_doStep_180 : decode cX4_doStep 180 = .ok (.invokevirtual 122, 3) := by decide +kernel
theorem dX4_doStep_183 : decode cX4_doStep 183 = .ok (.goto 157, 3) := by decide +kernel
theorem dX4_doStep_186 : decode cX4_doStep 186 = .ok (.aload_n 0, 1) := by decide +kernel
theorem dX4_doStep_187 : decode cX4_doStep 187 = .ok (.iload_n 1, 1) := by decide +kernel
theorem dX4_doStep_188 : decode cX4_doStep 188 = .ok (.aload_n 0, 1) := by decide +kernel
theorem dX4_doStep_189 : decode cX4_doStep 189 = .ok (.getfield 12, 3) := by decide +kernel
theorem dX4_doStep_192 : decode cX4_doStep 192 = .ok (.iload_n 3, 1) := by decide +kernel
theorem dX4_doStep_193 : decode cX4_doStep 193 = .ok (.invokevirtual 112, 3) := by decide +kernel
theorem dX4_doStep_196 : decode cX4_doStep 196 = .ok (.invokevirtual 125, 3) := by decide +kernel
theorem dX4_doStep_199 : decode cX4_doStep 199 = .ok (.goto 141, 3) := by decide +kernel
theorem dX4_doStep_202 : decode cX4_doStep 202 = .ok (.aload_n 0, 1) := by decide +kernel
theorem dX4_doStep_203 : decode cX4_doStep 203 = .ok (.iload_n 1, 1) := by decide +kernel
theorem dX4_doStep_204 : decode cX4_doStep 204 = .ok (.aload_n 0, 1) := by decide +kernel
theorem dX4_doStep_205 : decode cX4_doStep 205 = .ok (.getfield 12, 3) := by decide +kernel
theorem dX4_doStep_208 : decode cX4_doStep 208 = .ok (.iload_n 2, 1) := by decide +kernel
theorem dX4_doStep_209 : decode cX4_doStep 209 = .ok (.invokevirtual 112, 3) := by decide +kernel
theorem dX4_doStep_212 : decode cX4_doStep 212 = .ok (.aload_n 0, 1) := by decide +kernel
theorem dX4_doStep_213 : decode cX4_doStep 213 = .ok (.getfield 12, 3) := by decide +kernel
theorem dX4_doStep_216 : decode cX4_doStep 216 = .ok (.iload_n 3, 1) := by decide +kernel
theorem dX4_doStep_217 : decode cX4_doStep 217 = .ok (.invokevirtual 112, 3) := by decide +kernel
theorem dX4_doStep_220 : decode cX4_doStep 220 = .ok (.invokevirtual 128, 3) := by decide +kernel
theorem dX4_doStep_223 : decode cX4_doStep 223 = .ok (.goto 117, 3) := by decide +kernel
theorem dX4_doStep_226 : decode cX4_doStep 226 = .ok (.aload_n 0, 1) := by decide +kernel
theorem dX4_doStep_227 : decode cX4_doStep 227 = .ok (.iload_n 1, 1) := by decide +kernel
theorem dX4_doStep_228 : decode cX4_doStep 228 = .ok (.aload_n 0, 1) := by decide +kernel
theorem dX4_doStep_229 : decode cX4_doStep 229 = .ok (.getfield 12, 3) := by decide +kernel
theorem dX4_doStep_232 : decode cX4_doStep 232 = .ok (.iload_n 3, 1) := by decide +kernel
theorem dX4_doStep_233 : decode cX4_doStep 233 = .ok (.invokevirtual 112, 3) := by decide +kernel
theorem dX4_doStep_236 : decode cX4_doStep 236 = .ok (.invokevirtual 132, 3) := by decide +kernel
theorem dX4_doStep_239 : decode cX4_doStep 239 = .ok (.goto 101, 3) := by decide +kernel
theorem dX4_doStep_242 : decode cX4_doStep 242 = .ok (.aload_n 0, 1) := by decide +kernel
theorem dX4_doStep_243 : decode cX4_doStep 243 = .ok (.iload_n 1, 1) := by decide +kernel
theorem dX4_doStep_244 : decode cX4_doStep 244 = .ok (.aload_n 0, 1) := by decide +kernel
theorem dX4_doStep_245 : decode cX4_doStep 245 = .ok (.getfield 12, 3) := by decide +kernel
theorem dX4_doStep_248 : decode cX4_doStep 248 = .ok (.iload_n 3, 1) := by decide +kernel
theorem dX4_doStep_249 : decode cX4_doStep 249 = .ok (.invokevirtual 112, 3) := by decide +kernel
theorem dX4_doStep_252 : decode cX4_doStep 252 = .ok (.invokevirtual 135, 3) := by decide +kernel
theorem dX4_doStep_255 : decode cX4_doStep 255 = .ok (.goto 85, 3) := by decide +kernel
theorem dX4_doStep_258 : decode cX4_doStep 258 = .ok (.aload_n 0, 1) := by decide +kernel
theorem dX4_doStep_259 : decode cX4_doStep 259 = .ok (.iload_n 1, 1) := by decide +kernel
theorem dX4_doStep_260 : decode cX4_doStep 260 = .ok (.invokevirtual 138, 3) := by decide +kernel
theorem dX4_doStep_263 : decode cX4_doStep 263 = .ok (.goto 77, 3) := by decide +kernel
theorem dX4_doStep_266 : decode cX4_doStep 266 = .ok (.aload_n 0, 1) := by decide +kernel
theorem dX4_doStep_267 : decode cX4_doStep 267 = .ok (.aload_n 0, 1) := by decide +kernel
theorem dX4_doStep_268 : decode cX4_doStep 268 = .ok (.getfield 12, 3) := by decide +kernel
theorem dX4_doStep_271 : decode cX4_doStep 271 = .ok (.iload_n 2, 1) := by decide +kernel
theorem dX4_doStep_272 : decode cX4_doStep 272 = .ok (.invokevirtual 112, 3) := by decide +kernel
theorem dX4_doStep_275 : decode cX4_doStep 275 = .ok (.invokevirtual 83, 3) := by decide +kernel
theorem dX4_doStep_278 : decode cX4_doStep 278 = .ok (.goto 62, 3) := by decide +kernel
theorem dX4_doStep_281 : decode cX4_doStep 281 = .ok (.aload_n 0, 1) := by decide +kernel
theorem dX4_doStep_282 : decode cX4_doStep 282 = .ok (.iload_n 3, 1) := by decide +kernel
theorem dX4_doStep_283 : decode cX4_doStep 283 = .ok (.invokevirtual 141, 3) := by decide +kernel
theorem dX4_doStep_286 : decode cX4_doStep 286 = .ok (.goto 54, 3) := by decide +kernel
theorem dX4_doStep_289 : decode cX4_doStep 289 = .ok (.aload_n 0, 1) := by decide +kernel
theorem dX4_doStep_290 : decode cX4_doStep 290 = .ok (.iload 4, 2) := by decide +kernel
theorem dX4_doStep_292 : decode cX4_doStep 292 = .ok (.aload_n 0, 1) := by decide +kernel
theorem dX4_doStep_293 : decode cX4_doStep 293 = .ok (.getfield 12, 3) := by decide +kernel
theorem dX4_doStep_296 : decode cX4_doStep 296 = .ok (.iload_n 2, 1) := by decide +kernel
theorem dX4_doStep_297 : decode cX4_doStep 297 = .ok (.invokevirtual 112, 3) := by decide +kernel
theorem dX4_doStep_300 : decode cX4_doStep 300 = .ok (.invokevirtual 144, 3) := by decide +kernel
theorem dX4_doStep_303 : decode cX4_doStep 303 = .ok (.goto 37, 3) := by decide +kernel
theorem dX4_doStep_306 : decode cX4_doStep 306 = .ok (.aload_n 0, 1) := by decide +kernel
theorem dX4_doStep_307 : decode cX4_doStep 307 = .ok (.iload_n 2, 1) := by decide +kernel
theorem dX4_doStep_308 : decode cX4_doStep 308 = .ok (.aload_n 0, 1) := by decide +kernel
theorem dX4_doStep_309 : decode cX4_doStep 309 = .ok (.getfield 47, 3) := by decide +kernel
theorem dX4_doStep_312 : decode cX4_doStep 312 = .ok (.getfield 147, 3) := by decide +kernel
theorem dX4_doStep_315 : decode cX4_doStep 315 = .ok (.iload 4, 2) := by decide +kernel
theorem dX4_doStep_317 : decode cX4_doStep 317 = .ok (.iaload, 1) := by decide +kernel
theorem dX4_doStep_318 : decode cX4_doStep 318 = .ok (.invokevirtual 116, 3) := by decide +kernel
theorem dX4_doStep_321 : decode cX4_doStep 321 = .ok (.goto 19, 3) := by decide +kernel
theorem dX4_doStep_324 : decode cX4_doStep 324 = .ok (.aload_n 0, 1) := by decide +kernel
theorem dX4_doStep_325 : decode cX4_doStep 325 = .ok (.iload_n 1, 1) := by decide +kernel
theorem dX4_doStep_326 : decode cX4_doStep 326 = .ok (.aload_n 0, 1) := by decide +kernel
theorem dX4_doStep_327 : decode cX4_doStep 327 = .ok (.getfield 12, 3) := by decide +kernel
theorem dX4_doStep_330 : decode cX4_doStep 330 = .ok (.iload_n 2, 1) := by decide +kernel
theorem dX4_doStep_331 : decode cX4_doStep 331 = .ok (.invokevirtual 112, 3) := by decide +kernel
theorem dX4_doStep_334 : decode cX4_doStep 334 = .ok (.invokevirtual 150, 3) := by decide +kernel
theorem dX4_doStep_337 : decode cX4_doStep 337 = .ok (.goto 3, 3) := by decide +kernel
theorem dX4_doStep_340 : decode cX4_doStep 340 = .ok (.return_, 1) := by decide +kernel
theorem dX4_make_0 : decode cX4_make 0 = .ok (.aload_n 0, 1) := by decide +kernel
theorem dX4_make_1 : decode cX4_make 1 = .ok (.getfield 12, 3) := by decide +kernel
theorem dX4_make_4 : decode cX4_make 4 = .ok (.invokevirtual 153, 3) := by decide +kernel
theorem dX4_make_7 : decode cX4_make 7 = .ok (.istore_n 2, 1) := by decide +kernel
theorem dX4_make_8 : decode cX4_make 8 = .ok (.aload_n 0, 1) := by decide +kernel
theorem dX4_make_9 : decode cX4_make 9 = .ok (.getfield 47, 3) := by decide +kernel
theorem dX4_make_12 : decode cX4_make 12 = .ok (.iload_n 1, 1) := by decide +kernel
theorem dX4_make_13 : decode cX4_make 13 = .ok (.aload_n 0, 1) := by decide +kernel
theorem dX4_make_14 : decode cX4_make 14 = .ok (.getfield 38, 3) := by decide +kernel
theorem dX4_make_17 : decode cX4_make 17 = .ok (.getfield 156, 3) := by decide +kernel
theorem dX4_make_20 : decode cX4_make 20 = .ok (.iload_n 2, 1) := by decide +kernel
theorem dX4_make_21 : decode cX4_make 21 = .ok (.iload_n 1, 1) := by decide +kernel
theorem dX4_make_22 : decode cX4_make 22 = .ok (.invokevirtual 162, 3) := by decide +kernel
theorem dX4_make_25 : decode cX4_make 25 = .ok (.iload_n 2, 1) := by decide +kernel
theorem dX4_make_26 : decode cX4_make 26 = .ok (.invokevirtual 167, 3) := by decide +kernel
theorem dX4_make_29 : decode cX4_make 29 = .ok (.istore_n 3, 1) := by decide +kernel
theorem dX4_make_30 : decode cX4_make 30 = .ok (.aload_n 0, 1) := by decide +kernel
theorem dX4_make_31 : decode cX4_make 31 = .ok (.getfield 18, 3) := by decide +kernel
theorem dX4_make_34 : decode cX4_make 34 = .ok (.iconst 2, 1) := by decide +kernel
theorem dX4_make_35 : decode cX4_make 35 = .ok (.aload_n 0, 1) := by decide +kernel
theorem dX4_make_36 : decode cX4_make 36 = .ok (.getfield 47, 3) := by decide +kernel
theorem dX4_make_39 : decode cX4_make 39 = .ok (.getfield 171, 3) := by decide +kernel
theorem dX4_make_42 : decode cX4_make 42 = .ok (.iastore, 1) := by decide +kernel
theorem dX4_make_43 : decode cX4_make 43 = .ok (.aload_n 0, 1) := by decide +kernel
theorem dX4_make_44 : decode cX4_make 44 = .ok (.aload_n 0, 1) := by decide +kernel
theorem dX4_make_45 : decode cX4_make 45 = .ok (.getfield 34, 3) := by decide +kernel
theorem dX4_make_48 : decode cX4_make 48 = .ok (.getfield 97, 3) := by decide +kernel
theorem dX4_make_51 : decode cX4_make 51 = .ok (.iload_n 1, 1) := by decide +kernel
theorem dX4_make_52 : decode cX4_make 52 = .ok (.iaload, 1) := by decide +kernel
theorem dX4_make_53 : decode cX4_make 53 = .ok (.iload_n 3, 1) := by decide +kernel
theorem dX4_make_54 : decode cX4_make 54 = .ok (.invokevirtual 116, 3) := by decide +kernel
theorem dX4_make_57 : decode cX4_make 57 = .ok (.return_, 1) := by decide +kernel
theorem dX4_load_0 : decode cX4_load 0 = .ok (.iload_n 2, 1) := by decide +kernel
theorem dX4_load_1 : decode cX4_load 1 = .ok (.bipush (-9), 2) := by decide +kernel
theorem dX4_load_3 : decode cX4_load 3 = .ok (.if_icmp .ne 12, 3) := by decide +kernel
theorem dX4_load_6 : decode cX4_load 6 = .ok (.aload_n 0, 1) := by decide +kernel
theorem dX4_load_7 : decode cX4_load 7 = .ok (.iconst 1, 1) := by decide +kernel
theorem dX4_load_8 : decode cX4_load 8 = .ok (.iload_n 1, 1) := by decide +kernel
theorem dX4_load_9 : decode cX4_load 9 = .ok (.invokevirtual 87, 3) := by decide +kernel
theorem dX4_load_12 : decode cX4_load 12 = .ok (.goto 53, 3) := by decide +kernel
theorem dX4_load_15 : decode cX4_load 15 = .ok (.aload_n 0, 1) := by decide +kernel
theorem dX4_load_16 : decode cX4_load 16 = .ok (.getfield 47, 3) := by decide +kernel
theorem dX4_load_19 : decode cX4_load 19 = .ok (.iload_n 2, 1) := by decide +kernel
theorem dX4_load_20 : decode cX4_load 20 = .ok (.invokevirtual 174, 3) := by decide +kernel
theorem dX4_load_23 : decode cX4_load 23 = .ok (.ifCond .eq 12, 3) := by decide +kernel
theorem dX4_load_26 : decode cX4_load 26 = .ok (.aload_n 0, 1) := by decide +kernel
theorem dX4_load_27 : decode cX4_load 27 = .ok (.iconst 2, 1) := by decide +kernel
theorem dX4_load_28 : decode cX4_load 28 = .ok (.iload_n 1, 1) := by decide +kernel
theorem dX4_load_29 : decode cX4_load 29 = .ok (.invokevirtual 87, 3) := by decide +kernel
theorem dX4_load_32 : decode cX4_load 32 = .ok (.goto 33, 3) := by decide +kernel
theorem dX4_load_35 : decode cX4_load 35 = .ok (.aload_n 0, 1) := by decide +kernel
theorem dX4_load_36 : decode cX4_load 36 = .ok (.aload_n 0, 1) := by decide +kernel
theorem dX4_load_37 : decode cX4_load 37 = .ok (.getfield 34, 3) := by decide +kernel
theorem dX4_load_40 : decode cX4_load 40 = .ok (.getfield 97, 3) := by decide +kernel
theorem dX4_load_43 : decode cX4_load 43 = .ok (.iload_n 1, 1) := by decide +kernel
theorem dX4_load_44 : decode cX4_load 44 = .ok (.iaload, 1) := by decide +kernel
theorem dX4_load_45 : decode cX4_load 45 = .ok (.aload_n 0, 1) := by decide +kernel
theorem dX4_load_46 : decode cX4_load 46 = .ok (.getfield 47, 3) := by decide +kernel
theorem dX4_load_49 : decode cX4_load 49 = .ok (.iload_n 2, 1) := by decide +kernel
theorem dX4_load_50 : decode cX4_load 50 = .ok (.aload_n 0, 1) := by decide +kernel
theorem dX4_load_51 : decode cX4_load 51 = .ok (.getfield 34, 3) := by decide +kernel
theorem dX4_load_54 : decode cX4_load 54 = .ok (.getfield 103, 3) := by decide +kernel
theorem dX4_load_57 : decode cX4_load 57 = .ok (.iload_n 1, 1) := by decide +kernel
theorem dX4_load_58 : decode cX4_load 58 = .ok (.iaload, 1) := by decide +kernel
theorem dX4_load_59 : decode cX4_load 59 = .ok (.invokevirtual 178, 3) := by decide +kernel
theorem dX4_load_62 : decode cX4_load 62 = .ok (.invokevirtual 116, 3) := by decide +kernel
theorem dX4_load_65 : decode cX4_load 65 = .ok (.return_, 1) := by decide +kernel
theorem dX4_store_0 : decode cX4_store 0 = .ok (.iload_n 2, 1) := by decide +kernel
theorem dX4_store_1 : decode cX4_store 1 = .ok (.bipush (-9), 2) := by decide +kernel
theorem dX4_store_3 : decode cX4_store 3 = .ok (.if_icmp .ne 12, 3) := by decide +kernel
theorem dX4_store_6 : decode cX4_store 6 = .ok (.aload_n 0, 1) := by decide +kernel
theorem dX4_store_7 : decode cX4_store 7 = .ok (.iconst 1, 1) := by decide +kernel
theorem dX4_store_8 : decode cX4_store 8 = .ok (.iload_n 1, 1) := by decide +kernel
theorem dX4_store_9 : decode cX4_store 9 = .ok (.invokevirtual 87, 3) := by decide +kernel
theorem dX4_store_12 : decode cX4_store 12 = .ok (.goto 62, 3) := by decide +kernel
theorem dX4_store_15 : decode cX4_store 15 = .ok (.aload_n 0, 1) := by decide +kernel
theorem dX4_store_16 : decode cX4_store 16 = .ok (.getfield 47, 3) := by decide +kernel
theorem dX4_store_19 : decode cX4_store 19 = .ok (.iload_n 2, 1) := by decide +kernel
theorem dX4_store_20 : decode cX4_store 20 = .ok (.invokevirtual 174, 3) := by decide +kernel
theorem dX4_store_23 : decode cX4_store 23 = .ok (.ifCond .eq 12, 3) := by decide +kernel
theorem dX4_store_26 : decode cX4_store 26 = .ok (.aload_n 0, 1) := by decide +kernel
theorem dX4_store_27 : decode cX4_store 27 = .ok (.iconst 2, 1) := by decide +kernel
theorem dX4_store_28 : decode cX4_store 28 = .ok (.iload_n 1, 1) := by decide +kernel
theorem dX4_store_29 : decode cX4_store 29 = .ok (.invokevirtual 87, 3) := by decide +kernel
theorem dX4_store_32 : decode cX4_store 32 = .ok (.goto 42, 3) := by decide +kernel
theorem dX4_store_35 : decode cX4_store 35 = .ok (.aload_n 0, 1) := by decide +kernel
theorem dX4_store_36 : decode cX4_store 36 = .ok (.iload_n 2, 1) := by decide +kernel
theorem dX4_store_37 : decode cX4_store 37 = .ok (.aload_n 0, 1) := by decide +kernel
theorem dX4_store_38 : decode cX4_store 38 = .ok (.getfield 34, 3) := by decide +kernel
theorem dX4_store_41 : decode cX4_store 41 = .ok (.getfield 103, 3) := by decide +kernel
theorem dX4_store_44 : decode cX4_store 44 = .ok (.iload_n 1, 1) := by decide +kernel
theorem dX4_store_45 : decode cX4_store 45 = .ok (.iaload, 1) := by decide +kernel
theorem dX4_store_46 : decode cX4_store 46 = .ok (.aload_n 0, 1) := by decide +kernel
theorem dX4_store_47 : decode cX4_store 47 = .ok (.getfield 34, 3) := by decide +kernel
theorem dX4_store_50 : decode cX4_store 50 = .ok (.getfield 103, 3) := by decide +kernel
theorem dX4_store_53 : decode cX4_store 53 = .ok (.iload_n 1, 1) := by decide +kernel
theorem dX4_store_54 : decode cX4_store 54 = .ok (.iaload, 1) := by decide +kernel
theorem dX4_store_55 : decode cX4_store 55 = .ok (.aload_n 0, 1) := by decide +kernel
theorem dX4_store_56 : decode cX4_store 56 = .ok (.getfield 12, 3) := by decide +kernel
theorem dX4_store_59 : decode cX4_store 59 = .ok (.aload_n 0, 1) := by decide +kernel
theorem dX4_store_60 : decode cX4_store 60 = .ok (.getfield 34, 3) := by decide +kernel
theorem dX4_store_63 : decode cX4_store 63 = .ok (.getfield 100, 3) := by decide +kernel
theorem dX4_store_66 : decode cX4_store 66 = .ok (.iload_n 1, 1) := by decide +kernel
theorem dX4_store_67 : decode cX4_store 67 = .ok (.iaload, 1) := by decide +kernel
theorem dX4_store_68 : decode cX4_store 68 = .ok (.invokevirtual 112, 3) := by decide +kernel
theorem dX4_store_71 : decode cX4_store 71 = .ok (.invokevirtual 181, 3) := by decide +kernel
theorem dX4_store_74 : decode cX4_store 74 = .ok (.return_, 1) := by decide +kernel
theorem dX4_take_0 : decode cX4_take 0 = .ok (.aload_n 0, 1) := by decide +kernel
theorem dX4_take_1 : decode cX4_take 1 = .ok (.iload_n 2, 1) := by decide +kernel
theorem dX4_take_2 : decode cX4_take 2 = .ok (.aload_n 0, 1) := by decide +kernel
theorem dX4_take_3 : decode cX4_take 3 = .ok (.getfield 34, 3) := by decide +kernel
theorem dX4_take_6 : decode cX4_take 6 = .ok (.getfield 103, 3) := by decide +kernel
theorem dX4_take_9 : decode cX4_take 9 = .ok (.iload_n 1, 1) := by decide +kernel
theorem dX4_take_10 : decode cX4_take 10 = .ok (.iaload, 1) := by decide +kernel
theorem dX4_take_11 : decode cX4_take 11 = .ok (.invokevirtual 184, 3) := by decide +kernel
theorem dX4_take_14 : decode cX4_take 14 = .ok (.istore_n 3, 1) := by decide +kernel
theorem dX4_take_15 : decode cX4_take 15 = .ok (.iload_n 3, 1) := by decide +kernel
theorem dX4_take_16 : decode cX4_take 16 = .ok (.ifCond .eq 12, 3) := by decide +kernel
theorem dX4_take_19 : decode cX4_take 19 = .ok (.aload_n 0, 1) := by decide +kernel
theorem dX4_take_20 : decode cX4_take 20 = .ok (.iload_n 3, 1) := by decide +kernel
theorem dX4_take_21 : decode cX4_take 21 = .ok (.iload_n 1, 1) := by decide +kernel
theorem dX4_take_22 : decode cX4_take 22 = .ok (.invokevirtual 87, 3) := by decide +kernel
theorem dX4_take_25 : decode cX4_take 25 = .ok (.goto 33, 3) := by decide +kernel
theorem dX4_take_28 : decode cX4_take 28 = .ok (.aload_n 0, 1) := by decide +kernel
theorem dX4_take_29 : decode cX4_take 29 = .ok (.aload_n 0, 1) := by decide +kernel
theorem dX4_take_30 : decode cX4_take 30 = .ok (.getfield 34, 3) := by decide +kernel
theorem dX4_take_33 : decode cX4_take 33 = .ok (.getfield 97, 3) := by decide +kernel
theorem dX4_take_36 : decode cX4_take 36 = .ok (.iload_n 1, 1) := by decide +kernel
theorem dX4_take_37 : decode cX4_take 37 = .ok (.iaload, 1) := by decide +kernel
theorem dX4_take_38 : decode cX4_take 38 = .ok (.aload_n 0, 1) := by decide +kernel
theorem dX4_take_39 : decode cX4_take 39 = .ok (.getfield 47, 3) := by decide +kernel
theorem dX4_take_42 : decode cX4_take 42 = .ok (.iload_n 2, 1) := by decide +kernel
theorem dX4_take_43 : decode cX4_take 43 = .ok (.aload_n 0, 1) := by decide +kernel
theorem dX4_take_44 : decode cX4_take 44 = .ok (.getfield 34, 3) := by decide +kernel
theorem dX4_take_47 : decode cX4_take 47 = .ok (.getfield 103, 3) := by decide +kernel
theorem dX4_take_50 : decode cX4_take 50 = .ok (.iload_n 1, 1) := by decide +kernel
theorem dX4_take_51 : decode cX4_take 51 = .ok (.iaload, 1) := by decide +kernel
theorem dX4_take_52 : decode cX4_take 52 = .ok (.invokevirtual 187, 3) := by decide +kernel
theorem dX4_take_55 : decode cX4_take 55 = .ok (.invokevirtual 116, 3) := by decide +kernel
theorem dX4_take_58 : decode cX4_take 58 = .ok (.return_, 1) := by decide +kernel
theorem dX4_lay_0 : decode cX4_lay 0 = .ok (.aload_n 0, 1) := by decide +kernel
theorem dX4_lay_1 : decode cX4_lay 1 = .ok (.iload_n 2, 1) := by decide +kernel
theorem dX4_lay_2 : decode cX4_lay 2 = .ok (.aload_n 0, 1) := by decide +kernel
theorem dX4_lay_3 : decode cX4_lay 3 = .ok (.getfield 34, 3) := by decide +kernel
theorem dX4_lay_6 : decode cX4_lay 6 = .ok (.getfield 103, 3) := by decide +kernel
theorem dX4_lay_9 : decode cX4_lay 9 = .ok (.iload_n 1, 1) := by decide +kernel
theorem dX4_lay_10 : decode cX4_lay 10 = .ok (.iaload, 1) := by decide +kernel
theorem dX4_lay_11 : decode cX4_lay 11 = .ok (.invokevirtual 184, 3) := by decide +kernel
theorem dX4_lay_14 : decode cX4_lay 14 = .ok (.istore 4, 2) := by decide +kernel
theorem dX4_lay_16 : decode cX4_lay 16 = .ok (.iload 4, 2) := by decide +kernel
theorem dX4_lay_18 : decode cX4_lay 18 = .ok (.ifCond .eq 13, 3) := by decide +kernel
theorem dX4_lay_21 : decode cX4_lay 21 = .ok (.aload_n 0, 1) := by decide +kernel
theorem dX4_lay_22 : decode cX4_lay 22 = .ok (.iload 4, 2) := by decide +kernel
theorem dX4_lay_24 : decode cX4_lay 24 = .ok (.iload_n 1, 1) := by decide +kernel
theorem dX4_lay_25 : decode cX4_lay 25 = .ok (.invokevirtual 87, 3) := by decide +kernel
theorem dX4_lay_28 : decode cX4_lay 28 = .ok (.goto 60, 3) := by decide +kernel
theorem dX4_lay_31 : decode cX4_lay 31 = .ok (.iload_n 3, 1) := by decide +kernel
theorem dX4_lay_32 : decode cX4_lay 32 = .ok (.bipush (-9), 2) := by decide +kernel
theorem dX4_lay_34 : decode cX4_lay 34 = .ok (.if_icmp .eq 38, 3) := by decide +kernel
theorem dX4_lay_37 : decode cX4_lay 37 = .ok (.aload_n 0, 1) := by decide +kernel
theorem dX4_lay_38 : decode cX4_lay 38 = .ok (.getfield 34, 3) := by decide +kernel
theorem dX4_lay_41 : decode cX4_lay 41 = .ok (.aload_n 0, 1) := by decide +kernel
theorem dX4_lay_42 : decode cX4_lay 42 = .ok (.getfield 47, 3) := by decide +kernel
theorem dX4_lay_45 : decode cX4_lay 45 = .ok (.iload_n 3, 1) := by decide +kernel
theorem dX4_lay_46 : decode cX4_lay 46 = .ok (.invokevirtual 190, 3) := by decide +kernel
theorem dX4_lay_49 : decode cX4_lay 49 = .ok (.aload_n 0, 1) := by decide +kernel
theorem dX4_lay_50 : decode cX4_lay 50 = .ok (.getfield 47, 3) := by decide +kernel
theorem dX4_lay_53 : decode cX4_lay 53 = .ok (.iload_n 2, 1) := by decide +kernel
theorem dX4_lay_54 : decode cX4_lay 54 = .ok (.invokevirtual 193, 3) := by decide +kernel
theorem dX4_lay_57 : decode cX4_lay 57 = .ok (.invokevirtual 196, 3) := by decide +kernel
theorem dX4_lay_60 : decode cX4_lay 60 = .ok (.ifCond .ne 12, 3) := by decide +kernel
theorem dX4_lay_63 : decode cX4_lay 63 = .ok (.aload_n 0, 1) := by decide +kernel
theorem dX4_lay_64 : decode cX4_lay 64 = .ok (.iconst 4, 1) := by decide +kernel
theorem dX4_lay_65 : decode cX4_lay 65 = .ok (.iload_n 1, 1) := by decide +kernel
theorem dX4_lay_66 : decode cX4_lay 66 = .ok (.invokevirtual 87, 3) := by decide +kernel
theorem dX4_lay_69 : decode cX4_lay 69 = .ok (.goto 19, 3) := by decide +kernel
theorem dX4_lay_72 : decode cX4_lay 72 = .ok (.aload_n 0, 1) := by decide +kernel
theorem dX4_lay_73 : decode cX4_lay 73 = .ok (.iload_n 2, 1) := by decide +kernel
theorem dX4_lay_74 : decode cX4_lay 74 = .ok (.aload_n 0, 1) := by decide +kernel
theorem dX4_lay_75 : decode cX4_lay 75 = .ok (.getfield 34, 3) := by decide +kernel
theorem dX4_lay_78 : decode cX4_lay 78 = .ok (.getfield 103, 3) := by decide +kernel
theorem dX4_lay_81 : decode cX4_lay 81 = .ok (.iload_n 1, 1) := by decide +kernel
theorem dX4_lay_82 : decode cX4_lay 82 = .ok (.iaload, 1) := by decide +kernel
theorem dX4_lay_83 : decode cX4_lay 83 = .ok (.iconst 4, 1) := by decide +kernel
theorem dX4_lay_84 : decode cX4_lay 84 = .ok (.iload_n 3, 1) := by decide +kernel
theorem dX4_lay_85 : decode cX4_lay 85 = .ok (.invokevirtual 181, 3) := by decide +kernel
theorem dX4_lay_88 : decode cX4_lay 88 = .ok (.return_, 1) := by decide +kernel
theorem dX4_failureOfPlace_0 : decode cX4_failureOfPlace 0 = .ok (.iload_n 1, 1) := by decide +kernel
theorem dX4_failureOfPlace_1 : decode cX4_failureOfPlace 1 = .ok (.bipush (-9), 2) := by decide +kernel
theorem dX4_failureOfPlace_3 : decode cX4_failureOfPlace 3 = .ok (.if_icmp .ne 5, 3) := by decide +kernel
theorem dX4_failureOfPlace_6 : decode cX4_failureOfPlace 6 = .ok (.iconst 1, 1) := by decide +kernel
theorem dX4_failureOfPlace_7 : decode cX4_failureOfPlace 7 = .ok (.ireturn, 1) := by decide +kernel
theorem dX4_failureOfPlace_8 : decode cX4_failureOfPlace 8 = .ok (.aload_n 0, 1) := by decide +kernel
theorem dX4_failureOfPlace_9 : decode cX4_failureOfPlace 9 = .ok (.getfield 47, 3) := by decide +kernel
