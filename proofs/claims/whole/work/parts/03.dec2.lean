theorem dX8_solve_109 : decode cX8_solve 109 = .ok (.iaload, 1) := by decide +kernel
theorem dX8_solve_110 : decode cX8_solve 110 = .ok (.putfield 63, 3) := by decide +kernel
theorem dX8_solve_113 : decode cX8_solve 113 = .ok (.aload_n 0, 1) := by decide +kernel
theorem dX8_solve_114 : decode cX8_solve 114 = .ok (.aload_n 0, 1) := by decide +kernel
theorem dX8_solve_115 : decode cX8_solve 115 = .ok (.iconst 0, 1) := by decide +kernel
theorem dX8_solve_116 : decode cX8_solve 116 = .ok (.iconst 0, 1) := by decide +kernel
theorem dX8_solve_117 : decode cX8_solve 117 = .ok (.iconst (-1), 1) := by decide +kernel
theorem dX8_solve_118 : decode cX8_solve 118 = .ok (.invokevirtual 100, 3) := by decide +kernel
theorem dX8_solve_121 : decode cX8_solve 121 = .ok (.putfield 59, 3) := by decide +kernel
theorem dX8_solve_124 : decode cX8_solve 124 = .ok (.aload_n 0, 1) := by decide +kernel
theorem dX8_solve_125 : decode cX8_solve 125 = .ok (.iconst 0, 1) := by decide +kernel
theorem dX8_solve_126 : decode cX8_solve 126 = .ok (.iconst 1, 1) := by decide +kernel
theorem dX8_solve_127 : decode cX8_solve 127 = .ok (.iconst (-1), 1) := by decide +kernel
theorem dX8_solve_128 : decode cX8_solve 128 = .ok (.iconst 0, 1) := by decide +kernel
theorem dX8_solve_129 : decode cX8_solve 129 = .ok (.lconst 0, 1) := by decide +kernel
theorem dX8_solve_130 : decode cX8_solve 130 = .ok (.invokevirtual 104, 3) := by decide +kernel
theorem dX8_solve_133 : decode cX8_solve 133 = .ok (.aload_n 0, 1) := by decide +kernel
theorem dX8_solve_134 : decode cX8_solve 134 = .ok (.getfield 66, 3) := by decide +kernel
theorem dX8_solve_137 : decode cX8_solve 137 = .ok (.iconst (-1), 1) := by decide +kernel
theorem dX8_solve_138 : decode cX8_solve 138 = .ok (.if_icmp .eq 23, 3) := by decide +kernel
theorem dX8_solve_141 : decode cX8_solve 141 = .ok (.aload_n 0, 1) := by decide +kernel
theorem dX8_solve_142 : decode cX8_solve 142 = .ok (.dup, 1) := by decide +kernel
theorem dX8_solve_143 : decode cX8_solve 143 = .ok (.getfield 69, 3) := by decide +kernel
theorem dX8_solve_146 : decode cX8_solve 146 = .ok (.aload_n 0, 1) := by decide +kernel
theorem dX8_solve_147 : decode cX8_solve 147 = .ok (.aload_n 0, 1) := by decide +kernel
theorem dX8_solve_148 : decode cX8_solve 148 = .ok (.getfield 69, 3) := by decide +kernel
theorem dX8_solve_151 : decode cX8_solve 151 = .ok (.invokevirtual 108, 3) := by decide +kernel
theorem dX8_solve_154 : decode cX8_solve 154 = .ok (.invokestatic 112, 3) := by decide +kernel
theorem dX8_solve_157 : decode cX8_solve 157 = .ok (.ladd, 1) := by decide +kernel
theorem dX8_solve_158 : decode cX8_solve 158 = .ok (.putfield 69, 3) := by decide +kernel
theorem dX8_solve_161 : decode cX8_solve 161 = .ok (.return_, 1) := by decide +kernel
theorem dX8_prepare_0 : decode cX8_prepare 0 = .ok (.aload_n 0, 1) := by decide +kernel
theorem dX8_prepare_1 : decode cX8_prepare 1 = .ok (.aload_n 0, 1) := by decide +kernel
theorem dX8_prepare_2 : decode cX8_prepare 2 = .ok (.getfield 72, 3) := by decide +kernel
theorem dX8_prepare_5 : decode cX8_prepare 5 = .ok (.getfield 116, 3) := by decide +kernel
theorem dX8_prepare_8 : decode cX8_prepare 8 = .ok (.putfield 34, 3) := by decide +kernel
theorem dX8_prepare_11 : decode cX8_prepare 11 = .ok (.aload_n 0, 1) := by decide +kernel
theorem dX8_prepare_12 : decode cX8_prepare 12 = .ok (.aload_n 0, 1) := by decide +kernel
theorem dX8_prepare_13 : decode cX8_prepare 13 = .ok (.getfield 72, 3) := by decide +kernel
theorem dX8_prepare_16 : decode cX8_prepare 16 = .ok (.bipush 26, 2) := by decide +kernel
theorem dX8_prepare_18 : decode cX8_prepare 18 = .ok (.iload_n 1, 1) := by decide +kernel
theorem dX8_prepare_19 : decode cX8_prepare 19 = .ok (.invokevirtual 119, 3) := by decide +kernel
theorem dX8_prepare_22 : decode cX8_prepare 22 = .ok (.putfield 38, 3) := by decide +kernel
theorem dX8_prepare_25 : decode cX8_prepare 25 = .ok (.iconst 0, 1) := by decide +kernel
theorem dX8_prepare_26 : decode cX8_prepare 26 = .ok (.istore_n 2, 1) := by decide +kernel
theorem dX8_prepare_27 : decode cX8_prepare 27 = .ok (.iload_n 2, 1) := by decide +kernel
theorem dX8_prepare_28 : decode cX8_prepare 28 = .ok (.aload_n 0, 1) := by decide +kernel
theorem dX8_prepare_29 : decode cX8_prepare 29 = .ok (.getfield 34, 3) := by decide +kernel
theorem dX8_prepare_32 : decode cX8_prepare 32 = .ok (.if_icmp .ge 23, 3) := by decide +kernel
theorem dX8_prepare_35 : decode cX8_prepare 35 = .ok (.aload_n 0, 1) := by decide +kernel
theorem dX8_prepare_36 : decode cX8_prepare 36 = .ok (.getfield 21, 3) := by decide +kernel
theorem dX8_prepare_39 : decode cX8_prepare 39 = .ok (.iload_n 2, 1) := by decide +kernel
theorem dX8_prepare_40 : decode cX8_prepare 40 = .ok (.iconst 0, 1) := by decide +kernel
theorem dX8_prepare_41 : decode cX8_prepare 41 = .ok (.iastore, 1) := by decide +kernel
theorem dX8_prepare_42 : decode cX8_prepare 42 = .ok (.aload_n 0, 1) := by decide +kernel
theorem dX8_prepare_43 : decode cX8_prepare 43 = .ok (.getfield 24, 3) := by decide +kernel
theorem dX8_prepare_46 : decode cX8_prepare 46 = .ok (.iload_n 2, 1) := by decide +kernel
theorem dX8_prepare_47 : decode cX8_prepare 47 = .ok (.iconst (-1), 1) := by decide +kernel
theorem dX8_prepare_48 : decode cX8_prepare 48 = .ok (.iastore, 1) := by decide +kernel
theorem dX8_prepare_49 : decode cX8_prepare 49 = .ok (.iinc 2 1, 3) := by decide +kernel
theorem dX8_prepare_52 : decode cX8_prepare 52 = .ok (.goto (-25), 3) := by decide +kernel
theorem dX8_prepare_55 : decode cX8_prepare 55 = .ok (.iconst 0, 1) := by decide +kernel
theorem dX8_prepare_56 : decode cX8_prepare 56 = .ok (.istore_n 2, 1) := by decide +kernel
theorem dX8_prepare_57 : decode cX8_prepare 57 = .ok (.iload_n 2, 1) := by decide +kernel
theorem dX8_prepare_58 : decode cX8_prepare 58 = .ok (.aload_n 0, 1) := by decide +kernel
theorem dX8_prepare_59 : decode cX8_prepare 59 = .ok (.getfield 72, 3) := by decide +kernel
theorem dX8_prepare_62 : decode cX8_prepare 62 = .ok (.getfield 123, 3) := by decide +kernel
theorem dX8_prepare_65 : decode cX8_prepare 65 = .ok (.getfield 127, 3) := by decide +kernel
theorem dX8_prepare_68 : decode cX8_prepare 68 = .ok (.if_icmp .ge 100, 3) := by decide +kernel
theorem dX8_prepare_71 : decode cX8_prepare 71 = .ok (.aload_n 0, 1) := by decide +kernel
theorem dX8_prepare_72 : decode cX8_prepare 72 = .ok (.getfield 76, 3) := by decide +kernel
theorem dX8_prepare_75 : decode cX8_prepare 75 = .ok (.iload_n 2, 1) := by decide +kernel
theorem dX8_prepare_76 : decode cX8_prepare 76 = .ok (.iload_n 1, 1) := by decide +kernel
theorem dX8_prepare_77 : decode cX8_prepare 77 = .ok (.invokevirtual 132, 3) := by decide +kernel
theorem dX8_prepare_80 : decode cX8_prepare 80 = .ok (.ifCond .eq 6, 3) := by decide +kernel
theorem dX8_prepare_83 : decode cX8_prepare 83 = .ok (.goto 79, 3) := by decide +kernel
theorem dX8_prepare_86 : decode cX8_prepare 86 = .ok (.aload_n 0, 1) := by decide +kernel
theorem dX8_prepare_87 : decode cX8_prepare 87 = .ok (.getfield 9, 3) := by decide +kernel
theorem dX8_prepare_90 : decode cX8_prepare 90 = .ok (.iload_n 2, 1) := by decide +kernel
theorem dX8_prepare_91 : decode cX8_prepare 91 = .ok (.aload_n 0, 1) := by decide +kernel
theorem dX8_prepare_92 : decode cX8_prepare 92 = .ok (.getfield 72, 3) := by decide +kernel
theorem dX8_prepare_95 : decode cX8_prepare 95 = .ok (.iload_n 2, 1) := by decide +kernel
theorem dX8_prepare_96 : decode cX8_prepare 96 = .ok (.iload_n 1, 1) := by decide +kernel
theorem dX8_prepare_97 : decode cX8_prepare 97 = .ok (.invokevirtual 138, 3) := by decide +kernel
theorem dX8_prepare_100 : decode cX8_prepare 100 = .ok (.iastore, 1) := by decide +kernel
theorem dX8_prepare_101 : decode cX8_prepare 101 = .ok (.aload_n 0, 1) := by decide +kernel
theorem dX8_prepare_102 : decode cX8_prepare 102 = .ok (.getfield 15, 3) := by decide +kernel
theorem dX8_prepare_105 : decode cX8_prepare 105 = .ok (.iload_n 2, 1) := by decide +kernel
theorem dX8_prepare_106 : decode cX8_prepare 106 = .ok (.aload_n 0, 1) := by decide +kernel
theorem dX8_prepare_107 : decode cX8_prepare 107 = .ok (.getfield 76, 3) := by decide +kernel
theorem dX8_prepare_110 : decode cX8_prepare 110 = .ok (.iload_n 2, 1) := by decide +kernel
theorem dX8_prepare_111 : decode cX8_prepare 111 = .ok (.iload_n 1, 1) := by decide +kernel
theorem dX8_prepare_112 : decode cX8_prepare 112 = .ok (.invokevirtual 141, 3) := by decide +kernel
theorem dX8_prepare_115 : decode cX8_prepare 115 = .ok (.iastore, 1) := by decide +kernel
theorem dX8_prepare_116 : decode cX8_prepare 116 = .ok (.iconst 0, 1) := by decide +kernel
theorem dX8_prepare_117 : decode cX8_prepare 117 = .ok (.istore_n 3, 1) := by decide +kernel
theorem dX8_prepare_118 : decode cX8_prepare 118 = .ok (.iload_n 3, 1) := by decide +kernel
theorem dX8_prepare_119 : decode cX8_prepare 119 = .ok (.aload_n 0, 1) := by decide +kernel
theorem dX8_prepare_120 : decode cX8_prepare 120 = .ok (.getfield 34, 3) := by decide +kernel
theorem dX8_prepare_123 : decode cX8_prepare 123 = .ok (.if_icmp .ge 39, 3) := by decide +kernel
theorem dX8_prepare_126 : decode cX8_prepare 126 = .ok (.aload_n 0, 1) := by decide +kernel
theorem dX8_prepare_127 : decode cX8_prepare 127 = .ok (.getfield 72, 3) := by decide +kernel
theorem dX8_prepare_130 : decode cX8_prepare 130 = .ok (.getfield 144, 3) := by decide +kernel
theorem dX8_prepare_133 : decode cX8_prepare 133 = .ok (.iload_n 3, 1) := by decide +kernel
theorem dX8_prepare_134 : decode cX8_prepare 134 = .ok (.iaload, 1) := by decide +kernel
theorem dX8_prepare_135 : decode cX8_prepare 135 = .ok (.aload_n 0, 1) := by decide +kernel
theorem dX8_prepare_136 : decode cX8_prepare 136 = .ok (.getfield 72, 3) := by decide +kernel
theorem dX8_prepare_139 : decode cX8_prepare 139 = .ok (.getfield 123, 3) := by decide +kernel
theorem dX8_prepare_142 : decode cX8_prepare 142 = .ok (.getfield 147, 3) := by decide +kernel
theorem dX8_prepare_145 : decode cX8_prepare 145 = .ok (.iload_n 2, 1) := by decide +kernel
theorem dX8_prepare_146 : decode cX8_prepare 146 = .ok (.iaload, 1) := by decide +kernel
theorem dX8_prepare_147 : decode cX8_prepare 147 = .ok (.if_icmp .ne 9, 3) := by decide +kernel
theorem dX8_prepare_150 : decode cX8_prepare 150 = .ok (.aload_n 0, 1) := by decide +kernel
theorem dX8_prepare_151 : decode cX8_prepare 151 = .ok (.iload_n 3, 1) := by decide +kernel
theorem dX8_prepare_152 : decode cX8_prepare 152 = .ok (.iload_n 2, 1) := by decide +kernel
theorem dX8_prepare_153 : decode cX8_prepare 153 = .ok (.invokevirtual 150, 3) := by decide +kernel
theorem dX8_prepare_156 : decode cX8_prepare 156 = .ok (.iinc 3 1, 3) := by decide +kernel
theorem dX8_prepare_159 : decode cX8_prepare 159 = .ok (.goto (-41), 3) := by decide +kernel
theorem dX8_prepare_162 : decode cX8_prepare 162 = .ok (.iinc 2 1, 3) := by decide +kernel
theorem dX8_prepare_165 : decode cX8_prepare 165 = .ok (.goto (-108), 3) := by decide +kernel
theorem dX8_prepare_168 : decode cX8_prepare 168 = .ok (.return_, 1) := by decide +kernel
theorem dX8_addChoice_0 : decode cX8_addChoice 0 = .ok (.aload_n 0, 1) := by decide +kernel
theorem dX8_addChoice_1 : decode cX8_addChoice 1 = .ok (.getfield 21, 3) := by decide +kernel
theorem dX8_addChoice_4 : decode cX8_addChoice 4 = .ok (.iload_n 1, 1) := by decide +kernel
theorem dX8_addChoice_5 : decode cX8_addChoice 5 = .ok (.iaload, 1) := by decide +kernel
theorem dX8_addChoice_6 : decode cX8_addChoice 6 = .ok (.iconst 3, 1) := by decide +kernel
theorem dX8_addChoice_7 : decode cX8_addChoice 7 = .ok (.if_icmp .lt 4, 3) := by decide +kernel
theorem dX8_addChoice_10 : decode cX8_addChoice 10 = .ok (.return_, 1) := by decide +kernel
theorem dX8_addChoice_11 : decode cX8_addChoice 11 = .ok (.aload_n 0, 1) := by decide +kernel
theorem dX8_addChoice_12 : decode cX8_addChoice 12 = .ok (.getfield 18, 3) := by decide +kernel
theorem dX8_addChoice_15 : decode cX8_addChoice 15 = .ok (.iload_n 1, 1) := by decide +kernel
theorem dX8_addChoice_16 : decode cX8_addChoice 16 = .ok (.iconst 3, 1) := by decide +kernel
theorem dX8_addChoice_17 : decode cX8_addChoice 17 = .ok (.imul, 1) := by decide +kernel
theorem dX8_addChoice_18 : decode cX8_addChoice 18 = .ok (.aload_n 0, 1) := by decide +kernel
theorem dX8_addChoice_19 : decode cX8_addChoice 19 = .ok (.getfield 21, 3) := by decide +kernel
theorem dX8_addChoice_22 : decode cX8_addChoice 22 = .ok (.iload_n 1, 1) := by decide +kernel
theorem dX8_addChoice_23 : decode cX8_addChoice 23 = .ok (.iaload, 1) := by decide +kernel
theorem dX8_addChoice_24 : decode cX8_addChoice 24 = .ok (.iadd, 1) := by decide +kernel
theorem dX8_addChoice_25 : decode cX8_addChoice 25 = .ok (.iload_n 2, 1) := by decide +kernel
theorem dX8_addChoice_26 : decode cX8_addChoice 26 = .ok (.iastore, 1) := by decide +kernel
theorem dX8_addChoice_27 : decode cX8_addChoice 27 = .ok (.aload_n 0, 1) := by decide +kernel
theorem dX8_addChoice_28 : decode cX8_addChoice 28 = .ok (.getfield 21, 3) := by decide +kernel
theorem dX8_addChoice_31 : decode cX8_addChoice 31 = .ok (.iload_n 1, 1) := by decide +kernel
theorem dX8_addChoice_32 : decode cX8_addChoice 32 = .ok (.dup2, 1) := by decide +kernel
theorem dX8_addChoice_33 : decode cX8_addChoice 33 = .ok (.iaload, 1) := by decide +kernel
theorem dX8_addChoice_34 : decode cX8_addChoice 34 = .ok (.iconst 1, 1) := by decide +kernel
theorem dX8_addChoice_35 : decode cX8_addChoice 35 = .ok (.iadd, 1) := by decide +kernel
theorem dX8_addChoice_36 : decode cX8_addChoice 36 = .ok (.iastore, 1) := by decide +kernel
theorem dX8_addChoice_37 : decode cX8_addChoice 37 = .ok (.aload_n 0, 1) := by decide +kernel
theorem dX8_addChoice_38 : decode cX8_addChoice 38 = .ok (.getfield 24, 3) := by decide +kernel
theorem dX8_addChoice_41 : decode cX8_addChoice 41 = .ok (.iload_n 1, 1) := by decide +kernel
theorem dX8_addChoice_42 : decode cX8_addChoice 42 = .ok (.iaload, 1) := by decide +kernel
theorem dX8_addChoice_43 : decode cX8_addChoice 43 = .ok (.iconst (-1), 1) := by decide +kernel
theorem dX8_addChoice_44 : decode cX8_addChoice 44 = .ok (.if_icmp .eq 18, 3) := by decide +kernel
theorem dX8_addChoice_47 : decode cX8_addChoice 47 = .ok (.aload_n 0, 1) := by decide +kernel
theorem dX8_addChoice_48 : decode cX8_addChoice 48 = .ok (.getfield 9, 3) := by decide +kernel
theorem dX8_addChoice_51 : decode cX8_addChoice 51 = .ok (.iload_n 2, 1) := by decide +kernel
theorem dX8_addChoice_52 : decode cX8_addChoice 52 = .ok (.iaload, 1) := by decide +kernel
theorem dX8_addChoice_53 : decode cX8_addChoice 53 = .ok (.aload_n 0, 1) := by decide +kernel
theorem dX8_addChoice_54 : decode cX8_addChoice 54 = .ok (.getfield 24, 3) := by decide +kernel
theorem dX8_addChoice_57 : decode cX8_addChoice 57 = .ok (.iload_n 1, 1) := by decide +kernel
theorem dX8_addChoice_58 : decode cX8_addChoice 58 = .ok (.iaload, 1) := by decide +kernel
theorem dX8_addChoice_59 : decode cX8_addChoice 59 = .ok (.if_icmp .ge 15, 3) := by decide +kernel
theorem dX8_addChoice_62 : decode cX8_addChoice 62 = .ok (.aload_n 0, 1) := by decide +kernel
theorem dX8_addChoice_63 : decode cX8_addChoice 63 = .ok (.getfield 24, 3) := by decide +kernel
theorem dX8_addChoice_66 : decode cX8_addChoice 66 = .ok (.iload_n 1, 1) := by decide +kernel
theorem dX8_addChoice_67 : decode cX8_addChoice 67 = .ok (.aload_n 0, 1) := by decide +kernel
theorem dX8_addChoice_68 : decode cX8_addChoice 68 = .ok (.getfield 9, 3) := by decide +kernel
theorem dX8_addChoice_71 : decode cX8_addChoice 71 = .ok (.iload_n 2, 1) := by decide +kernel
theorem dX8_addChoice_72 : decode cX8_addChoice 72 = .ok (.iaload, 1) := by decide +kernel
theorem dX8_addChoice_73 : decode cX8_addChoice 73 = .ok (.iastore, 1) := by decide +kernel
theorem dX8_addChoice_74 : decode cX8_addChoice 74 = .ok (.return_, 1) := by decide +kernel
theorem dX8_hasRow_0 : decode cX8_hasRow 0 = .ok (.iconst 0, 1) := by decide +kernel
theorem dX8_hasRow_1 : decode cX8_hasRow 1 = .ok (.istore_n 1, 1) := by decide +kernel
theorem dX8_hasRow_2 : decode cX8_hasRow 2 = .ok (.iload_n 1, 1) := by decide +kernel
theorem dX8_hasRow_3 : decode cX8_hasRow 3 = .ok (.aload_n 0, 1) := by decide +kernel
theorem dX8_hasRow_4 : decode cX8_hasRow 4 = .ok (.getfield 34, 3) := by decide +kernel
theorem dX8_hasRow_7 : decode cX8_hasRow 7 = .ok (.if_icmp .ge 20, 3) := by decide +kernel
theorem dX8_hasRow_10 : decode cX8_hasRow 10 = .ok (.aload_n 0, 1) := by decide +kernel
theorem dX8_hasRow_11 : decode cX8_hasRow 11 = .ok (.getfield 21, 3) := by decide +kernel
theorem dX8_hasRow_14 : decode cX8_hasRow 14 = .ok (.iload_n 1, 1) := by decide +kernel
theorem dX8_hasRow_15 : decode cX8_hasRow 15 = .ok (.iaload, 1) := by decide +kernel
theorem dX8_hasRow_16 : decode cX8_hasRow 16 = .ok (.ifCond .ne 5, 3) := by decide +kernel
theorem dX8_hasRow_19 : decode cX8_hasRow 19 = .ok (.iconst 0, 1) := by decide +kernel
theorem dX8_hasRow_20 : decode cX8_hasRow 20 = .ok (.ireturn, 1) := by decide +kernel
theorem dX8_hasRow_21 : decode cX8_hasRow 21 = .ok (.iinc 1 1, 3) := by decide +kernel
theorem dX8_hasRow_24 : decode cX8_hasRow 24 = .ok (.goto (-22), 3) := by decide +kernel
theorem dX8_hasRow_27 : decode cX8_hasRow 27 = .ok (.aload_n 0, 1) := by decide +kernel
theorem dX8_hasRow_28 : decode cX8_hasRow 28 = .ok (.getfield 34, 3) := by decide +kernel
theorem dX8_hasRow_31 : decode cX8_hasRow 31 = .ok (.ifCond .le 7, 3) := by decide +kernel
theorem dX8_hasRow_34 : decode cX8_hasRow 34 = .ok (.iconst 1, 1) := by decide +kernel
theorem dX8_hasRow_35 : decode cX8_hasRow 35 = .ok (.goto 4, 3) := by decide +kernel
theorem dX8_hasRow_38 : decode cX8_hasRow 38 = .ok (.iconst 0, 1) := by decide +kernel
theorem dX8_hasRow_39 : decode cX8_hasRow 39 = .ok (.ireturn, 1) := by decide +kernel
theorem dX8_tailPlace_0 : decode cX8_tailPlace 0 = .ok (.iload_n 0, 1) := by decide +kernel
theorem dX8_tailPlace_1 : decode cX8_tailPlace 1 = .ok (.iconst 4, 1) := by decide +kernel
theorem dX8_tailPlace_2 : decode cX8_tailPlace 2 = .ok (.imul, 1) := by decide +kernel
theorem dX8_tailPlace_3 : decode cX8_tailPlace 3 = .ok (.iload_n 1, 1) := by decide +kernel
theorem dX8_tailPlace_4 : decode cX8_tailPlace 4 = .ok (.iadd, 1) := by decide +kernel
theorem dX8_tailPlace_5 : decode cX8_tailPlace 5 = .ok (.iconst 3, 1) := by decide +kernel
theorem dX8_tailPlace_6 : decode cX8_tailPlace 6 = .ok (.imul, 1) := by decide +kernel
theorem dX8_tailPlace_7 : decode cX8_tailPlace 7 = .ok (.iload_n 2, 1) := by decide +kernel
theorem dX8_tailPlace_8 : decode cX8_tailPlace 8 = .ok (.iadd, 1) := by decide +kernel
theorem dX8_tailPlace_9 : decode cX8_tailPlace 9 = .ok (.iconst 2, 1) := by decide +kernel
theorem dX8_tailPlace_10 : decode cX8_tailPlace 10 = .ok (.imul, 1) := by decide +kernel
theorem dX8_tailPlace_11 : decode cX8_tailPlace 11 = .ok (.iload_n 3, 1) := by decide +kernel
theorem dX8_tailPlace_12 : decode cX8_tailPlace 12 = .ok (.ifCond .eq 7, 3) := by decide +kernel
theorem dX8_tailPlace_15 : decode cX8_tailPlace 15 = .ok (.iconst 1, 1) := by decide +kernel
theorem dX8_tailPlace_16 : decode cX8_tailPlace 16 = .ok (.goto 4, 3) := by decide +kernel
theorem dX8_tailPlace_19 : decode cX8_tailPlace 19 = .ok (.iconst 0, 1) := by decide +kernel
theorem dX8_tailPlace_20 : decode cX8_tailPlace 20 = .ok (.iadd, 1) := by decide +kernel
theorem dX8_tailPlace_21 : decode cX8_tailPlace 21 = .ok (.ireturn, 1) := by decide +kernel
theorem dX8_fillTails_0 : decode cX8_fillTails 0 = .ok (.aload_n 0, 1) := by decide +kernel
theorem dX8_fillTails_1 : decode cX8_fillTails 1 = .ok (.iload_n 1, 1) := by decide +kernel
theorem dX8_fillTails_2 : decode cX8_fillTails 2 = .ok (.putfield 41, 3) := by decide +kernel
theorem dX8_fillTails_5 : decode cX8_fillTails 5 = .ok (.aload_n 0, 1) := by decide +kernel
theorem dX8_fillTails_6 : decode cX8_fillTails 6 = .ok (.iload_n 2, 1) := by decide +kernel
theorem dX8_fillTails_7 : decode cX8_fillTails 7 = .ok (.putfield 44, 3) := by decide +kernel
theorem dX8_fillTails_10 : decode cX8_fillTails 10 = .ok (.aload_n 0, 1) := by decide +kernel
theorem dX8_fillTails_11 : decode cX8_fillTails 11 = .ok (.getfield 31, 3) := by decide +kernel
theorem dX8_fillTails_14 : decode cX8_fillTails 14 = .ok (.iload_n 1, 1) := by decide +kernel
theorem dX8_fillTails_15 : decode cX8_fillTails 15 = .ok (.iconst 4, 1) := by decide +kernel
theorem dX8_fillTails_16 : decode cX8_fillTails 16 = .ok (.imul, 1) := by decide +kernel
theorem dX8_fillTails_17 : decode cX8_fillTails 17 = .ok (.iload_n 2, 1) := by decide +kernel
theorem dX8_fillTails_18 : decode cX8_fillTails 18 = .ok (.iadd, 1) := by decide +kernel
theorem dX8_fillTails_19 : decode cX8_fillTails 19 = .ok (.iconst 0, 1) := by decide +kernel
theorem dX8_fillTails_20 : decode cX8_fillTails 20 = .ok (.iastore, 1) := by decide +kernel
theorem dX8_fillTails_21 : decode cX8_fillTails 21 = .ok (.iload_n 1, 1) := by decide +kernel
theorem dX8_fillTails_22 : decode cX8_fillTails 22 = .ok (.ifCond .ne 7, 3) := by decide +kernel
theorem dX8_fillTails_25 : decode cX8_fillTails 25 = .ok (.lconst 0, 1) := by decide +kernel
theorem dX8_fillTails_26 : decode cX8_fillTails 26 = .ok (.goto 7, 3) := by decide +kernel
theorem dX8_fillTails_29 : decode cX8_fillTails 29 = .ok (.iload_n 1, 1) := by decide +kernel
theorem dX8_fillTails_30 : decode cX8_fillTails 30 = .ok (.invokestatic 153, 3) := by decide +kernel
theorem dX8_fillTails_33 : decode cX8_fillTails 33 = .ok (.lstore_n 3, 1) := by decide +kernel
theorem dX8_fillTails_34 : decode cX8_fillTails 34 = .ok (.iconst 0, 1) := by decide +kernel
theorem dX8_fillTails_35 : decode cX8_fillTails 35 = .ok (.istore 5, 2) := by decide +kernel
theorem dX8_fillTails_37 : decode cX8_fillTails 37 = .ok (.iload 5, 2) := by decide +kernel
theorem dX8_fillTails_39 : decode cX8_fillTails 39 = .ok (.aload_n 0, 1) := by decide +kernel
theorem dX8_fillTails_40 : decode cX8_fillTails 40 = .ok (.getfield 21, 3) := by decide +kernel
theorem dX8_fillTails_43 : decode cX8_fillTails 43 = .ok (.iload_n 1, 1) := by decide +kernel
theorem dX8_fillTails_44 : decode cX8_fillTails 44 = .ok (.iaload, 1) := by decide +kernel
theorem dX8_fillTails_45 : decode cX8_fillTails 45 = .ok (.if_icmp .ge 146, 3) := by decide +kernel
theorem dX8_fillTails_48 : decode cX8_fillTails 48 = .ok (.aload_n 0, 1) := by decide +kernel
theorem dX8_fillTails_49 : decode cX8_fillTails 49 = .ok (.aload_n 0, 1) := by decide +kernel
theorem dX8_fillTails_50 : decode cX8_fillTails 50 = .ok (.getfield 18, 3) := by decide +kernel
theorem dX8_fillTails_53 : decode cX8_fillTails 53 = .ok (.iload_n 1, 1) := by decide +kernel
theorem dX8_fillTails_54 : decode cX8_fillTails 54 = .ok (.iconst 3, 1) := by decide +kernel
theorem dX8_fillTails_55 : decode cX8_fillTails 55 = .ok (.imul, 1) := by decide +kernel
theorem dX8_fillTails_56 : decode cX8_fillTails 56 = .ok (.iload 5, 2) := by decide +kernel
theorem dX8_fillTails_58 : decode cX8_fillTails 58 = .ok (.iadd, 1) := by decide +kernel
theorem dX8_fillTails_59 : decode cX8_fillTails 59 = .ok (.iaload, 1) := by decide +kernel
theorem dX8_fillTails_60 : decode cX8_fillTails 60 = .ok (.putfield 47, 3) := by decide +kernel
theorem dX8_fillTails_63 : decode cX8_fillTails 63 = .ok (.aload_n 0, 1) := by decide +kernel
theorem dX8_fillTails_64 : decode cX8_fillTails 64 = .ok (.getfield 47, 3) := by decide +kernel
theorem dX8_fillTails_67 : decode cX8_fillTails 67 = .ok (.aload_n 0, 1) := by decide +kernel
theorem dX8_fillTails_68 : decode cX8_fillTails 68 = .ok (.getfield 72, 3) := by decide +kernel
theorem dX8_fillTails_71 : decode cX8_fillTails 71 = .ok (.getfield 156, 3) := by decide +kernel
theorem dX8_fillTails_74 : decode cX8_fillTails 74 = .ok (.iload_n 2, 1) := by decide +kernel
theorem dX8_fillTails_75 : decode cX8_fillTails 75 = .ok (.iaload, 1) := by decide +kernel
theorem dX8_fillTails_76 : decode cX8_fillTails 76 = .ok (.if_icmp .ne 7, 3) := by decide +kernel
theorem dX8_fillTails_79 : decode cX8_fillTails 79 = .ok (.iconst 1, 1) := by decide +kernel
theorem dX8_fillTails_80 : decode cX8_fillTails 80 = .ok (.goto 4, 3) := by decide +kernel
theorem dX8_fillTails_83 : decode cX8_fillTails 83 = .ok (.iconst 0, 1) := by decide +kernel
theorem dX8_fillTails_84 : decode cX8_fillTails 84 = .ok (.istore 6, 2) := by decide +kernel
theorem dX8_fillTails_86 : decode cX8_fillTails 86 = .ok (.iconst 0, 1) := by decide +kernel
theorem dX8_fillTails_87 : decode cX8_fillTails 87 = .ok (.istore 7, 2) := by decide +kernel
theorem dX8_fillTails_89 : decode cX8_fillTails 89 = .ok (.iload 7, 2) := by decide +kernel
theorem dX8_fillTails_91 : decode cX8_fillTails 91 = .ok (.iconst 2, 1) := by decide +kernel
theorem dX8_fillTails_92 : decode cX8_fillTails 92 = .ok (.if_icmp .ge 93, 3) := by decide +kernel
theorem dX8_fillTails_95 : decode cX8_fillTails 95 = .ok (.aload_n 0, 1) := by decide +kernel
theorem dX8_fillTails_96 : decode cX8_fillTails 96 = .ok (.iload 7, 2) := by decide +kernel
theorem dX8_fillTails_98 : decode cX8_fillTails 98 = .ok (.iconst 1, 1) := by decide +kernel
theorem dX8_fillTails_99 : decode cX8_fillTails 99 = .ok (.if_icmp .ne 7, 3) := by decide +kernel
theorem dX8_fillTails_102 : decode cX8_fillTails 102 = .ok (.iconst 1, 1) := by decide +kernel
theorem dX8_fillTails_103 : decode cX8_fillTails 103 = .ok (.goto 4, 3) := by decide +kernel
theorem dX8_fillTails_106 : decode cX8_fillTails 106 = .ok (.iconst 0, 1) := by decide +kernel
theorem dX8_fillTails_107 : decode cX8_fillTails 107 = .ok (.putfield 50, 3) := by decide +kernel
theorem dX8_fillTails_110 : decode cX8_fillTails 110 = .ok (.aload_n 0, 1) := by decide +kernel
theorem dX8_fillTails_111 : decode cX8_fillTails 111 = .ok (.ldc2_w 57, 3) := by decide +kernel
theorem dX8_fillTails_114 : decode cX8_fillTails 114 = .ok (.putfield 59, 3) := by decide +kernel
theorem dX8_fillTails_117 : decode cX8_fillTails 117 = .ok (.lload_n 3, 1) := by decide +kernel
theorem dX8_fillTails_118 : decode cX8_fillTails 118 = .ok (.aload_n 0, 1) := by decide +kernel
theorem dX8_fillTails_119 : decode cX8_fillTails 119 = .ok (.iload_n 1, 1) := by decide +kernel
theorem dX8_fillTails_120 : decode cX8_fillTails 120 = .ok (.aload_n 0, 1) := by decide +kernel
theorem dX8_fillTails_121 : decode cX8_fillTails 121 = .ok (.getfield 47, 3) := by decide +kernel
theorem dX8_fillTails_124 : decode cX8_fillTails 124 = .ok (.invokevirtual 159, 3) := by decide +kernel
theorem dX8_fillTails_127 : decode cX8_fillTails 127 = .ok (.ladd, 1) := by decide +kernel
theorem dX8_fillTails_128 : decode cX8_fillTails 128 = .ok (.lstore 8, 2) := by decide +kernel
theorem dX8_fillTails_130 : decode cX8_fillTails 130 = .ok (.aload_n 0, 1) := by decide +kernel
theorem dX8_fillTails_131 : decode cX8_fillTails 131 = .ok (.getfield 50, 3) := by decide +kernel
theorem dX8_fillTails_134 : decode cX8_fillTails 134 = .ok (.ifCond .eq 7, 3) := by decide +kernel
theorem dX8_fillTails_137 : decode cX8_fillTails 137 = .ok (.iload_n 2, 1) := by decide +kernel
theorem dX8_fillTails_138 : decode cX8_fillTails 138 = .ok (.ifCond .le 21, 3) := by decide +kernel
theorem dX8_fillTails_141 : decode cX8_fillTails 141 = .ok (.aload_n 0, 1) := by decide +kernel
theorem dX8_fillTails_142 : decode cX8_fillTails 142 = .ok (.iload_n 1, 1) := by decide +kernel
theorem dX8_fillTails_143 : decode cX8_fillTails 143 = .ok (.aload_n 0, 1) := by decide +kernel
theorem dX8_fillTails_144 : decode cX8_fillTails 144 = .ok (.getfield 9, 3) := by decide +kernel
theorem dX8_fillTails_147 : decode cX8_fillTails 147 = .ok (.aload_n 0, 1) := by decide +kernel
theorem dX8_fillTails_148 : decode cX8_fillTails 148 = .ok (.getfield 47, 3) := by decide +kernel
theorem dX8_fillTails_151 : decode cX8_fillTails 151 = .ok (.iaload, 1) := by decide +kernel
theorem dX8_fillTails_152 : decode cX8_fillTails 152 = .ok (.lload 8, 2) := by decide +kernel
theorem dX8_fillTails_154 : decode cX8_fillTails 154 = .ok (.iload 6, 2) := by decide +kernel
theorem dX8_fillTails_156 : decode cX8_fillTails 156 = .ok (.invokevirtual 163, 3) := by decide +kernel
theorem dX8_fillTails_159 : decode cX8_fillTails 159 = .ok (.aload_n 0, 1) := by decide +kernel
theorem dX8_fillTails_160 : decode cX8_fillTails 160 = .ok (.getfield 27, 3) := by decide +kernel
theorem dX8_fillTails_163 : decode cX8_fillTails 163 = .ok (.iload_n 1, 1) := by decide +kernel
theorem dX8_fillTails_164 : decode cX8_fillTails 164 = .ok (.iload_n 2, 1) := by decide +kernel
theorem dX8_fillTails_165 : decode cX8_fillTails 165 = .ok (.iload 5, 2) := by decide +kernel
theorem dX8_fillTails_167 : decode cX8_fillTails 167 = .ok (.aload_n 0, 1) := by decide +kernel
theorem dX8_fillTails_168 : decode cX8_fillTails 168 = .ok (.getfield 50, 3) := by decide +kernel
theorem dX8_fillTails_171 : decode cX8_fillTails 171 = .ok (.invokestatic 167, 3) := by decide +kernel
theorem dX8_fillTails_174 : decode cX8_fillTails 174 = .ok (.aload_n 0, 1) := by decide +kernel
theorem dX8_fillTails_175 : decode cX8_fillTails 175 = .ok (.getfield 59, 3) := by decide +kernel
theorem dX8_fillTails_178 : decode cX8_fillTails 178 = .ok (.lastore, 1) := by decide +kernel
theorem dX8_fillTails_179 : decode cX8_fillTails 179 = .ok (.iinc 7 1, 3) := by decide +kernel
theorem dX8_fillTails_182 : decode cX8_fillTails 182 = .ok (.goto (-93), 3) := by decide +kernel
theorem dX8_fillTails_185 : decode cX8_fillTails 185 = .ok (.iinc 5 1, 3) := by decide +kernel
theorem dX8_fillTails_188 : decode cX8_fillTails 188 = .ok (.goto (-151), 3) := by decide +kernel
theorem dX8_fillTails_191 : decode cX8_fillTails 191 = .ok (.return_, 1) := by decide +kernel
theorem dX8_choiceKey_0 : decode cX8_choiceKey 0 = .ok (.aload_n 0, 1) := by decide +kernel
theorem dX8_choiceKey_1 : decode cX8_choiceKey 1 = .ok (.getfield 15, 3) := by decide +kernel
theorem dX8_choiceKey_4 : decode cX8_choiceKey 4 = .ok (.iload_n 2, 1) := by decide +kernel
theorem dX8_choiceKey_5 : decode cX8_choiceKey 5 = .ok (.iaload, 1) := by decide +kernel
theorem dX8_choiceKey_6 : decode cX8_choiceKey 6 = .ok (.invokestatic 112, 3) := by decide +kernel
theorem dX8_choiceKey_9 : decode cX8_choiceKey 9 = .ok (.iload_n 1, 1) := by decide +kernel
theorem dX8_choiceKey_10 : decode cX8_choiceKey 10 = .ok (.iload_n 2, 1) := by decide +kernel
theorem dX8_choiceKey_11 : decode cX8_choiceKey 11 = .ok (.invokestatic 171, 3) := by decide +kernel
theorem dX8_choiceKey_14 : decode cX8_choiceKey 14 = .ok (.ladd, 1) := by decide +kernel
theorem dX8_choiceKey_15 : decode cX8_choiceKey 15 = .ok (.lreturn, 1) := by decide +kernel
theorem dX8_spread_0 : decode cX8_spread 0 = .ok (.iload_n 2, 1) := by decide +kernel
theorem dX8_spread_1 : decode cX8_spread 1 = .ok (.aload_n 0, 1) := by decide +kernel
theorem dX8_spread_2 : decode cX8_spread 2 = .ok (.getfield 72, 3) := by decide +kernel
theorem dX8_spread_5 : decode cX8_spread 5 = .ok (.getfield 174, 3) := by decide +kernel
theorem dX8_spread_8 : decode cX8_spread 8 = .ok (.if_icmp .gt 11, 3) := by decide +kernel
theorem dX8_spread_11 : decode cX8_spread 11 = .ok (.iload_n 1, 1) := by decide +kernel
theorem dX8_spread_12 : decode cX8_spread 12 = .ok (.aload_n 0, 1) := by decide +kernel
theorem dX8_spread_13 : decode cX8_spread 13 = .ok (.getfield 34, 3) := by decide +kernel
theorem dX8_spread_16 : decode cX8_spread 16 = .ok (.if_icmp .lt 4, 3) := by decide +kernel
theorem dX8_spread_19 : decode cX8_spread 19 = .ok (.return_, 1) := by decide +kernel
theorem dX8_spread_20 : decode cX8_spread 20 = .ok (.iload_n 1, 1) := by decide +kernel
theorem dX8_spread_21 : decode cX8_spread 21 = .ok (.iconst 1, 1) := by decide +kernel
theorem dX8_spread_22 : decode cX8_spread 22 = .ok (.iadd, 1) := by decide +kernel
theorem dX8_spread_23 : decode cX8_spread 23 = .ok (.istore 6, 2) := by decide +kernel
theorem dX8_spread_25 : decode cX8_spread 25 = .ok (.aload_n 0, 1) := by decide +kernel
theorem dX8_spread_26 : decode cX8_spread 26 = .ok (.iload 6, 2) := by decide +kernel
theorem dX8_spread_28 : decode cX8_spread 28 = .ok (.invokevirtual 177, 3) := by decide +kernel
theorem dX8_spread_31 : decode cX8_spread 31 = .ok (.istore 7, 2) := by decide +kernel
theorem dX8_spread_33 : decode cX8_spread 33 = .ok (.iload 7, 2) := by decide +kernel
theorem dX8_spread_35 : decode cX8_spread 35 = .ok (.ifCond .le 118, 3) := by decide +kernel
theorem dX8_spread_38 : decode cX8_spread 38 = .ok (.aload_n 0, 1) := by decide +kernel
theorem dX8_spread_39 : decode cX8_spread 39 = .ok (.getfield 50, 3) := by decide +kernel
theorem dX8_spread_42 : decode cX8_spread 42 = .ok (.ifCond .ne 24, 3) := by decide +kernel
theorem dX8_spread_45 : decode cX8_spread 45 = .ok (.aload_n 0, 1) := by decide +kernel
theorem dX8_spread_46 : decode cX8_spread 46 = .ok (.getfield 31, 3) := by decide +kernel
theorem dX8_spread_49 : decode cX8_spread 49 = .ok (.aload_n 0, 1) := by decide +kernel
theorem dX8_spread_50 : decode cX8_spread 50 = .ok (.getfield 41, 3) := by decide +kernel
theorem dX8_spread_53 : decode cX8_spread 53 = .ok (.iconst 4, 1) := by decide +kernel
theorem dX8_spread_54 : decode cX8_spread 54 = .ok (.imul, 1) := by decide +kernel
theorem dX8_spread_55 : decode cX8_spread 55 = .ok (.aload_n 0, 1) := by decide +kernel
theorem dX8_spread_56 : decode cX8_spread 56 = .ok (.getfield 44, 3) := by decide +kernel
theorem dX8_spread_59 : decode cX8_spread 59 = .ok (.iadd, 1) := by decide +kernel
theorem dX8_spread_60 : decode cX8_spread 60 = .ok (.dup2, 1) := by decide +kernel
theorem dX8_spread_61 : decode cX8_spread 61 = .ok (.iaload, 1) := by decide +kernel
theorem dX8_spread_62 : decode cX8_spread 62 = .ok (.iload 7, 2) := by decide +kernel
theorem dX8_spread_64 : decode cX8_spread 64 = .ok (.iadd, 1) := by decide +kernel
theorem dX8_spread_65 : decode cX8_spread 65 = .ok (.iastore, 1) := by decide +kernel
theorem dX8_spread_66 : decode cX8_spread 66 = .ok (.aload_n 0, 1) := by decide +kernel
theorem dX8_spread_67 : decode cX8_spread 67 = .ok (.getfield 76, 3) := by decide +kernel
theorem dX8_spread_70 : decode cX8_spread 70 = .ok (.aload_n 0, 1) := by decide +kernel
theorem dX8_spread_71 : decode cX8_spread 71 = .ok (.getfield 44, 3) := by decide +kernel
theorem dX8_spread_74 : decode cX8_spread 74 = .ok (.aload_n 0, 1) := by decide +kernel
theorem dX8_spread_75 : decode cX8_spread 75 = .ok (.getfield 72, 3) := by decide +kernel
theorem dX8_spread_78 : decode cX8_spread 78 = .ok (.getfield 174, 3) := by decide +kernel
theorem dX8_spread_81 : decode cX8_spread 81 = .ok (.iload_n 2, 1) := by decide +kernel
theorem dX8_spread_82 : decode cX8_spread 82 = .ok (.isub, 1) := by decide +kernel
theorem dX8_spread_83 : decode cX8_spread 83 = .ok (.iload 6, 2) := by decide +kernel
theorem dX8_spread_85 : decode cX8_spread 85 = .ok (.aload_n 0, 1) := by decide +kernel
theorem dX8_spread_86 : decode cX8_spread 86 = .ok (.getfield 41, 3) := by decide +kernel
theorem dX8_spread_89 : decode cX8_spread 89 = .ok (.isub, 1) := by decide +kernel
theorem dX8_spread_90 : decode cX8_spread 90 = .ok (.aload_n 0, 1) := by decide +kernel
theorem dX8_spread_91 : decode cX8_spread 91 = .ok (.getfield 50, 3) := by decide +kernel
theorem dX8_spread_94 : decode cX8_spread 94 = .ok (.iload 5, 2) := by decide +kernel
theorem dX8_spread_96 : decode cX8_spread 96 = .ok (.invokevirtual 181, 3) := by decide +kernel
theorem dX8_spread_99 : decode cX8_spread 99 = .ok (.istore 8, 2) := by decide +kernel
theorem dX8_spread_101 : decode cX8_spread 101 = .ok (.iload 6, 2) := by decide +kernel
theorem dX8_spread_103 : decode cX8_spread 103 = .ok (.aload_n 0, 1) := by decide +kernel
theorem dX8_spread_104 : decode cX8_spread 104 = .ok (.getfield 34, 3) := by decide +kernel
theorem dX8_spread_107 : decode cX8_spread 107 = .ok (.if_icmp .ne 7, 3) := by decide +kernel
theorem dX8_spread_110 : decode cX8_spread 110 = .ok (.lconst 0, 1) := by decide +kernel
theorem dX8_spread_111 : decode cX8_spread 111 = .ok (.goto 19, 3) := by decide +kernel
theorem dX8_spread_114 : decode cX8_spread 114 = .ok (.aload_n 0, 1) := by decide +kernel
theorem dX8_spread_115 : decode cX8_spread 115 = .ok (.iload 6, 2) := by decide +kernel
theorem dX8_spread_117 : decode cX8_spread 117 = .ok (.aload_n 0, 1) := by decide +kernel
theorem dX8_spread_118 : decode cX8_spread 118 = .ok (.getfield 44, 3) := by decide +kernel
theorem dX8_spread_121 : decode cX8_spread 121 = .ok (.iconst 1, 1) := by decide +kernel
theorem dX8_spread_122 : decode cX8_spread 122 = .ok (.iadd, 1) := by decide +kernel
theorem dX8_spread_123 : decode cX8_spread 123 = .ok (.aload_n 0, 1) := by decide +kernel
theorem dX8_spread_124 : decode cX8_spread 124 = .ok (.getfield 47, 3) := by decide +kernel
theorem dX8_spread_127 : decode cX8_spread 127 = .ok (.invokevirtual 100, 3) := by decide +kernel
theorem dX8_spread_130 : decode cX8_spread 130 = .ok (.lstore 9, 2) := by decide +kernel
theorem dX8_spread_132 : decode cX8_spread 132 = .ok (.aload_n 0, 1) := by decide +kernel
theorem dX8_spread_133 : decode cX8_spread 133 = .ok (.aload_n 0, 1) := by decide +kernel
theorem dX8_spread_134 : decode cX8_spread 134 = .ok (.getfield 59, 3) := by decide +kernel
theorem dX8_spread_137 : decode cX8_spread 137 = .ok (.lload_n 3, 1) := by decide +kernel
theorem dX8_spread_138 : decode cX8_spread 138 = .ok (.iload 8, 2) := by decide +kernel
theorem dX8_spread_140 : decode cX8_spread 140 = .ok (.invokestatic 112, 3) := by decide +kernel
theorem dX8_spread_143 : decode cX8_spread 143 = .ok (.ladd, 1) := by decide +kernel
theorem dX8_spread_144 : decode cX8_spread 144 = .ok (.lload 9, 2) := by decide +kernel
theorem dX8_spread_146 : decode cX8_spread 146 = .ok (.ladd, 1) := by decide +kernel
theorem dX8_spread_147 : decode cX8_spread 147 = .ok (.invokestatic 185, 3) := by decide +kernel
theorem dX8_spread_150 : decode cX8_spread 150 = .ok (.putfield 59, 3) := by decide +kernel
theorem dX8_spread_153 : decode cX8_spread 153 = .ok (.iload 6, 2) := by decide +kernel
theorem dX8_spread_155 : decode cX8_spread 155 = .ok (.aload_n 0, 1) := by decide +kernel
theorem dX8_spread_156 : decode cX8_spread 156 = .ok (.getfield 34, 3) := by decide +kernel
theorem dX8_spread_159 : decode cX8_spread 159 = .ok (.if_icmp .ne 4, 3) := by decide +kernel
theorem dX8_spread_162 : decode cX8_spread 162 = .ok (.return_, 1) := by decide +kernel
theorem dX8_spread_163 : decode cX8_spread 163 = .ok (.iconst 0, 1) := by decide +kernel
theorem dX8_spread_164 : decode cX8_spread 164 = .ok (.istore 8, 2) := by decide +kernel
theorem dX8_spread_166 : decode cX8_spread 166 = .ok (.iload 8, 2) := by decide +kernel
theorem dX8_spread_168 : decode cX8_spread 168 = .ok (.aload_n 0, 1) := by decide +kernel
theorem dX8_spread_169 : decode cX8_spread 169 = .ok (.getfield 21, 3) := by decide +kernel
theorem dX8_spread_172 : decode cX8_spread 172 = .ok (.iload 6, 2) := by decide +kernel
theorem dX8_spread_174 : decode cX8_spread 174 = .ok (.iaload, 1) := by decide +kernel
theorem dX8_spread_175 : decode cX8_spread 175 = .ok (.if_icmp .ge 84, 3) := by decide +kernel
theorem dX8_spread_178 : decode cX8_spread 178 = .ok (.aload_n 0, 1) := by decide +kernel
theorem dX8_spread_179 : decode cX8_spread 179 = .ok (.getfield 18, 3) := by decide +kernel
theorem dX8_spread_182 : decode cX8_spread 182 = .ok (.iload 6, 2) := by decide +kernel
theorem dX8_spread_184 : decode cX8_spread 184 = .ok (.iconst 3, 1) := by decide +kernel
theorem dX8_spread_185 : decode cX8_spread 185 = .ok (.imul, 1) := by decide +kernel
theorem dX8_spread_186 : decode cX8_spread 186 = .ok (.iload 8, 2) := by decide +kernel
theorem dX8_spread_188 : decode cX8_spread 188 = .ok (.iadd, 1) := by decide +kernel
theorem dX8_spread_189 : decode cX8_spread 189 = .ok (.iaload, 1) := by decide +kernel
theorem dX8_spread_190 : decode cX8_spread 190 = .ok (.istore 9, 2) := by decide +kernel
theorem dX8_spread_192 : decode cX8_spread 192 = .ok (.iload 5, 2) := by decide +kernel
theorem dX8_spread_194 : decode cX8_spread 194 = .ok (.ifCond .ne 20, 3) := by decide +kernel
theorem dX8_spread_197 : decode cX8_spread 197 = .ok (.iload 9, 2) := by decide +kernel
theorem dX8_spread_199 : decode cX8_spread 199 = .ok (.aload_n 0, 1) := by decide +kernel
theorem dX8_spread_200 : decode cX8_spread 200 = .ok (.getfield 72, 3) := by decide +kernel
theorem dX8_spread_203 : decode cX8_spread 203 = .ok (.getfield 156, 3) := by decide +kernel
theorem dX8_spread_206 : decode cX8_spread 206 = .ok (.aload_n 0, 1) := by decide +kernel
theorem dX8_spread_207 : decode cX8_spread 207 = .ok (.getfield 44, 3) := by decide +kernel
theorem dX8_spread_210 : decode cX8_spread 210 = .ok (.iaload, 1) := by decide +kernel
theorem dX8_spread_211 : decode cX8_spread 211 = .ok (.if_icmp .ne 7, 3) := by decide +kernel
theorem dX8_spread_214 : decode cX8_spread 214 = .ok (.iconst 1, 1) := by decide +kernel
theorem dX8_spread_215 : decode cX8_spread 215 = .ok (.goto 4, 3) := by decide +kernel
theorem dX8_spread_218 : decode cX8_spread 218 = .ok (.iconst 0, 1) := by decide +kernel
theorem dX8_spread_219 : decode cX8_spread 219 = .ok (.istore 10, 2) := by decide +kernel
theorem dX8_spread_221 : decode cX8_spread 221 = .ok (.aload_n 0, 1) := by decide +kernel
theorem dX8_spread_222 : decode cX8_spread 222 = .ok (.iload 6, 2) := by decide +kernel
theorem dX8_spread_224 : decode cX8_spread 224 = .ok (.iload_n 2, 1) := by decide +kernel
theorem dX8_spread_225 : decode cX8_spread 225 = .ok (.aload_n 0, 1) := by decide +kernel
theorem dX8_spread_226 : decode cX8_spread 226 = .ok (.getfield 38, 3) := by decide +kernel
theorem dX8_spread_229 : decode cX8_spread 229 = .ok (.iadd, 1) := by decide +kernel
theorem dX8_spread_230 : decode cX8_spread 230 = .ok (.aload_n 0, 1) := by decide +kernel
theorem dX8_spread_231 : decode cX8_spread 231 = .ok (.getfield 9, 3) := by decide +kernel
theorem dX8_spread_234 : decode cX8_spread 234 = .ok (.iload 9, 2) := by decide +kernel
theorem dX8_spread_236 : decode cX8_spread 236 = .ok (.iaload, 1) := by decide +kernel
theorem dX8_spread_237 : decode cX8_spread 237 = .ok (.iadd, 1) := by decide +kernel
theorem dX8_spread_238 : decode cX8_spread 238 = .ok (.lload_n 3, 1) := by decide +kernel
theorem dX8_spread_239 : decode cX8_spread 239 = .ok (.aload_n 0, 1) := by decide +kernel
theorem dX8_spread_240 : decode cX8_spread 240 = .ok (.iload 6, 2) := by decide +kernel
theorem dX8_spread_242 : decode cX8_spread 242 = .ok (.iload 9, 2) := by decide +kernel
theorem dX8_spread_244 : decode cX8_spread 244 = .ok (.invokevirtual 159, 3) := by decide +kernel
theorem dX8_spread_247 : decode cX8_spread 247 = .ok (.ladd, 1) := by decide +kernel
theorem dX8_spread_248 : decode cX8_spread 248 = .ok (.iload 10, 2) := by decide +kernel
theorem dX8_spread_250 : decode cX8_spread 250 = .ok (.invokevirtual 163, 3) := by decide +kernel
theorem dX8_spread_253 : decode cX8_spread 253 = .ok (.iinc 8 1, 3) := by decide +kernel
theorem dX8_spread_256 : decode cX8_spread 256 = .ok (.goto (-90), 3) := by decide +kernel
theorem dX8_spread_259 : decode cX8_spread 259 = .ok (.return_, 1) := by decide +kernel
theorem dX8_waysBehind_0 : decode cX8_waysBehind 0 = .ok (.iload_n 1, 1) := by decide +kernel
theorem dX8_waysBehind_1 : decode cX8_waysBehind 1 = .ok (.aload_n 0, 1) := by decide +kernel
theorem dX8_waysBehind_2 : decode cX8_waysBehind 2 = .ok (.getfield 34, 3) := by decide +kernel
theorem dX8_waysBehind_5 : decode cX8_waysBehind 5 = .ok (.if_icmp .ne 5, 3) := by decide +kernel
theorem dX8_waysBehind_8 : decode cX8_waysBehind 8 = .ok (.iconst 1, 1) := by decide +kernel
theorem dX8_waysBehind_9 : decode cX8_waysBehind 9 = .ok (.ireturn, 1) := by decide +kernel
theorem dX8_waysBehind_10 : decode cX8_waysBehind 10 = .ok (.aload_n 0, 1) := by decide +kernel
theorem dX8_waysBehind_11 : decode cX8_waysBehind 11 = .ok (.getfield 44, 3) := by decide +kernel
theorem dX8_waysBehind_14 : decode cX8_waysBehind 14 = .ok (.iconst 1, 1) := by decide +kernel
theorem dX8_waysBehind_15 : decode cX8_waysBehind 15 = .ok (.iadd, 1) := by decide +kernel
theorem dX8_waysBehind_16 : decode cX8_waysBehind 16 = .ok (.aload_n 0, 1) := by decide +kernel
theorem dX8_waysBehind_17 : decode cX8_waysBehind 17 = .ok (.getfield 72, 3) := by decide +kernel
theorem dX8_waysBehind_20 : decode cX8_waysBehind 20 = .ok (.getfield 93, 3) := by decide +kernel
theorem dX8_waysBehind_23 : decode cX8_waysBehind 23 = .ok (.if_icmp .ge 21, 3) := by decide +kernel
theorem dX8_waysBehind_26 : decode cX8_waysBehind 26 = .ok (.aload_n 0, 1) := by decide +kernel
theorem dX8_waysBehind_27 : decode cX8_waysBehind 27 = .ok (.getfield 31, 3) := by decide +kernel
theorem dX8_waysBehind_30 : decode cX8_waysBehind 30 = .ok (.iload_n 1, 1) := by decide +kernel
theorem dX8_waysBehind_31 : decode cX8_waysBehind 31 = .ok (.iconst 4, 1) := by decide +kernel
theorem dX8_waysBehind_32 : decode cX8_waysBehind 32 = .ok (.imul, 1) := by decide +kernel
theorem dX8_waysBehind_33 : decode cX8_waysBehind 33 = .ok (.aload_n 0, 1) := by decide +kernel
theorem dX8_waysBehind_34 : decode cX8_waysBehind 34 = .ok (.getfield 44, 3) := by decide +kernel
theorem dX8_waysBehind_37 : decode cX8_waysBehind 37 = .ok (.iadd, 1) := by decide +kernel
theorem dX8_waysBehind_38 : decode cX8_waysBehind 38 = .ok (.iconst 1, 1) := by decide +kernel
theorem dX8_waysBehind_39 : decode cX8_waysBehind 39 = .ok (.iadd, 1) := by decide +kernel
theorem dX8_waysBehind_40 : decode cX8_waysBehind 40 = .ok (.iaload, 1) := by decide +kernel
theorem dX8_waysBehind_41 : decode cX8_waysBehind 41 = .ok (.goto 4, 3) := by decide +kernel
theorem dX8_waysBehind_44 : decode cX8_waysBehind 44 = .ok (.iconst 0, 1) := by decide +kernel
theorem dX8_waysBehind_45 : decode cX8_waysBehind 45 = .ok (.ireturn, 1) := by decide +kernel
theorem dX8_leastTail_0 : decode cX8_leastTail 0 = .ok (.ldc2_w 57, 3) := by decide +kernel
theorem dX8_leastTail_3 : decode cX8_leastTail 3 = .ok (.lstore 4, 2) := by decide +kernel
theorem dX8_leastTail_5 : decode cX8_leastTail 5 = .ok (.iconst 0, 1) := by decide +kernel
theorem dX8_leastTail_6 : decode cX8_leastTail 6 = .ok (.istore 6, 2) := by decide +kernel
theorem dX8_leastTail_8 : decode cX8_leastTail 8 = .ok (.iload 6, 2) := by decide +kernel
theorem dX8_leastTail_10 : decode cX8_leastTail 10 = .ok (.aload_n 0, 1) := by decide +kernel
theorem dX8_leastTail_11 : decode cX8_leastTail 11 = .ok (.getfield 21, 3) := by decide +kernel
theorem dX8_leastTail_14 : decode cX8_leastTail 14 = .ok (.iload_n 1, 1) := by decide +kernel
theorem dX8_leastTail_15 : decode cX8_leastTail 15 = .ok (.iaload, 1) := by decide +kernel
theorem dX8_leastTail_16 : decode cX8_leastTail 16 = .ok (.if_icmp .ge 71, 3) := by decide +kernel
theorem dX8_leastTail_19 : decode cX8_leastTail 19 = .ok (.aload_n 0, 1) := by decide +kernel
theorem dX8_leastTail_20 : decode cX8_leastTail 20 = .ok (.getfield 18, 3) := by decide +kernel
theorem dX8_leastTail_23 : decode cX8_leastTail 23 = .ok (.iload_n 1, 1) := by decide +kernel
theorem dX8_leastTail_24 : decode cX8_leastTail 24 = .ok (.iconst 3, 1) := by decide +kernel
theorem dX8_leastTail_25 : decode cX8_leastTail 25 = .ok (.imul, 1) := by decide +kernel
theorem dX8_leastTail_26 : decode cX8_leastTail 26 = .ok (.iload 6, 2) := by decide +kernel
theorem dX8_leastTail_28 : decode cX8_leastTail 28 = .ok (.iadd, 1) := by decide +kernel
theorem dX8_leastTail_29 : decode cX8_leastTail 29 = .ok (.iaload, 1) := by decide +kernel
theorem dX8_leastTail_30 : decode cX8_leastTail 30 = .ok (.istore 7, 2) := by decide +kernel
theorem dX8_leastTail_32 : decode cX8_leastTail 32 = .ok (.iload_n 3, 1) := by decide +kernel
theorem dX8_leastTail_33 : decode cX8_leastTail 33 = .ok (.iconst (-1), 1) := by decide +kernel
theorem dX8_leastTail_34 : decode cX8_leastTail 34 = .ok (.if_icmp .eq 23, 3) := by decide +kernel
theorem dX8_leastTail_37 : decode cX8_leastTail 37 = .ok (.aload_n 0, 1) := by decide +kernel
theorem dX8_leastTail_38 : decode cX8_leastTail 38 = .ok (.getfield 72, 3) := by decide +kernel
theorem dX8_leastTail_41 : decode cX8_leastTail 41 = .ok (.getfield 123, 3) := by decide +kernel
theorem dX8_leastTail_44 : decode cX8_leastTail 44 = .ok (.iload_n 3, 1) := by decide +kernel
theorem dX8_leastTail_45 : decode cX8_leastTail 45 = .ok (.iload 7, 2) := by decide +kernel
theorem dX8_leastTail_47 : decode cX8_leastTail 47 = .ok (.invokevirtual 191, 3) := by decide +kernel
theorem dX8_leastTail_50 : decode cX8_leastTail 50 = .ok (.ifCond .eq 7, 3) := by decide +kernel
theorem dX8_leastTail_53 : decode cX8_leastTail 53 = .ok (.iconst 1, 1) := by decide +kernel
theorem dX8_leastTail_54 : decode cX8_leastTail 54 = .ok (.goto 4, 3) := by decide +kernel
theorem dX8_leastTail_57 : decode cX8_leastTail 57 = .ok (.iconst 0, 1) := by decide +kernel
theorem dX8_leastTail_58 : decode cX8_leastTail 58 = .ok (.istore 8, 2) := by decide +kernel
theorem dX8_leastTail_60 : decode cX8_leastTail 60 = .ok (.lload 4, 2) := by decide +kernel
theorem dX8_leastTail_62 : decode cX8_leastTail 62 = .ok (.aload_n 0, 1) := by decide +kernel
theorem dX8_leastTail_63 : decode cX8_leastTail 63 = .ok (.getfield 27, 3) := by decide +kernel
theorem dX8_leastTail_66 : decode cX8_leastTail 66 = .ok (.iload_n 1, 1) := by decide +kernel
theorem dX8_leastTail_67 : decode cX8_leastTail 67 = .ok (.iload_n 2, 1) := by decide +kernel
theorem dX8_leastTail_68 : decode cX8_leastTail 68 = .ok (.iload 6, 2) := by decide +kernel
theorem dX8_leastTail_70 : decode cX8_leastTail 70 = .ok (.iload 8, 2) := by decide +kernel
theorem dX8_leastTail_72 : decode cX8_leastTail 72 = .ok (.invokestatic 167, 3) := by decide +kernel
theorem dX8_leastTail_75 : decode cX8_leastTail 75 = .ok (.laload, 1) := by decide +kernel
theorem dX8_leastTail_76 : decode cX8_leastTail 76 = .ok (.invokestatic 185, 3) := by decide +kernel
theorem dX8_leastTail_79 : decode cX8_leastTail 79 = .ok (.lstore 4, 2) := by decide +kernel
theorem dX8_leastTail_81 : decode cX8_leastTail 81 = .ok (.iinc 6 1, 3) := by decide +kernel
theorem dX8_leastTail_84 : decode cX8_leastTail 84 = .ok (.goto (-76), 3) := by decide +kernel
theorem dX8_leastTail_87 : decode cX8_leastTail 87 = .ok (.lload 4, 2) := by decide +kernel
theorem dX8_leastTail_89 : decode cX8_leastTail 89 = .ok (.lreturn, 1) := by decide +kernel
theorem dX8_seekTruest_0 : decode cX8_seekTruest 0 = .ok (.iload_n 1, 1) := by decide +kernel
theorem dX8_seekTruest_1 : decode cX8_seekTruest 1 = .ok (.aload_n 0, 1) := by decide +kernel
theorem dX8_seekTruest_2 : decode cX8_seekTruest 2 = .ok (.getfield 34, 3) := by decide +kernel
theorem dX8_seekTruest_5 : decode cX8_seekTruest 5 = .ok (.if_icmp .lt 24, 3) := by decide +kernel
theorem dX8_seekTruest_8 : decode cX8_seekTruest 8 = .ok (.iload_n 2, 1) := by decide +kernel
theorem dX8_seekTruest_9 : decode cX8_seekTruest 9 = .ok (.aload_n 0, 1) := by decide +kernel
theorem dX8_seekTruest_10 : decode cX8_seekTruest 10 = .ok (.getfield 66, 3) := by decide +kernel
theorem dX8_seekTruest_13 : decode cX8_seekTruest 13 = .ok (.if_icmp .gt 4, 3) := by decide +kernel
theorem dX8_seekTruest_16 : decode cX8_seekTruest 16 = .ok (.return_, 1) := by decide +kernel
theorem dX8_seekTruest_17 : decode cX8_seekTruest 17 = .ok (.aload_n 0, 1) := by decide +kernel
theorem dX8_seekTruest_18 : decode cX8_seekTruest 18 = .ok (.iload_n 2, 1) := by decide +kernel
theorem dX8_seekTruest_19 : decode cX8_seekTruest 19 = .ok (.putfield 66, 3) := by decide +kernel
theorem dX8_seekTruest_22 : decode cX8_seekTruest 22 = .ok (.aload_n 0, 1) := by decide +kernel
theorem dX8_seekTruest_23 : decode cX8_seekTruest 23 = .ok (.lload 5, 2) := by decide +kernel
theorem dX8_seekTruest_25 : decode cX8_seekTruest 25 = .ok (.putfield 69, 3) := by decide +kernel
theorem dX8_seekTruest_28 : decode cX8_seekTruest 28 = .ok (.return_, 1) := by decide +kernel
theorem dX8_seekTruest_29 : decode cX8_seekTruest 29 = .ok (.iconst 0, 1) := by decide +kernel
theorem dX8_seekTruest_30 : decode cX8_seekTruest 30 = .ok (.istore 7, 2) := by decide +kernel
theorem dX8_seekTruest_32 : decode cX8_seekTruest 32 = .ok (.iload 7, 2) := by decide +kernel
theorem dX8_seekTruest_34 : decode cX8_seekTruest 34 = .ok (.aload_n 0, 1) := by decide +kernel
theorem dX8_seekTruest_35 : decode cX8_seekTruest 35 = .ok (.getfield 21, 3) := by decide +kernel
theorem dX8_seekTruest_38 : decode cX8_seekTruest 38 = .ok (.iload_n 1, 1) := by decide +kernel
theorem dX8_seekTruest_39 : decode cX8_seekTruest 39 = .ok (.iaload, 1) := by decide +kernel
theorem dX8_seekTruest_40 : decode cX8_seekTruest 40 = .ok (.if_icmp .ge 168, 3) := by decide +kernel
theorem dX8_seekTruest_43 : decode cX8_seekTruest 43 = .ok (.aload_n 0, 1) := by decide +kernel
theorem dX8_seekTruest_44 : decode cX8_seekTruest 44 = .ok (.getfield 18, 3) := by decide +kernel
theorem dX8_seekTruest_47 : decode cX8_seekTruest 47 = .ok (.iload_n 1, 1) := by decide +kernel
theorem dX8_seekTruest_48 : decode cX8_seekTruest 48 = .ok (.iconst 3, 1) := by decide +kernel
theorem dX8_seekTruest_49 : decode cX8_seekTruest 49 = .ok (.imul, 1) := by decide +kernel
theorem dX8_seekTruest_50 : decode cX8_seekTruest 50 = .ok (.iload 7, 2) := by decide +kernel
theorem dX8_seekTruest_52 : decode cX8_seekTruest 52 = .ok (.iadd, 1) := by decide +kernel
theorem dX8_seekTruest_53 : decode cX8_seekTruest 53 = .ok (.iaload, 1) := by decide +kernel
theorem dX8_seekTruest_54 : decode cX8_seekTruest 54 = .ok (.istore 8, 2) := by decide +kernel
theorem dX8_seekTruest_56 : decode cX8_seekTruest 56 = .ok (.iload_n 2, 1) := by decide +kernel
theorem dX8_seekTruest_57 : decode cX8_seekTruest 57 = .ok (.aload_n 0, 1) := by decide +kernel
theorem dX8_seekTruest_58 : decode cX8_seekTruest 58 = .ok (.getfield 72, 3) := by decide +kernel
theorem dX8_seekTruest_61 : decode cX8_seekTruest 61 = .ok (.getfield 123, 3) := by decide +kernel
theorem dX8_seekTruest_64 : decode cX8_seekTruest 64 = .ok (.getfield 194, 3) := by decide +kernel
theorem dX8_seekTruest_67 : decode cX8_seekTruest 67 = .ok (.iload 8, 2) := by decide +kernel
theorem dX8_seekTruest_69 : decode cX8_seekTruest 69 = .ok (.iaload, 1) := by decide +kernel
theorem dX8_seekTruest_70 : decode cX8_seekTruest 70 = .ok (.imul, 1) := by decide +kernel
theorem dX8_seekTruest_71 : decode cX8_seekTruest 71 = .ok (.istore 9, 2) := by decide +kernel
theorem dX8_seekTruest_73 : decode cX8_seekTruest 73 = .ok (.lload 5, 2) := by decide +kernel
theorem dX8_seekTruest_75 : decode cX8_seekTruest 75 = .ok (.iload_n 1, 1) := by decide +kernel
theorem dX8_seekTruest_76 : decode cX8_seekTruest 76 = .ok (.iload 8, 2) := by decide +kernel
theorem dX8_seekTruest_78 : decode cX8_seekTruest 78 = .ok (.invokestatic 171, 3) := by decide +kernel
theorem dX8_seekTruest_81 : decode cX8_seekTruest 81 = .ok (.ladd, 1) := by decide +kernel
theorem dX8_seekTruest_82 : decode cX8_seekTruest 82 = .ok (.lstore 10, 2) := by decide +kernel
theorem dX8_seekTruest_84 : decode cX8_seekTruest 84 = .ok (.iload 4, 2) := by decide +kernel
theorem dX8_seekTruest_86 : decode cX8_seekTruest 86 = .ok (.aload_n 0, 1) := by decide +kernel
theorem dX8_seekTruest_87 : decode cX8_seekTruest 87 = .ok (.getfield 38, 3) := by decide +kernel
theorem dX8_seekTruest_90 : decode cX8_seekTruest 90 = .ok (.iadd, 1) := by decide +kernel
theorem dX8_seekTruest_91 : decode cX8_seekTruest 91 = .ok (.aload_n 0, 1) := by decide +kernel
theorem dX8_seekTruest_92 : decode cX8_seekTruest 92 = .ok (.getfield 9, 3) := by decide +kernel
theorem dX8_seekTruest_95 : decode cX8_seekTruest 95 = .ok (.iload 8, 2) := by decide +kernel
theorem dX8_seekTruest_97 : decode cX8_seekTruest 97 = .ok (.iaload, 1) := by decide +kernel
theorem dX8_seekTruest_98 : decode cX8_seekTruest 98 = .ok (.iadd, 1) := by decide +kernel
theorem dX8_seekTruest_99 : decode cX8_seekTruest 99 = .ok (.istore 12, 2) := by decide +kernel
theorem dX8_seekTruest_101 : decode cX8_seekTruest 101 = .ok (.iload_n 1, 1) := by decide +kernel
theorem dX8_seekTruest_102 : decode cX8_seekTruest 102 = .ok (.ifCond .le 32, 3) := by decide +kernel
theorem dX8_seekTruest_105 : decode cX8_seekTruest 105 = .ok (.iload 12, 2) := by decide +kernel
theorem dX8_seekTruest_107 : decode cX8_seekTruest 107 = .ok (.aload_n 0, 1) := by decide +kernel
theorem dX8_seekTruest_108 : decode cX8_seekTruest 108 = .ok (.getfield 72, 3) := by decide +kernel
theorem dX8_seekTruest_111 : decode cX8_seekTruest 111 = .ok (.getfield 174, 3) := by decide +kernel
theorem dX8_seekTruest_114 : decode cX8_seekTruest 114 = .ok (.if_icmp .gt 20, 3) := by decide +kernel
theorem dX8_seekTruest_117 : decode cX8_seekTruest 117 = .ok (.aload_n 0, 1) := by decide +kernel
theorem dX8_seekTruest_118 : decode cX8_seekTruest 118 = .ok (.iload_n 1, 1) := by decide +kernel
theorem dX8_seekTruest_119 : decode cX8_seekTruest 119 = .ok (.iconst 1, 1) := by decide +kernel
theorem dX8_seekTruest_120 : decode cX8_seekTruest 120 = .ok (.iadd, 1) := by decide +kernel
theorem dX8_seekTruest_121 : decode cX8_seekTruest 121 = .ok (.iload 9, 2) := by decide +kernel
theorem dX8_seekTruest_123 : decode cX8_seekTruest 123 = .ok (.iload_n 3, 1) := by decide +kernel
theorem dX8_seekTruest_124 : decode cX8_seekTruest 124 = .ok (.iload 12, 2) := by decide +kernel
theorem dX8_seekTruest_126 : decode cX8_seekTruest 126 = .ok (.lload 10, 2) := by decide +kernel
theorem dX8_seekTruest_128 : decode cX8_seekTruest 128 = .ok (.invokevirtual 104, 3) := by decide +kernel
theorem dX8_seekTruest_131 : decode cX8_seekTruest 131 = .ok (.goto 71, 3) := by decide +kernel
theorem dX8_seekTruest_134 : decode cX8_seekTruest 134 = .ok (.aload_n 0, 1) := by decide +kernel
theorem dX8_seekTruest_135 : decode cX8_seekTruest 135 = .ok (.getfield 9, 3) := by decide +kernel
theorem dX8_seekTruest_138 : decode cX8_seekTruest 138 = .ok (.iload 8, 2) := by decide +kernel
theorem dX8_seekTruest_140 : decode cX8_seekTruest 140 = .ok (.iaload, 1) := by decide +kernel
theorem dX8_seekTruest_141 : decode cX8_seekTruest 141 = .ok (.aload_n 0, 1) := by decide +kernel
theorem dX8_seekTruest_142 : decode cX8_seekTruest 142 = .ok (.getfield 72, 3) := by decide +kernel
theorem dX8_seekTruest_145 : decode cX8_seekTruest 145 = .ok (.getfield 174, 3) := by decide +kernel
theorem dX8_seekTruest_148 : decode cX8_seekTruest 148 = .ok (.if_icmp .gt 54, 3) := by decide +kernel
theorem dX8_seekTruest_151 : decode cX8_seekTruest 151 = .ok (.iload_n 3, 1) := by decide +kernel
theorem dX8_seekTruest_152 : decode cX8_seekTruest 152 = .ok (.iconst 1, 1) := by decide +kernel
theorem dX8_seekTruest_153 : decode cX8_seekTruest 153 = .ok (.iadd, 1) := by decide +kernel
theorem dX8_seekTruest_154 : decode cX8_seekTruest 154 = .ok (.aload_n 0, 1) := by decide +kernel
theorem dX8_seekTruest_155 : decode cX8_seekTruest 155 = .ok (.getfield 72, 3) := by decide +kernel
theorem dX8_seekTruest_158 : decode cX8_seekTruest 158 = .ok (.getfield 93, 3) := by decide +kernel
theorem dX8_seekTruest_161 : decode cX8_seekTruest 161 = .ok (.if_icmp .ge 41, 3) := by decide +kernel
theorem dX8_seekTruest_164 : decode cX8_seekTruest 164 = .ok (.iload_n 1, 1) := by decide +kernel
theorem dX8_seekTruest_165 : decode cX8_seekTruest 165 = .ok (.ifCond .ne 7, 3) := by decide +kernel
theorem dX8_seekTruest_168 : decode cX8_seekTruest 168 = .ok (.lconst 0, 1) := by decide +kernel
theorem dX8_seekTruest_169 : decode cX8_seekTruest 169 = .ok (.goto 7, 3) := by decide +kernel
theorem dX8_seekTruest_172 : decode cX8_seekTruest 172 = .ok (.iload_n 1, 1) := by decide +kernel
theorem dX8_seekTruest_173 : decode cX8_seekTruest 173 = .ok (.invokestatic 153, 3) := by decide +kernel
theorem dX8_seekTruest_176 : decode cX8_seekTruest 176 = .ok (.lstore 13, 2) := by decide +kernel
theorem dX8_seekTruest_178 : decode cX8_seekTruest 178 = .ok (.aload_n 0, 1) := by decide +kernel
theorem dX8_seekTruest_179 : decode cX8_seekTruest 179 = .ok (.iload_n 1, 1) := by decide +kernel
theorem dX8_seekTruest_180 : decode cX8_seekTruest 180 = .ok (.iconst 1, 1) := by decide +kernel
theorem dX8_seekTruest_181 : decode cX8_seekTruest 181 = .ok (.iadd, 1) := by decide +kernel
theorem dX8_seekTruest_182 : decode cX8_seekTruest 182 = .ok (.iload 9, 2) := by decide +kernel
theorem dX8_seekTruest_184 : decode cX8_seekTruest 184 = .ok (.iload_n 3, 1) := by decide +kernel
theorem dX8_seekTruest_185 : decode cX8_seekTruest 185 = .ok (.iconst 1, 1) := by decide +kernel
theorem dX8_seekTruest_186 : decode cX8_seekTruest 186 = .ok (.iadd, 1) := by decide +kernel
theorem dX8_seekTruest_187 : decode cX8_seekTruest 187 = .ok (.aload_n 0, 1) := by decide +kernel
theorem dX8_seekTruest_188 : decode cX8_seekTruest 188 = .ok (.getfield 9, 3) := by decide +kernel
theorem dX8_seekTruest_191 : decode cX8_seekTruest 191 = .ok (.iload 8, 2) := by decide +kernel
theorem dX8_seekTruest_193 : decode cX8_seekTruest 193 = .ok (.iaload, 1) := by decide +kernel
theorem dX8_seekTruest_194 : decode cX8_seekTruest 194 = .ok (.lload 10, 2) := by decide +kernel
theorem dX8_seekTruest_196 : decode cX8_seekTruest 196 = .ok (.lload 13, 2) := by decide +kernel
theorem dX8_seekTruest_198 : decode cX8_seekTruest 198 = .ok (.ladd, 1) := by decide +kernel
theorem dX8_seekTruest_199 : decode cX8_seekTruest 199 = .ok (.invokevirtual 104, 3) := by decide +kernel
theorem dX8_seekTruest_202 : decode cX8_seekTruest 202 = .ok (.iinc 7 1, 3) := by decide +kernel
theorem dX8_seekTruest_205 : decode cX8_seekTruest 205 = .ok (.goto (-173), 3) := by decide +kernel
theorem dX8_seekTruest_208 : decode cX8_seekTruest 208 = .ok (.return_, 1) := by decide +kernel
theorem dX8_rowCost_0 : decode cX8_rowCost 0 = .ok (.iconst 0, 1) := by decide +kernel
theorem dX8_rowCost_1 : decode cX8_rowCost 1 = .ok (.istore_n 3, 1) := by decide +kernel
theorem dX8_rowCost_2 : decode cX8_rowCost 2 = .ok (.iconst 0, 1) := by decide +kernel
theorem dX8_rowCost_3 : decode cX8_rowCost 3 = .ok (.istore 4, 2) := by decide +kernel
theorem dX8_rowCost_5 : decode cX8_rowCost 5 = .ok (.iconst 0, 1) := by decide +kernel
theorem dX8_rowCost_6 : decode cX8_rowCost 6 = .ok (.istore 5, 2) := by decide +kernel
theorem dX8_rowCost_8 : decode cX8_rowCost 8 = .ok (.iconst (-1), 1) := by decide +kernel
theorem dX8_rowCost_9 : decode cX8_rowCost 9 = .ok (.istore 6, 2) := by decide +kernel
theorem dX8_rowCost_11 : decode cX8_rowCost 11 = .ok (.iconst 0, 1) := by decide +kernel
theorem dX8_rowCost_12 : decode cX8_rowCost 12 = .ok (.istore 7, 2) := by decide +kernel
theorem dX8_rowCost_14 : decode cX8_rowCost 14 = .ok (.iload 7, 2) := by decide +kernel
theorem dX8_rowCost_16 : decode cX8_rowCost 16 = .ok (.aload_n 0, 1) := by decide +kernel
theorem dX8_rowCost_17 : decode cX8_rowCost 17 = .ok (.getfield 34, 3) := by decide +kernel
theorem dX8_rowCost_20 : decode cX8_rowCost 20 = .ok (.if_icmp .ge 83, 3) := by decide +kernel
theorem dX8_rowCost_23 : decode cX8_rowCost 23 = .ok (.iload_n 3, 1) := by decide +kernel
theorem dX8_rowCost_24 : decode cX8_rowCost 24 = .ok (.aload_n 0, 1) := by decide +kernel
theorem dX8_rowCost_25 : decode cX8_rowCost 25 = .ok (.getfield 15, 3) := by decide +kernel
theorem dX8_rowCost_28 : decode cX8_rowCost 28 = .ok (.lload_n 1, 1) := by decide +kernel
theorem dX8_rowCost_29 : decode cX8_rowCost 29 = .ok (.iload 7, 2) := by decide +kernel
theorem dX8_rowCost_31 : decode cX8_rowCost 31 = .ok (.invokestatic 197, 3) := by decide +kernel
theorem dX8_rowCost_34 : decode cX8_rowCost 34 = .ok (.iaload, 1) := by decide +kernel
theorem dX8_rowCost_35 : decode cX8_rowCost 35 = .ok (.iadd, 1) := by decide +kernel
theorem dX8_rowCost_36 : decode cX8_rowCost 36 = .ok (.istore_n 3, 1) := by decide +kernel
theorem dX8_rowCost_37 : decode cX8_rowCost 37 = .ok (.iload 7, 2) := by decide +kernel
theorem dX8_rowCost_39 : decode cX8_rowCost 39 = .ok (.iconst 1, 1) := by decide +kernel
theorem dX8_rowCost_40 : decode cX8_rowCost 40 = .ok (.iadd, 1) := by decide +kernel
theorem dX8_rowCost_41 : decode cX8_rowCost 41 = .ok (.aload_n 0, 1) := by decide +kernel
theorem dX8_rowCost_42 : decode cX8_rowCost 42 = .ok (.getfield 34, 3) := by decide +kernel
theorem dX8_rowCost_45 : decode cX8_rowCost 45 = .ok (.if_icmp .ge 17, 3) := by decide +kernel
theorem dX8_rowCost_48 : decode cX8_rowCost 48 = .ok (.lload_n 1, 1) := by decide +kernel
theorem dX8_rowCost_49 : decode cX8_rowCost 49 = .ok (.iload 7, 2) := by decide +kernel
theorem dX8_rowCost_51 : decode cX8_rowCost 51 = .ok (.iconst 1, 1) := by decide +kernel
theorem dX8_rowCost_52 : decode cX8_rowCost 52 = .ok (.iadd, 1) := by decide +kernel
theorem dX8_rowCost_53 : decode cX8_rowCost 53 = .ok (.invokestatic 201, 3) := by decide +kernel
theorem dX8_rowCost_56 : decode cX8_rowCost 56 = .ok (.ifCond .ne 6, 3) := by decide +kernel
theorem dX8_rowCost_59 : decode cX8_rowCost 59 = .ok (.goto 38, 3) := by decide +kernel
theorem dX8_rowCost_62 : decode cX8_rowCost 62 = .ok (.iload_n 3, 1) := by decide +kernel
theorem dX8_rowCost_63 : decode cX8_rowCost 63 = .ok (.aload_n 0, 1) := by decide +kernel
theorem dX8_rowCost_64 : decode cX8_rowCost 64 = .ok (.lload_n 1, 1) := by decide +kernel
theorem dX8_rowCost_65 : decode cX8_rowCost 65 = .ok (.iload 4, 2) := by decide +kernel
theorem dX8_rowCost_67 : decode cX8_rowCost 67 = .ok (.iload 7, 2) := by decide +kernel
theorem dX8_rowCost_69 : decode cX8_rowCost 69 = .ok (.iconst 1, 1) := by decide +kernel
theorem dX8_rowCost_70 : decode cX8_rowCost 70 = .ok (.iadd, 1) := by decide +kernel
theorem dX8_rowCost_71 : decode cX8_rowCost 71 = .ok (.iload 5, 2) := by decide +kernel
theorem dX8_rowCost_73 : decode cX8_rowCost 73 = .ok (.iload 6, 2) := by decide +kernel
theorem dX8_rowCost_75 : decode cX8_rowCost 75 = .ok (.invokevirtual 205, 3) := by decide +kernel
theorem dX8_rowCost_78 : decode cX8_rowCost 78 = .ok (.iadd, 1) := by decide +kernel
theorem dX8_rowCost_79 : decode cX8_rowCost 79 = .ok (.istore_n 3, 1) := by decide +kernel
theorem dX8_rowCost_80 : decode cX8_rowCost 80 = .ok (.lload_n 1, 1) := by decide +kernel
theorem dX8_rowCost_81 : decode cX8_rowCost 81 = .ok (.iload 4, 2) := by decide +kernel
theorem dX8_rowCost_83 : decode cX8_rowCost 83 = .ok (.invokestatic 197, 3) := by decide +kernel
theorem dX8_rowCost_86 : decode cX8_rowCost 86 = .ok (.istore 6, 2) := by decide +kernel
theorem dX8_rowCost_88 : decode cX8_rowCost 88 = .ok (.iload 7, 2) := by decide +kernel
theorem dX8_rowCost_90 : decode cX8_rowCost 90 = .ok (.iconst 1, 1) := by decide +kernel
theorem dX8_rowCost_91 : decode cX8_rowCost 91 = .ok (.iadd, 1) := by decide +kernel
theorem dX8_rowCost_92 : decode cX8_rowCost 92 = .ok (.istore 4, 2) := by decide +kernel
theorem dX8_rowCost_94 : decode cX8_rowCost 94 = .ok (.iinc 5 1, 3) := by decide +kernel
theorem dX8_rowCost_97 : decode cX8_rowCost 97 = .ok (.iinc 7 1, 3) := by decide +kernel
theorem dX8_rowCost_100 : decode cX8_rowCost 100 = .ok (.goto (-86), 3) := by decide +kernel
theorem dX8_rowCost_103 : decode cX8_rowCost 103 = .ok (.iload_n 3, 1) := by decide +kernel
theorem dX8_rowCost_104 : decode cX8_rowCost 104 = .ok (.ireturn, 1) := by decide +kernel
theorem dX8_rowLineCost_0 : decode cX8_rowLineCost 0 = .ok (.iload 4, 2) := by decide +kernel
theorem dX8_rowLineCost_2 : decode cX8_rowLineCost 2 = .ok (.iload_n 3, 1) := by decide +kernel
theorem dX8_rowLineCost_3 : decode cX8_rowLineCost 3 = .ok (.isub, 1) := by decide +kernel
theorem dX8_rowLineCost_4 : decode cX8_rowLineCost 4 = .ok (.iconst 1, 1) := by decide +kernel
theorem dX8_rowLineCost_5 : decode cX8_rowLineCost 5 = .ok (.isub, 1) := by decide +kernel
theorem dX8_rowLineCost_6 : decode cX8_rowLineCost 6 = .ok (.aload_n 0, 1) := by decide +kernel
theorem dX8_rowLineCost_7 : decode cX8_rowLineCost 7 = .ok (.getfield 38, 3) := by decide +kernel
theorem dX8_rowLineCost_10 : decode cX8_rowLineCost 10 = .ok (.imul, 1) := by decide +kernel
theorem dX8_rowLineCost_11 : decode cX8_rowLineCost 11 = .ok (.istore 7, 2) := by decide +kernel
theorem dX8_rowLineCost_13 : decode cX8_rowLineCost 13 = .ok (.iconst 0, 1) := by decide +kernel
theorem dX8_rowLineCost_14 : decode cX8_rowLineCost 14 = .ok (.istore 8, 2) := by decide +kernel
theorem dX8_rowLineCost_16 : decode cX8_rowLineCost 16 = .ok (.iload_n 3, 1) := by decide +kernel
theorem dX8_rowLineCost_17 : decode cX8_rowLineCost 17 = .ok (.istore 9, 2) := by decide +kernel
theorem dX8_rowLineCost_19 : decode cX8_rowLineCost 19 = .ok (.iload 9, 2) := by decide +kernel
theorem dX8_rowLineCost_21 : decode cX8_rowLineCost 21 = .ok (.iload 4, 2) := by decide +kernel
theorem dX8_rowLineCost_23 : decode cX8_rowLineCost 23 = .ok (.if_icmp .ge 56, 3) := by decide +kernel
theorem dX8_rowLineCost_26 : decode cX8_rowLineCost 26 = .ok (.lload_n 1, 1) := by decide +kernel
theorem dX8_rowLineCost_27 : decode cX8_rowLineCost 27 = .ok (.iload 9, 2) := by decide +kernel
theorem dX8_rowLineCost_29 : decode cX8_rowLineCost 29 = .ok (.invokestatic 197, 3) := by decide +kernel
theorem dX8_rowLineCost_32 : decode cX8_rowLineCost 32 = .ok (.istore 10, 2) := by decide +kernel
theorem dX8_rowLineCost_34 : decode cX8_rowLineCost 34 = .ok (.iload 7, 2) := by decide +kernel
theorem dX8_rowLineCost_36 : decode cX8_rowLineCost 36 = .ok (.aload_n 0, 1) := by decide +kernel
theorem dX8_rowLineCost_37 : decode cX8_rowLineCost 37 = .ok (.getfield 9, 3) := by decide +kernel
theorem dX8_rowLineCost_40 : decode cX8_rowLineCost 40 = .ok (.iload 10, 2) := by decide +kernel
theorem dX8_rowLineCost_42 : decode cX8_rowLineCost 42 = .ok (.iaload, 1) := by decide +kernel
theorem dX8_rowLineCost_43 : decode cX8_rowLineCost 43 = .ok (.iadd, 1) := by decide +kernel
theorem dX8_rowLineCost_44 : decode cX8_rowLineCost 44 = .ok (.istore 7, 2) := by decide +kernel
theorem dX8_rowLineCost_46 : decode cX8_rowLineCost 46 = .ok (.iload 8, 2) := by decide +kernel
theorem dX8_rowLineCost_48 : decode cX8_rowLineCost 48 = .ok (.ifCond .ne 18, 3) := by decide +kernel
theorem dX8_rowLineCost_51 : decode cX8_rowLineCost 51 = .ok (.iload 10, 2) := by decide +kernel
theorem dX8_rowLineCost_53 : decode cX8_rowLineCost 53 = .ok (.aload_n 0, 1) := by decide +kernel
theorem dX8_rowLineCost_54 : decode cX8_rowLineCost 54 = .ok (.getfield 72, 3) := by decide +kernel
theorem dX8_rowLineCost_57 : decode cX8_rowLineCost 57 = .ok (.getfield 156, 3) := by decide +kernel
theorem dX8_rowLineCost_60 : decode cX8_rowLineCost 60 = .ok (.iload 5, 2) := by decide +kernel
theorem dX8_rowLineCost_62 : decode cX8_rowLineCost 62 = .ok (.iaload, 1) := by decide +kernel
theorem dX8_rowLineCost_63 : decode cX8_rowLineCost 63 = .ok (.if_icmp .ne 7, 3) := by decide +kernel
theorem dX8_rowLineCost_66 : decode cX8_rowLineCost 66 = .ok (.iconst 1, 1) := by decide +kernel
theorem dX8_rowLineCost_67 : decode cX8_rowLineCost 67 = .ok (.goto 4, 3) := by decide +kernel
theorem dX8_rowLineCost_70 : decode cX8_rowLineCost 70 = .ok (.iconst 0, 1) := by decide +kernel
theorem dX8_rowLineCost_71 : decode cX8_rowLineCost 71 = .ok (.istore 8, 2) := by decide +kernel
theorem dX8_rowLineCost_73 : decode cX8_rowLineCost 73 = .ok (.iinc 9 1, 3) := by decide +kernel
theorem dX8_rowLineCost_76 : decode cX8_rowLineCost 76 = .ok (.goto (-57), 3) := by decide +kernel
theorem dX8_rowLineCost_79 : decode cX8_rowLineCost 79 = .ok (.iload 6, 2) := by decide +kernel
theorem dX8_rowLineCost_81 : decode cX8_rowLineCost 81 = .ok (.iconst (-1), 1) := by decide +kernel
theorem dX8_rowLineCost_82 : decode cX8_rowLineCost 82 = .ok (.if_icmp .eq 27, 3) := by decide +kernel
theorem dX8_rowLineCost_85 : decode cX8_rowLineCost 85 = .ok (.aload_n 0, 1) := by decide +kernel
theorem dX8_rowLineCost_86 : decode cX8_rowLineCost 86 = .ok (.getfield 72, 3) := by decide +kernel
theorem dX8_rowLineCost_89 : decode cX8_rowLineCost 89 = .ok (.getfield 123, 3) := by decide +kernel
theorem dX8_rowLineCost_92 : decode cX8_rowLineCost 92 = .ok (.iload 6, 2) := by decide +kernel
theorem dX8_rowLineCost_94 : decode cX8_rowLineCost 94 = .ok (.lload_n 1, 1) := by decide +kernel
theorem dX8_rowLineCost_95 : decode cX8_rowLineCost 95 = .ok (.iload_n 3, 1) := by decide +kernel
theorem dX8_rowLineCost_96 : decode cX8_rowLineCost 96 = .ok (.invokestatic 197, 3) := by decide +kernel
theorem dX8_rowLineCost_99 : decode cX8_rowLineCost 99 = .ok (.invokevirtual 191, 3) := by decide +kernel
theorem dX8_rowLineCost_102 : decode cX8_rowLineCost 102 = .ok (.ifCond .eq 7, 3) := by decide +kernel
theorem dX8_rowLineCost_105 : decode cX8_rowLineCost 105 = .ok (.iconst 1, 1) := by decide +kernel
theorem dX8_rowLineCost_106 : decode cX8_rowLineCost 106 = .ok (.goto 4, 3) := by decide +kernel
theorem dX8_rowLineCost_109 : decode cX8_rowLineCost 109 = .ok (.iconst 0, 1) := by decide +kernel
theorem dX8_rowLineCost_110 : decode cX8_rowLineCost 110 = .ok (.istore 9, 2) := by decide +kernel
theorem dX8_rowLineCost_112 : decode cX8_rowLineCost 112 = .ok (.aload_n 0, 1) := by decide +kernel
theorem dX8_rowLineCost_113 : decode cX8_rowLineCost 113 = .ok (.getfield 76, 3) := by decide +kernel
theorem dX8_rowLineCost_116 : decode cX8_rowLineCost 116 = .ok (.iload 5, 2) := by decide +kernel
theorem dX8_rowLineCost_118 : decode cX8_rowLineCost 118 = .ok (.aload_n 0, 1) := by decide +kernel
theorem dX8_rowLineCost_119 : decode cX8_rowLineCost 119 = .ok (.getfield 72, 3) := by decide +kernel
theorem dX8_rowLineCost_122 : decode cX8_rowLineCost 122 = .ok (.getfield 174, 3) := by decide +kernel
theorem dX8_rowLineCost_125 : decode cX8_rowLineCost 125 = .ok (.iload 7, 2) := by decide +kernel
theorem dX8_rowLineCost_127 : decode cX8_rowLineCost 127 = .ok (.isub, 1) := by decide +kernel
theorem dX8_rowLineCost_128 : decode cX8_rowLineCost 128 = .ok (.iload 4, 2) := by decide +kernel
theorem dX8_rowLineCost_130 : decode cX8_rowLineCost 130 = .ok (.iload_n 3, 1) := by decide +kernel
theorem dX8_rowLineCost_131 : decode cX8_rowLineCost 131 = .ok (.isub, 1) := by decide +kernel
theorem dX8_rowLineCost_132 : decode cX8_rowLineCost 132 = .ok (.iload 9, 2) := by decide +kernel
theorem dX8_rowLineCost_134 : decode cX8_rowLineCost 134 = .ok (.iload 8, 2) := by decide +kernel
theorem dX8_rowLineCost_136 : decode cX8_rowLineCost 136 = .ok (.invokevirtual 181, 3) := by decide +kernel
theorem dX8_rowLineCost_139 : decode cX8_rowLineCost 139 = .ok (.ireturn, 1) := by decide +kernel
theorem dX8_narrowestColumn_0 : decode cX8_narrowestColumn 0 = .ok (.aload_n 0, 1) := by decide +kernel
theorem dX8_narrowestColumn_1 : decode cX8_narrowestColumn 1 = .ok (.iload_n 1, 1) := by decide +kernel
theorem dX8_narrowestColumn_2 : decode cX8_narrowestColumn 2 = .ok (.invokevirtual 85, 3) := by decide +kernel
theorem dX8_narrowestColumn_5 : decode cX8_narrowestColumn 5 = .ok (.aload_n 0, 1) := by decide +kernel
theorem dX8_narrowestColumn_6 : decode cX8_narrowestColumn 6 = .ok (.invokevirtual 89, 3) := by decide +kernel
theorem dX8_narrowestColumn_9 : decode cX8_narrowestColumn 9 = .ok (.ifCond .ne 5, 3) := by decide +kernel
theorem dX8_narrowestColumn_12 : decode cX8_narrowestColumn 12 = .ok (.iconst (-1), 1) := by decide +kernel
theorem dX8_narrowestColumn_13 : decode cX8_narrowestColumn 13 = .ok (.ireturn, 1) := by decide +kernel
theorem dX8_narrowestColumn_14 : decode cX8_narrowestColumn 14 = .ok (.aload_n 0, 1) := by decide +kernel
theorem dX8_narrowestColumn_15 : decode cX8_narrowestColumn 15 = .ok (.iconst 0, 1) := by decide +kernel
theorem dX8_narrowestColumn_16 : decode cX8_narrowestColumn 16 = .ok (.invokevirtual 209, 3) := by decide +kernel
theorem dX8_narrowestColumn_19 : decode cX8_narrowestColumn 19 = .ok (.istore_n 2, 1) := by decide +kernel
theorem dX8_narrowestColumn_20 : decode cX8_narrowestColumn 20 = .ok (.iconst 2, 1) := by decide +kernel
theorem dX8_narrowestColumn_21 : decode cX8_narrowestColumn 21 = .ok (.istore_n 3, 1) := by decide +kernel
theorem dX8_narrowestColumn_22 : decode cX8_narrowestColumn 22 = .ok (.iload_n 3, 1) := by decide +kernel
theorem dX8_narrowestColumn_23 : decode cX8_narrowestColumn 23 = .ok (.iconst 1, 1) := by decide +kernel
theorem dX8_narrowestColumn_24 : decode cX8_narrowestColumn 24 = .ok (.aload_n 0, 1) := by decide +kernel
theorem dX8_narrowestColumn_25 : decode cX8_narrowestColumn 25 = .ok (.getfield 34, 3) := by decide +kernel
theorem dX8_narrowestColumn_28 : decode cX8_narrowestColumn 28 = .ok (.ishl, 1) := by decide +kernel
theorem dX8_narrowestColumn_29 : decode cX8_narrowestColumn 29 = .ok (.if_icmp .ge 33, 3) := by decide +kernel
theorem dX8_narrowestColumn_32 : decode cX8_narrowestColumn 32 = .ok (.iload_n 3, 1) := by decide +kernel
theorem dX8_narrowestColumn_33 : decode cX8_narrowestColumn 33 = .ok (.invokestatic 212, 3) := by decide +kernel
theorem dX8_narrowestColumn_36 : decode cX8_narrowestColumn 36 = .ok (.aload_n 0, 1) := by decide +kernel
theorem dX8_narrowestColumn_37 : decode cX8_narrowestColumn 37 = .ok (.getfield 72, 3) := by decide +kernel
theorem dX8_narrowestColumn_40 : decode cX8_narrowestColumn 40 = .ok (.getfield 93, 3) := by decide +kernel
theorem dX8_narrowestColumn_43 : decode cX8_narrowestColumn 43 = .ok (.if_icmp .ge 13, 3) := by decide +kernel
theorem dX8_narrowestColumn_46 : decode cX8_narrowestColumn 46 = .ok (.iload_n 2, 1) := by decide +kernel
theorem dX8_narrowestColumn_47 : decode cX8_narrowestColumn 47 = .ok (.aload_n 0, 1) := by decide +kernel
theorem dX8_narrowestColumn_48 : decode cX8_narrowestColumn 48 = .ok (.iload_n 3, 1) := by decide +kernel
theorem dX8_narrowestColumn_49 : decode cX8_narrowestColumn 49 = .ok (.invokevirtual 209, 3) := by decide +kernel
theorem dX8_narrowestColumn_52 : decode cX8_narrowestColumn 52 = .ok (.invokestatic 217, 3) := by decide +kernel
theorem dX8_narrowestColumn_55 : decode cX8_narrowestColumn 55 = .ok (.istore_n 2, 1) := by decide +kernel
theorem dX8_narrowestColumn_56 : decode cX8_narrowestColumn 56 = .ok (.iinc 3 2, 3) := by decide +kernel
theorem dX8_narrowestColumn_59 : decode cX8_narrowestColumn 59 = .ok (.goto (-37), 3) := by decide +kernel
theorem dX8_narrowestColumn_62 : decode cX8_narrowestColumn 62 = .ok (.iload_n 2, 1) := by decide +kernel
theorem dX8_narrowestColumn_63 : decode cX8_narrowestColumn 63 = .ok (.ireturn, 1) := by decide +kernel
theorem dX8_broadestLine_0 : decode cX8_broadestLine 0 = .ok (.iconst 0, 1) := by decide +kernel
theorem dX8_broadestLine_1 : decode cX8_broadestLine 1 = .ok (.istore_n 2, 1) := by decide +kernel
theorem dX8_broadestLine_2 : decode cX8_broadestLine 2 = .ok (.iconst 0, 1) := by decide +kernel
theorem dX8_broadestLine_3 : decode cX8_broadestLine 3 = .ok (.istore_n 3, 1) := by decide +kernel
theorem dX8_broadestLine_4 : decode cX8_broadestLine 4 = .ok (.iconst 0, 1) := by decide +kernel
theorem dX8_broadestLine_5 : decode cX8_broadestLine 5 = .ok (.istore 4, 2) := by decide +kernel
theorem dX8_broadestLine_7 : decode cX8_broadestLine 7 = .ok (.iload 4, 2) := by decide +kernel
theorem dX8_broadestLine_9 : decode cX8_broadestLine 9 = .ok (.aload_n 0, 1) := by decide +kernel
theorem dX8_broadestLine_10 : decode cX8_broadestLine 10 = .ok (.getfield 34, 3) := by decide +kernel
theorem dX8_broadestLine_13 : decode cX8_broadestLine 13 = .ok (.if_icmp .ge 67, 3) := by decide +kernel
theorem dX8_broadestLine_16 : decode cX8_broadestLine 16 = .ok (.iload 4, 2) := by decide +kernel
theorem dX8_broadestLine_18 : decode cX8_broadestLine 18 = .ok (.ifCond .eq 13, 3) := by decide +kernel
theorem dX8_broadestLine_21 : decode cX8_broadestLine 21 = .ok (.iload_n 1, 1) := by decide +kernel
theorem dX8_broadestLine_22 : decode cX8_broadestLine 22 = .ok (.iload 4, 2) := by decide +kernel
theorem dX8_broadestLine_24 : decode cX8_broadestLine 24 = .ok (.ishr, 1) := by decide +kernel
theorem dX8_broadestLine_25 : decode cX8_broadestLine 25 = .ok (.iconst 1, 1) := by decide +kernel
theorem dX8_broadestLine_26 : decode cX8_broadestLine 26 = .ok (.iand, 1) := by decide +kernel
theorem dX8_broadestLine_27 : decode cX8_broadestLine 27 = .ok (.iconst 1, 1) := by decide +kernel
theorem dX8_broadestLine_28 : decode cX8_broadestLine 28 = .ok (.if_icmp .ne 7, 3) := by decide +kernel
theorem dX8_broadestLine_31 : decode cX8_broadestLine 31 = .ok (.iconst 1, 1) := by decide +kernel
theorem dX8_broadestLine_32 : decode cX8_broadestLine 32 = .ok (.goto 4, 3) := by decide +kernel
theorem dX8_broadestLine_35 : decode cX8_broadestLine 35 = .ok (.iconst 0, 1) := by decide +kernel
theorem dX8_broadestLine_36 : decode cX8_broadestLine 36 = .ok (.istore 5, 2) := by decide +kernel
theorem dX8_broadestLine_38 : decode cX8_broadestLine 38 = .ok (.iload 5, 2) := by decide +kernel
theorem dX8_broadestLine_40 : decode cX8_broadestLine 40 = .ok (.ifCond .eq 13, 3) := by decide +kernel
theorem dX8_broadestLine_43 : decode cX8_broadestLine 43 = .ok (.aload_n 0, 1) := by decide +kernel
theorem dX8_broadestLine_44 : decode cX8_broadestLine 44 = .ok (.getfield 24, 3) := by decide +kernel
theorem dX8_broadestLine_47 : decode cX8_broadestLine 47 = .ok (.iload 4, 2) := by decide +kernel
theorem dX8_broadestLine_49 : decode cX8_broadestLine 49 = .ok (.iaload, 1) := by decide +kernel
theorem dX8_broadestLine_50 : decode cX8_broadestLine 50 = .ok (.goto 17, 3) := by decide +kernel
theorem dX8_broadestLine_53 : decode cX8_broadestLine 53 = .ok (.iload_n 3, 1) := by decide +kernel
theorem dX8_broadestLine_54 : decode cX8_broadestLine 54 = .ok (.aload_n 0, 1) := by decide +kernel
theorem dX8_broadestLine_55 : decode cX8_broadestLine 55 = .ok (.getfield 38, 3) := by decide +kernel
theorem dX8_broadestLine_58 : decode cX8_broadestLine 58 = .ok (.iadd, 1) := by decide +kernel
theorem dX8_broadestLine_59 : decode cX8_broadestLine 59 = .ok (.aload_n 0, 1) := by decide +kernel
theorem dX8_broadestLine_60 : decode cX8_broadestLine 60 = .ok (.getfield 24, 3) := by decide +kernel
theorem dX8_broadestLine_63 : decode cX8_broadestLine 63 = .ok (.iload 4, 2) := by decide +kernel
theorem dX8_broadestLine_65 : decode cX8_broadestLine 65 = .ok (.iaload, 1) := by decide +kernel
theorem dX8_broadestLine_66 : decode cX8_broadestLine 66 = .ok (.iadd, 1) := by decide +kernel
theorem dX8_broadestLine_67 : decode cX8_broadestLine 67 = .ok (.istore_n 3, 1) := by decide +kernel
theorem dX8_broadestLine_68 : decode cX8_broadestLine 68 = .ok (.iload_n 2, 1) := by decide +kernel
theorem dX8_broadestLine_69 : decode cX8_broadestLine 69 = .ok (.iload_n 3, 1) := by decide +kernel
theorem dX8_broadestLine_70 : decode cX8_broadestLine 70 = .ok (.invokestatic 219, 3) := by decide +kernel
theorem dX8_broadestLine_73 : decode cX8_broadestLine 73 = .ok (.istore_n 2, 1) := by decide +kernel
theorem dX8_broadestLine_74 : decode cX8_broadestLine 74 = .ok (.iinc 4 1, 3) := by decide +kernel
theorem dX8_broadestLine_77 : decode cX8_broadestLine 77 = .ok (.goto (-70), 3) := by decide +kernel
theorem dX8_broadestLine_80 : decode cX8_broadestLine 80 = .ok (.iload_n 2, 1) := by decide +kernel
theorem dX8_broadestLine_81 : decode cX8_broadestLine 81 = .ok (.ireturn, 1) := by decide +kernel
theorem dX8_mostWorth_0 : decode cX8_mostWorth 0 = .ok (.aload_n 0, 1) := by decide +kernel
theorem dX8_mostWorth_1 : decode cX8_mostWorth 1 = .ok (.aload_n 0, 1) := by decide +kernel
theorem dX8_mostWorth_2 : decode cX8_mostWorth 2 = .ok (.getfield 72, 3) := by decide +kernel
theorem dX8_mostWorth_5 : decode cX8_mostWorth 5 = .ok (.getfield 80, 3) := by decide +kernel
theorem dX8_mostWorth_8 : decode cX8_mostWorth 8 = .ok (.invokevirtual 85, 3) := by decide +kernel
theorem dX8_mostWorth_11 : decode cX8_mostWorth 11 = .ok (.iconst 0, 1) := by decide +kernel
theorem dX8_mostWorth_12 : decode cX8_mostWorth 12 = .ok (.istore_n 2, 1) := by decide +kernel
theorem dX8_mostWorth_13 : decode cX8_mostWorth 13 = .ok (.iconst 1, 1) := by decide +kernel
theorem dX8_mostWorth_14 : decode cX8_mostWorth 14 = .ok (.istore_n 3, 1) := by decide +kernel
theorem dX8_mostWorth_15 : decode cX8_mostWorth 15 = .ok (.iload_n 3, 1) := by decide +kernel
theorem dX8_mostWorth_16 : decode cX8_mostWorth 16 = .ok (.iconst 1, 1) := by decide +kernel
theorem dX8_mostWorth_17 : decode cX8_mostWorth 17 = .ok (.aload_n 0, 1) := by decide +kernel
theorem dX8_mostWorth_18 : decode cX8_mostWorth 18 = .ok (.getfield 34, 3) := by decide +kernel
theorem dX8_mostWorth_21 : decode cX8_mostWorth 21 = .ok (.ishl, 1) := by decide +kernel
theorem dX8_mostWorth_22 : decode cX8_mostWorth 22 = .ok (.if_icmp .ge 43, 3) := by decide +kernel
theorem dX8_mostWorth_25 : decode cX8_mostWorth 25 = .ok (.aload_n 0, 1) := by decide +kernel
theorem dX8_mostWorth_26 : decode cX8_mostWorth 26 = .ok (.iload_n 3, 1) := by decide +kernel
theorem dX8_mostWorth_27 : decode cX8_mostWorth 27 = .ok (.invokevirtual 222, 3) := by decide +kernel
theorem dX8_mostWorth_30 : decode cX8_mostWorth 30 = .ok (.istore 4, 2) := by decide +kernel
theorem dX8_mostWorth_32 : decode cX8_mostWorth 32 = .ok (.iload 4, 2) := by decide +kernel
theorem dX8_mostWorth_34 : decode cX8_mostWorth 34 = .ok (.iconst (-1), 1) := by decide +kernel
theorem dX8_mostWorth_35 : decode cX8_mostWorth 35 = .ok (.if_icmp .eq 24, 3) := by decide +kernel
theorem dX8_mostWorth_38 : decode cX8_mostWorth 38 = .ok (.iload 4, 2) := by decide +kernel
theorem dX8_mostWorth_40 : decode cX8_mostWorth 40 = .ok (.iload_n 1, 1) := by decide +kernel
theorem dX8_mostWorth_41 : decode cX8_mostWorth 41 = .ok (.if_icmp .gt 18, 3) := by decide +kernel
theorem dX8_mostWorth_44 : decode cX8_mostWorth 44 = .ok (.aload_n 0, 1) := by decide +kernel
theorem dX8_mostWorth_45 : decode cX8_mostWorth 45 = .ok (.iload_n 3, 1) := by decide +kernel
theorem dX8_mostWorth_46 : decode cX8_mostWorth 46 = .ok (.invokevirtual 225, 3) := by decide +kernel
theorem dX8_mostWorth_49 : decode cX8_mostWorth 49 = .ok (.aload_n 0, 1) := by decide +kernel
theorem dX8_mostWorth_50 : decode cX8_mostWorth 50 = .ok (.iload_n 2, 1) := by decide +kernel
theorem dX8_mostWorth_51 : decode cX8_mostWorth 51 = .ok (.invokevirtual 225, 3) := by decide +kernel
theorem dX8_mostWorth_54 : decode cX8_mostWorth 54 = .ok (.if_icmp .le 5, 3) := by decide +kernel
theorem dX8_mostWorth_57 : decode cX8_mostWorth 57 = .ok (.iload_n 3, 1) := by decide +kernel
theorem dX8_mostWorth_58 : decode cX8_mostWorth 58 = .ok (.istore_n 2, 1) := by decide +kernel
theorem dX8_mostWorth_59 : decode cX8_mostWorth 59 = .ok (.iinc 3 1, 3) := by decide +kernel
theorem dX8_mostWorth_62 : decode cX8_mostWorth 62 = .ok (.goto (-47), 3) := by decide +kernel
theorem dX8_mostWorth_65 : decode cX8_mostWorth 65 = .ok (.iload_n 2, 1) := by decide +kernel
theorem dX8_mostWorth_66 : decode cX8_mostWorth 66 = .ok (.ireturn, 1) := by decide +kernel
theorem dX8_worthOf_0 : decode cX8_worthOf 0 = .ok (.iconst 0, 1) := by decide +kernel
theorem dX8_worthOf_1 : decode cX8_worthOf 1 = .ok (.istore_n 2, 1) := by decide +kernel
theorem dX8_worthOf_2 : decode cX8_worthOf 2 = .ok (.iconst 0, 1) := by decide +kernel
theorem dX8_worthOf_3 : decode cX8_worthOf 3 = .ok (.istore_n 3, 1) := by decide +kernel
theorem dX8_worthOf_4 : decode cX8_worthOf 4 = .ok (.iload_n 3, 1) := by decide +kernel
theorem dX8_worthOf_5 : decode cX8_worthOf 5 = .ok (.aload_n 0, 1) := by decide +kernel
theorem dX8_worthOf_6 : decode cX8_worthOf 6 = .ok (.getfield 34, 3) := by decide +kernel
theorem dX8_worthOf_9 : decode cX8_worthOf 9 = .ok (.if_icmp .ge 38, 3) := by decide +kernel
theorem dX8_worthOf_12 : decode cX8_worthOf 12 = .ok (.iload_n 1, 1) := by decide +kernel
theorem dX8_worthOf_13 : decode cX8_worthOf 13 = .ok (.iload_n 3, 1) := by decide +kernel
theorem dX8_worthOf_14 : decode cX8_worthOf 14 = .ok (.ishr, 1) := by decide +kernel
theorem dX8_worthOf_15 : decode cX8_worthOf 15 = .ok (.iconst 1, 1) := by decide +kernel
theorem dX8_worthOf_16 : decode cX8_worthOf 16 = .ok (.iand, 1) := by decide +kernel
theorem dX8_worthOf_17 : decode cX8_worthOf 17 = .ok (.iconst 1, 1) := by decide +kernel
theorem dX8_worthOf_18 : decode cX8_worthOf 18 = .ok (.if_icmp .ne 23, 3) := by decide +kernel
theorem dX8_worthOf_21 : decode cX8_worthOf 21 = .ok (.iload_n 2, 1) := by decide +kernel
theorem dX8_worthOf_22 : decode cX8_worthOf 22 = .ok (.aload_n 0, 1) := by decide +kernel
theorem dX8_worthOf_23 : decode cX8_worthOf 23 = .ok (.getfield 72, 3) := by decide +kernel
theorem dX8_worthOf_26 : decode cX8_worthOf 26 = .ok (.getfield 228, 3) := by decide +kernel
theorem dX8_worthOf_29 : decode cX8_worthOf 29 = .ok (.aload_n 0, 1) := by decide +kernel
theorem dX8_worthOf_30 : decode cX8_worthOf 30 = .ok (.getfield 72, 3) := by decide +kernel
theorem dX8_worthOf_33 : decode cX8_worthOf 33 = .ok (.getfield 144, 3) := by decide +kernel
theorem dX8_worthOf_36 : decode cX8_worthOf 36 = .ok (.iload_n 3, 1) := by decide +kernel
theorem dX8_worthOf_37 : decode cX8_worthOf 37 = .ok (.iaload, 1) := by decide +kernel
theorem dX8_worthOf_38 : decode cX8_worthOf 38 = .ok (.iaload, 1) := by decide +kernel
theorem dX8_worthOf_39 : decode cX8_worthOf 39 = .ok (.iadd, 1) := by decide +kernel
theorem dX8_worthOf_40 : decode cX8_worthOf 40 = .ok (.istore_n 2, 1) := by decide +kernel
theorem dX8_worthOf_41 : decode cX8_worthOf 41 = .ok (.iinc 3 1, 3) := by decide +kernel
theorem dX8_worthOf_44 : decode cX8_worthOf 44 = .ok (.goto (-40), 3) := by decide +kernel
theorem dX8_worthOf_47 : decode cX8_worthOf 47 = .ok (.iload_n 2, 1) := by decide +kernel
theorem dX8_worthOf_48 : decode cX8_worthOf 48 = .ok (.ireturn, 1) := by decide +kernel
theorem dX8_widthOf_0 : decode cX8_widthOf 0 = .ok (.iconst 0, 1) := by decide +kernel
theorem dX8_widthOf_1 : decode cX8_widthOf 1 = .ok (.iload_n 1, 1) := by decide +kernel
theorem dX8_widthOf_2 : decode cX8_widthOf 2 = .ok (.invokestatic 212, 3) := by decide +kernel
theorem dX8_widthOf_5 : decode cX8_widthOf 5 = .ok (.iconst 1, 1) := by decide +kernel
theorem dX8_widthOf_6 : decode cX8_widthOf 6 = .ok (.isub, 1) := by decide +kernel
theorem dX8_widthOf_7 : decode cX8_widthOf 7 = .ok (.invokestatic 219, 3) := by decide +kernel
theorem dX8_widthOf_10 : decode cX8_widthOf 10 = .ok (.aload_n 0, 1) := by decide +kernel
theorem dX8_widthOf_11 : decode cX8_widthOf 11 = .ok (.getfield 38, 3) := by decide +kernel
theorem dX8_widthOf_14 : decode cX8_widthOf 14 = .ok (.imul, 1) := by decide +kernel
theorem dX8_widthOf_15 : decode cX8_widthOf 15 = .ok (.istore_n 2, 1) := by decide +kernel
theorem dX8_widthOf_16 : decode cX8_widthOf 16 = .ok (.iconst 0, 1) := by decide +kernel
theorem dX8_widthOf_17 : decode cX8_widthOf 17 = .ok (.istore_n 3, 1) := by decide +kernel
theorem dX8_widthOf_18 : decode cX8_widthOf 18 = .ok (.iload_n 3, 1) := by decide +kernel
theorem dX8_widthOf_19 : decode cX8_widthOf 19 = .ok (.aload_n 0, 1) := by decide +kernel
theorem dX8_widthOf_20 : decode cX8_widthOf 20 = .ok (.getfield 34, 3) := by decide +kernel
theorem dX8_widthOf_23 : decode cX8_widthOf 23 = .ok (.if_icmp .ge 41, 3) := by decide +kernel
theorem dX8_widthOf_26 : decode cX8_widthOf 26 = .ok (.iload_n 1, 1) := by decide +kernel
theorem dX8_widthOf_27 : decode cX8_widthOf 27 = .ok (.iload_n 3, 1) := by decide +kernel
theorem dX8_widthOf_28 : decode cX8_widthOf 28 = .ok (.ishr, 1) := by decide +kernel
theorem dX8_widthOf_29 : decode cX8_widthOf 29 = .ok (.iconst 1, 1) := by decide +kernel
theorem dX8_widthOf_30 : decode cX8_widthOf 30 = .ok (.iand, 1) := by decide +kernel
theorem dX8_widthOf_31 : decode cX8_widthOf 31 = .ok (.ifCond .ne 6, 3) := by decide +kernel
theorem dX8_widthOf_34 : decode cX8_widthOf 34 = .ok (.goto 24, 3) := by decide +kernel
theorem dX8_widthOf_37 : decode cX8_widthOf 37 = .ok (.aload_n 0, 1) := by decide +kernel
theorem dX8_widthOf_38 : decode cX8_widthOf 38 = .ok (.getfield 24, 3) := by decide +kernel
theorem dX8_widthOf_41 : decode cX8_widthOf 41 = .ok (.iload_n 3, 1) := by decide +kernel
theorem dX8_widthOf_42 : decode cX8_widthOf 42 = .ok (.iaload, 1) := by decide +kernel
theorem dX8_widthOf_43 : decode cX8_widthOf 43 = .ok (.iconst (-1), 1) := by decide +kernel
theorem dX8_widthOf_44 : decode cX8_widthOf 44 = .ok (.if_icmp .ne 5, 3) := by decide +kernel
theorem dX8_widthOf_47 : decode cX8_widthOf 47 = .ok (.iconst (-1), 1) := by decide +kernel
theorem dX8_widthOf_48 : decode cX8_widthOf 48 = .ok (.ireturn, 1) := by decide +kernel
theorem dX8_widthOf_49 : decode cX8_widthOf 49 = .ok (.iload_n 2, 1) := by decide +kernel
theorem dX8_widthOf_50 : decode cX8_widthOf 50 = .ok (.aload_n 0, 1) := by decide +kernel
theorem dX8_widthOf_51 : decode cX8_widthOf 51 = .ok (.getfield 24, 3) := by decide +kernel
theorem dX8_widthOf_54 : decode cX8_widthOf 54 = .ok (.iload_n 3, 1) := by decide +kernel
theorem dX8_widthOf_55 : decode cX8_widthOf 55 = .ok (.iaload, 1) := by decide +kernel
theorem dX8_widthOf_56 : decode cX8_widthOf 56 = .ok (.iadd, 1) := by decide +kernel
theorem dX8_widthOf_57 : decode cX8_widthOf 57 = .ok (.istore_n 2, 1) := by decide +kernel
theorem dX8_widthOf_58 : decode cX8_widthOf 58 = .ok (.iinc 3 1, 3) := by decide +kernel
theorem dX8_widthOf_61 : decode cX8_widthOf 61 = .ok (.goto (-43), 3) := by decide +kernel
theorem dX8_widthOf_64 : decode cX8_widthOf 64 = .ok (.iload_n 2, 1) := by decide +kernel
theorem dX8_widthOf_65 : decode cX8_widthOf 65 = .ok (.ireturn, 1) := by decide +kernel
theorem dX9_init_0 : decode cX9_init 0 = .ok (.aload_n 0, 1) := by decide +kernel
theorem dX9_init_1 : decode cX9_init 1 = .ok (.invokespecial 1, 3) := by decide +kernel
theorem dX9_init_4 : decode cX9_init 4 = .ok (.aload_n 0, 1) := by decide +kernel
theorem dX9_init_5 : decode cX9_init 5 = .ok (.iconst 0, 1) := by decide +kernel
theorem dX9_init_6 : decode cX9_init 6 = .ok (.putfield 7, 3) := by decide +kernel
theorem dX9_init_9 : decode cX9_init 9 = .ok (.aload_n 0, 1) := by decide +kernel
theorem dX9_init_10 : decode cX9_init 10 = .ok (.iconst 0, 1) := by decide +kernel
theorem dX9_init_11 : decode cX9_init 11 = .ok (.putfield 13, 3) := by decide +kernel
theorem dX9_init_14 : decode cX9_init 14 = .ok (.aload_n 0, 1) := by decide +kernel
theorem dX9_init_15 : decode cX9_init 15 = .ok (.iconst 0, 1) := by decide +kernel
theorem dX9_init_16 : decode cX9_init 16 = .ok (.iload_n 1, 1) := by decide +kernel
theorem dX9_init_17 : decode cX9_init 17 = .ok (.invokestatic 16, 3) := by decide +kernel
theorem dX9_init_20 : decode cX9_init 20 = .ok (.newarray .int, 2) := by decide +kernel
theorem dX9_init_22 : decode cX9_init 22 = .ok (.putfield 22, 3) := by decide +kernel
theorem dX9_init_25 : decode cX9_init 25 = .ok (.aload_n 0, 1) := by decide +kernel
theorem dX9_init_26 : decode cX9_init 26 = .ok (.iconst 0, 1) := by decide +kernel
theorem dX9_init_27 : decode cX9_init 27 = .ok (.iload_n 2, 1) := by decide +kernel
theorem dX9_init_28 : decode cX9_init 28 = .ok (.invokestatic 16, 3) := by decide +kernel
theorem dX9_init_31 : decode cX9_init 31 = .ok (.newarray .int, 2) := by decide +kernel
theorem dX9_init_33 : decode cX9_init 33 = .ok (.putfield 26, 3) := by decide +kernel
theorem dX9_init_36 : decode cX9_init 36 = .ok (.aload_n 0, 1) := by decide +kernel
theorem dX9_init_37 : decode cX9_init 37 = .ok (.aload_n 0, 1) := by decide +kernel
theorem dX9_init_38 : decode cX9_init 38 = .ok (.getfield 26, 3) := by decide +kernel
theorem dX9_init_41 : decode cX9_init 41 = .ok (.arraylength, 1) := by decide +kernel
theorem dX9_init_42 : decode cX9_init 42 = .ok (.newarray .int, 2) := by decide +kernel
theorem dX9_init_44 : decode cX9_init 44 = .ok (.putfield 29, 3) := by decide +kernel
theorem dX9_init_47 : decode cX9_init 47 = .ok (.aload_n 0, 1) := by decide +kernel
theorem dX9_init_48 : decode cX9_init 48 = .ok (.aload_n 0, 1) := by decide +kernel
theorem dX9_init_49 : decode cX9_init 49 = .ok (.getfield 26, 3) := by decide +kernel
theorem dX9_init_52 : decode cX9_init 52 = .ok (.arraylength, 1) := by decide +kernel
theorem dX9_init_53 : decode cX9_init 53 = .ok (.newarray .int, 2) := by decide +kernel
theorem dX9_init_55 : decode cX9_init 55 = .ok (.putfield 32, 3) := by decide +kernel
theorem dX9_init_58 : decode cX9_init 58 = .ok (.aload_n 0, 1) := by decide +kernel
theorem dX9_init_59 : decode cX9_init 59 = .ok (.aload_n 0, 1) := by decide +kernel
theorem dX9_init_60 : decode cX9_init 60 = .ok (.getfield 26, 3) := by decide +kernel
theorem dX9_init_63 : decode cX9_init 63 = .ok (.arraylength, 1) := by decide +kernel
theorem dX9_init_64 : decode cX9_init 64 = .ok (.newarray .int, 2) := by decide +kernel
theorem dX9_init_66 : decode cX9_init 66 = .ok (.putfield 35, 3) := by decide +kernel
theorem dX9_init_69 : decode cX9_init 69 = .ok (.aload_n 0, 1) := by decide +kernel
theorem dX9_init_70 : decode cX9_init 70 = .ok (.aload_n 0, 1) := by decide +kernel
theorem dX9_init_71 : decode cX9_init 71 = .ok (.getfield 26, 3) := by decide +kernel
theorem dX9_init_74 : decode cX9_init 74 = .ok (.arraylength, 1) := by decide +kernel
theorem dX9_init_75 : decode cX9_init 75 = .ok (.newarray .int, 2) := by decide +kernel
theorem dX9_init_77 : decode cX9_init 77 = .ok (.putfield 38, 3) := by decide +kernel
theorem dX9_init_80 : decode cX9_init 80 = .ok (.return_, 1) := by decide +kernel
theorem dX9_hasSum_0 : decode cX9_hasSum 0 = .ok (.aload_n 0, 1) := by decide +kernel
theorem dX9_hasSum_1 : decode cX9_hasSum 1 = .ok (.getfield 29, 3) := by decide +kernel
theorem dX9_hasSum_4 : decode cX9_hasSum 4 = .ok (.iload_n 1, 1) := by decide +kernel
theorem dX9_hasSum_5 : decode cX9_hasSum 5 = .ok (.iaload, 1) := by decide +kernel
theorem dX9_hasSum_6 : decode cX9_hasSum 6 = .ok (.aload_n 0, 1) := by decide +kernel
theorem dX9_hasSum_7 : decode cX9_hasSum 7 = .ok (.getfield 32, 3) := by decide +kernel
theorem dX9_hasSum_10 : decode cX9_hasSum 10 = .ok (.iload_n 1, 1) := by decide +kernel
theorem dX9_hasSum_11 : decode cX9_hasSum 11 = .ok (.iaload, 1) := by decide +kernel
theorem dX9_hasSum_12 : decode cX9_hasSum 12 = .ok (.if_icmp .ge 7, 3) := by decide +kernel
theorem dX9_hasSum_15 : decode cX9_hasSum 15 = .ok (.iconst 1, 1) := by decide +kernel
theorem dX9_hasSum_16 : decode cX9_hasSum 16 = .ok (.goto 4, 3) := by decide +kernel
theorem dX9_hasSum_19 : decode cX9_hasSum 19 = .ok (.iconst 0, 1) := by decide +kernel
theorem dX9_hasSum_20 : decode cX9_hasSum 20 = .ok (.ireturn, 1) := by decide +kernel
theorem dX9_hasTest_0 : decode cX9_hasTest 0 = .ok (.aload_n 0, 1) := by decide +kernel
theorem dX9_hasTest_1 : decode cX9_hasTest 1 = .ok (.getfield 32, 3) := by decide +kernel
theorem dX9_hasTest_4 : decode cX9_hasTest 4 = .ok (.iload_n 1, 1) := by decide +kernel
theorem dX9_hasTest_5 : decode cX9_hasTest 5 = .ok (.iaload, 1) := by decide +kernel
theorem dX9_hasTest_6 : decode cX9_hasTest 6 = .ok (.aload_n 0, 1) := by decide +kernel
theorem dX9_hasTest_7 : decode cX9_hasTest 7 = .ok (.getfield 35, 3) := by decide +kernel
theorem dX9_hasTest_10 : decode cX9_hasTest 10 = .ok (.iload_n 1, 1) := by decide +kernel
theorem dX9_hasTest_11 : decode cX9_hasTest 11 = .ok (.iaload, 1) := by decide +kernel
theorem dX9_hasTest_12 : decode cX9_hasTest 12 = .ok (.if_icmp .ge 7, 3) := by decide +kernel
theorem dX9_hasTest_15 : decode cX9_hasTest 15 = .ok (.iconst 1, 1) := by decide +kernel
theorem dX9_hasTest_16 : decode cX9_hasTest 16 = .ok (.goto 4, 3) := by decide +kernel
theorem dX9_hasTest_19 : decode cX9_hasTest 19 = .ok (.iconst 0, 1) := by decide +kernel
theorem dX9_hasTest_20 : decode cX9_hasTest 20 = .ok (.ireturn, 1) := by decide +kernel
theorem dX9_addStep_0 : decode cX9_addStep 0 = .ok (.aload_n 0, 1) := by decide +kernel
theorem dX9_addStep_1 : decode cX9_addStep 1 = .ok (.getfield 7, 3) := by decide +kernel
theorem dX9_addStep_4 : decode cX9_addStep 4 = .ok (.iconst 2, 1) := by decide +kernel
theorem dX9_addStep_5 : decode cX9_addStep 5 = .ok (.iadd, 1) := by decide +kernel
theorem dX9_addStep_6 : decode cX9_addStep 6 = .ok (.aload_n 0, 1) := by decide +kernel
theorem dX9_addStep_7 : decode cX9_addStep 7 = .ok (.getfield 22, 3) := by decide +kernel
theorem dX9_addStep_10 : decode cX9_addStep 10 = .ok (.arraylength, 1) := by decide +kernel
theorem dX9_addStep_11 : decode cX9_addStep 11 = .ok (.if_icmp .le 5, 3) := by decide +kernel
theorem dX9_addStep_14 : decode cX9_addStep 14 = .ok (.iconst 0, 1) := by decide +kernel
theorem dX9_addStep_15 : decode cX9_addStep 15 = .ok (.ireturn, 1) := by decide +kernel
theorem dX9_addStep_16 : decode cX9_addStep 16 = .ok (.aload_n 0, 1) := by decide +kernel
theorem dX9_addStep_17 : decode cX9_addStep 17 = .ok (.getfield 22, 3) := by decide +kernel
theorem dX9_addStep_20 : decode cX9_addStep 20 = .ok (.aload_n 0, 1) := by decide +kernel
theorem dX9_addStep_21 : decode cX9_addStep 21 = .ok (.getfield 7, 3) := by decide +kernel
theorem dX9_addStep_24 : decode cX9_addStep 24 = .ok (.iload_n 1, 1) := by decide +kernel
theorem dX9_addStep_25 : decode cX9_addStep 25 = .ok (.iastore, 1) := by decide +kernel
theorem dX9_addStep_26 : decode cX9_addStep 26 = .ok (.aload_n 0, 1) := by decide +kernel
theorem dX9_addStep_27 : decode cX9_addStep 27 = .ok (.getfield 22, 3) := by decide +kernel
theorem dX9_addStep_30 : decode cX9_addStep 30 = .ok (.aload_n 0, 1) := by decide +kernel
theorem dX9_addStep_31 : decode cX9_addStep 31 = .ok (.getfield 7, 3) := by decide +kernel
theorem dX9_addStep_34 : decode cX9_addStep 34 = .ok (.iconst 1, 1) := by decide +kernel
theorem dX9_addStep_35 : decode cX9_addStep 35 = .ok (.iadd, 1) := by decide +kernel
theorem dX9_addStep_36 : decode cX9_addStep 36 = .ok (.iload_n 2, 1) := by decide +kernel
theorem dX9_addStep_37 : decode cX9_addStep 37 = .ok (.iastore, 1) := by decide +kernel
theorem dX9_addStep_38 : decode cX9_addStep 38 = .ok (.aload_n 0, 1) := by decide +kernel
theorem dX9_addStep_39 : decode cX9_addStep 39 = .ok (.dup, 1) := by decide +kernel
theorem dX9_addStep_40 : decode cX9_addStep 40 = .ok (.getfield 7, 3) := by decide +kernel
theorem dX9_addStep_43 : decode cX9_addStep 43 = .ok (.iconst 2, 1) := by decide +kernel
theorem dX9_addStep_44 : decode cX9_addStep 44 = .ok (.iadd, 1) := by decide +kernel
theorem dX9_addStep_45 : decode cX9_addStep 45 = .ok (.putfield 7, 3) := by decide +kernel
theorem dX9_addStep_48 : decode cX9_addStep 48 = .ok (.iconst 1, 1) := by decide +kernel
theorem dX9_addStep_49 : decode cX9_addStep 49 = .ok (.ireturn, 1) := by decide +kernel
theorem dX9_skipToHere_0 : decode cX9_skipToHere 0 = .ok (.iload_n 1, 1) := by decide +kernel
theorem dX9_skipToHere_1 : decode cX9_skipToHere 1 = .ok (.ifCond .lt 13, 3) := by decide +kernel
theorem dX9_skipToHere_4 : decode cX9_skipToHere 4 = .ok (.iload_n 1, 1) := by decide +kernel
theorem dX9_skipToHere_5 : decode cX9_skipToHere 5 = .ok (.iconst 2, 1) := by decide +kernel
theorem dX9_skipToHere_6 : decode cX9_skipToHere 6 = .ok (.iadd, 1) := by decide +kernel
theorem dX9_skipToHere_7 : decode cX9_skipToHere 7 = .ok (.aload_n 0, 1) := by decide +kernel
theorem dX9_skipToHere_8 : decode cX9_skipToHere 8 = .ok (.getfield 7, 3) := by decide +kernel
theorem dX9_skipToHere_11 : decode cX9_skipToHere 11 = .ok (.if_icmp .le 4, 3) := by decide +kernel
theorem dX9_skipToHere_14 : decode cX9_skipToHere 14 = .ok (.return_, 1) := by decide +kernel
theorem dX9_skipToHere_15 : decode cX9_skipToHere 15 = .ok (.aload_n 0, 1) := by decide +kernel
theorem dX9_skipToHere_16 : decode cX9_skipToHere 16 = .ok (.getfield 22, 3) := by decide +kernel
theorem dX9_skipToHere_19 : decode cX9_skipToHere 19 = .ok (.iload_n 1, 1) := by decide +kernel
theorem dX9_skipToHere_20 : decode cX9_skipToHere 20 = .ok (.iconst 1, 1) := by decide +kernel
theorem dX9_skipToHere_21 : decode cX9_skipToHere 21 = .ok (.iadd, 1) := by decide +kernel
theorem dX9_skipToHere_22 : decode cX9_skipToHere 22 = .ok (.aload_n 0, 1) := by decide +kernel
theorem dX9_skipToHere_23 : decode cX9_skipToHere 23 = .ok (.getfield 7, 3) := by decide +kernel
theorem dX9_skipToHere_26 : decode cX9_skipToHere 26 = .ok (.iload_n 1, 1) := by decide +kernel
theorem dX9_skipToHere_27 : decode cX9_skipToHere 27 = .ok (.isub, 1) := by decide +kernel
theorem dX9_skipToHere_28 : decode cX9_skipToHere 28 = .ok (.iconst 2, 1) := by decide +kernel
theorem dX9_skipToHere_29 : decode cX9_skipToHere 29 = .ok (.isub, 1) := by decide +kernel
theorem dX9_skipToHere_30 : decode cX9_skipToHere 30 = .ok (.iastore, 1) := by decide +kernel
theorem dX9_skipToHere_31 : decode cX9_skipToHere 31 = .ok (.return_, 1) := by decide +kernel
theorem dX9_addClause_0 : decode cX9_addClause 0 = .ok (.aload_n 0, 1) := by decide +kernel
theorem dX9_addClause_1 : decode cX9_addClause 1 = .ok (.getfield 13, 3) := by decide +kernel
theorem dX9_addClause_4 : decode cX9_addClause 4 = .ok (.aload_n 0, 1) := by decide +kernel
theorem dX9_addClause_5 : decode cX9_addClause 5 = .ok (.getfield 26, 3) := by decide +kernel
theorem dX9_addClause_8 : decode cX9_addClause 8 = .ok (.arraylength, 1) := by decide +kernel
theorem dX9_addClause_9 : decode cX9_addClause 9 = .ok (.if_icmp .lt 5, 3) := by decide +kernel
theorem dX9_addClause_12 : decode cX9_addClause 12 = .ok (.iconst 0, 1) := by decide +kernel
theorem dX9_addClause_13 : decode cX9_addClause 13 = .ok (.ireturn, 1) := by decide +kernel
theorem dX9_addClause_14 : decode cX9_addClause 14 = .ok (.aload_n 0, 1) := by decide +kernel
theorem dX9_addClause_15 : decode cX9_addClause 15 = .ok (.getfield 26, 3) := by decide +kernel
theorem dX9_addClause_18 : decode cX9_addClause 18 = .ok (.aload_n 0, 1) := by decide +kernel
theorem dX9_addClause_19 : decode cX9_addClause 19 = .ok (.getfield 13, 3) := by decide +kernel
theorem dX9_addClause_22 : decode cX9_addClause 22 = .ok (.iload_n 1, 1) := by decide +kernel
theorem dX9_addClause_23 : decode cX9_addClause 23 = .ok (.iastore, 1) := by decide +kernel
theorem dX9_addClause_24 : decode cX9_addClause 24 = .ok (.aload_n 0, 1) := by decide +kernel
theorem dX9_addClause_25 : decode cX9_addClause 25 = .ok (.getfield 29, 3) := by decide +kernel
theorem dX9_addClause_28 : decode cX9_addClause 28 = .ok (.aload_n 0, 1) := by decide +kernel
theorem dX9_addClause_29 : decode cX9_addClause 29 = .ok (.getfield 13, 3) := by decide +kernel
theorem dX9_addClause_32 : decode cX9_addClause 32 = .ok (.iload_n 2, 1) := by decide +kernel
theorem dX9_addClause_33 : decode cX9_addClause 33 = .ok (.iastore, 1) := by decide +kernel
theorem dX9_addClause_34 : decode cX9_addClause 34 = .ok (.aload_n 0, 1) := by decide +kernel
theorem dX9_addClause_35 : decode cX9_addClause 35 = .ok (.getfield 32, 3) := by decide +kernel
theorem dX9_addClause_38 : decode cX9_addClause 38 = .ok (.aload_n 0, 1) := by decide +kernel
theorem dX9_addClause_39 : decode cX9_addClause 39 = .ok (.getfield 13, 3) := by decide +kernel
theorem dX9_addClause_42 : decode cX9_addClause 42 = .ok (.iload_n 3, 1) := by decide +kernel
theorem dX9_addClause_43 : decode cX9_addClause 43 = .ok (.iastore, 1) := by decide +kernel
theorem dX9_addClause_44 : decode cX9_addClause 44 = .ok (.aload_n 0, 1) := by decide +kernel
theorem dX9_addClause_45 : decode cX9_addClause 45 = .ok (.getfield 35, 3) := by decide +kernel
theorem dX9_addClause_48 : decode cX9_addClause 48 = .ok (.aload_n 0, 1) := by decide +kernel
theorem dX9_addClause_49 : decode cX9_addClause 49 = .ok (.getfield 13, 3) := by decide +kernel
theorem dX9_addClause_52 : decode cX9_addClause 52 = .ok (.aload_n 0, 1) := by decide +kernel
theorem dX9_addClause_53 : decode cX9_addClause 53 = .ok (.getfield 7, 3) := by decide +kernel
theorem dX9_addClause_56 : decode cX9_addClause 56 = .ok (.iastore, 1) := by decide +kernel
theorem dX9_addClause_57 : decode cX9_addClause 57 = .ok (.aload_n 0, 1) := by decide +kernel
theorem dX9_addClause_58 : decode cX9_addClause 58 = .ok (.getfield 38, 3) := by decide +kernel
theorem dX9_addClause_61 : decode cX9_addClause 61 = .ok (.aload_n 0, 1) := by decide +kernel
theorem dX9_addClause_62 : decode cX9_addClause 62 = .ok (.getfield 13, 3) := by decide +kernel
theorem dX9_addClause_65 : decode cX9_addClause 65 = .ok (.iload 4, 2) := by decide +kernel
theorem dX9_addClause_67 : decode cX9_addClause 67 = .ok (.iastore, 1) := by decide +kernel
theorem dX9_addClause_68 : decode cX9_addClause 68 = .ok (.aload_n 0, 1) := by decide +kernel
theorem dX9_addClause_69 : decode cX9_addClause 69 = .ok (.dup, 1) := by decide +kernel
theorem dX9_addClause_70 : decode cX9_addClause 70 = .ok (.getfield 13, 3) := by decide +kernel
theorem dX9_addClause_73 : decode cX9_addClause 73 = .ok (.iconst 1, 1) := by decide +kernel
theorem dX9_addClause_74 : decode cX9_addClause 74 = .ok (.iadd, 1) := by decide +kernel
theorem dX9_addClause_75 : decode cX9_addClause 75 = .ok (.putfield 13, 3) := by decide +kernel
theorem dX9_addClause_78 : decode cX9_addClause 78 = .ok (.iconst 1, 1) := by decide +kernel
theorem dX9_addClause_79 : decode cX9_addClause 79 = .ok (.ireturn, 1) := by decide +kernel
theorem dX9_trimmed_0 : decode cX9_trimmed 0 = .ok (.new 8, 3) := by decide +kernel
theorem dX9_trimmed_3 : decode cX9_trimmed 3 = .ok (.dup, 1) := by decide +kernel
theorem dX9_trimmed_4 : decode cX9_trimmed 4 = .ok (.aload_n 0, 1) := by decide +kernel
theorem dX9_trimmed_5 : decode cX9_trimmed 5 = .ok (.getfield 7, 3) := by decide +kernel
theorem dX9_trimmed_8 : decode cX9_trimmed 8 = .ok (.aload_n 0, 1) := by decide +kernel
theorem dX9_trimmed_9 : decode cX9_trimmed 9 = .ok (.getfield 13, 3) := by decide +kernel
theorem dX9_trimmed_12 : decode cX9_trimmed 12 = .ok (.invokespecial 41, 3) := by decide +kernel
theorem dX9_trimmed_15 : decode cX9_trimmed 15 = .ok (.astore_n 1, 1) := by decide +kernel
theorem dX9_trimmed_16 : decode cX9_trimmed 16 = .ok (.aload_n 0, 1) := by decide +kernel
theorem dX9_trimmed_17 : decode cX9_trimmed 17 = .ok (.getfield 22, 3) := by decide +kernel
theorem dX9_trimmed_20 : decode cX9_trimmed 20 = .ok (.iconst 0, 1) := by decide +kernel
theorem dX9_trimmed_21 : decode cX9_trimmed 21 = .ok (.aload_n 1, 1) := by decide +kernel
theorem dX9_trimmed_22 : decode cX9_trimmed 22 = .ok (.getfield 22, 3) := by decide +kernel
theorem dX9_trimmed_25 : decode cX9_trimmed 25 = .ok (.iconst 0, 1) := by decide +kernel
theorem dX9_trimmed_26 : decode cX9_trimmed 26 = .ok (.aload_n 0, 1) := by decide +kernel
theorem dX9_trimmed_27 : decode cX9_trimmed 27 = .ok (.getfield 7, 3) := by decide +kernel
theorem dX9_trimmed_30 : decode cX9_trimmed 30 = .ok (.invokestatic 44, 3) := by decide +kernel
theorem dX9_trimmed_33 : decode cX9_trimmed 33 = .ok (.aload_n 0, 1) := by decide +kernel
theorem dX9_trimmed_34 : decode cX9_trimmed 34 = .ok (.getfield 26, 3) := by decide +kernel
theorem dX9_trimmed_37 : decode cX9_trimmed 37 = .ok (.iconst 0, 1) := by decide +kernel
theorem dX9_trimmed_38 : decode cX9_trimmed 38 = .ok (.aload_n 1, 1) := by decide +kernel
theorem dX9_trimmed_39 : decode cX9_trimmed 39 = .ok (.getfield 26, 3) := by decide +kernel
theorem dX9_trimmed_42 : decode cX9_trimmed 42 = .ok (.iconst 0, 1) := by decide +kernel
theorem dX9_trimmed_43 : decode cX9_trimmed 43 = .ok (.aload_n 0, 1) := by decide +kernel
theorem dX9_trimmed_44 : decode cX9_trimmed 44 = .ok (.getfield 13, 3) := by decide +kernel
theorem dX9_trimmed_47 : decode cX9_trimmed 47 = .ok (.invokestatic 44, 3) := by decide +kernel
theorem dX9_trimmed_50 : decode cX9_trimmed 50 = .ok (.aload_n 0, 1) := by decide +kernel
theorem dX9_trimmed_51 : decode cX9_trimmed 51 = .ok (.getfield 29, 3) := by decide +kernel
theorem dX9_trimmed_54 : decode cX9_trimmed 54 = .ok (.iconst 0, 1) := by decide +kernel
theorem dX9_trimmed_55 : decode cX9_trimmed 55 = .ok (.aload_n 1, 1) := by decide +kernel
theorem dX9_trimmed_56 : decode cX9_trimmed 56 = .ok (.getfield 29, 3) := by decide +kernel
theorem dX9_trimmed_59 : decode cX9_trimmed 59 = .ok (.iconst 0, 1) := by decide +kernel
theorem dX9_trimmed_60 : decode cX9_trimmed 60 = .ok (.aload_n 0, 1) := by decide +kernel
theorem dX9_trimmed_61 : decode cX9_trimmed 61 = .ok (.getfield 13, 3) := by decide +kernel
theorem dX9_trimmed_64 : decode cX9_trimmed 64 = .ok (.invokestatic 44, 3) := by decide +kernel
theorem dX9_trimmed_67 : decode cX9_trimmed 67 = .ok (.aload_n 0, 1) := by decide +kernel
theorem dX9_trimmed_68 : decode cX9_trimmed 68 = .ok (.getfield 32, 3) := by decide +kernel
theorem dX9_trimmed_71 : decode cX9_trimmed 71 = .ok (.iconst 0, 1) := by decide +kernel
theorem dX9_trimmed_72 : decode cX9_trimmed 72 = .ok (.aload_n 1, 1) := by decide +kernel
theorem dX9_trimmed_73 : decode cX9_trimmed 73 = .ok (.getfield 32, 3) := by decide +kernel
theorem dX9_trimmed_76 : decode cX9_trimmed 76 = .ok (.iconst 0, 1) := by decide +kernel
theorem dX9_trimmed_77 : decode cX9_trimmed 77 = .ok (.aload_n 0, 1) := by decide +kernel
theorem dX9_trimmed_78 : decode cX9_trimmed 78 = .ok (.getfield 13, 3) := by decide +kernel
theorem dX9_trimmed_81 : decode cX9_trimmed 81 = .ok (.invokestatic 44, 3) := by decide +kernel
theorem dX9_trimmed_84 : decode cX9_trimmed 84 = .ok (.aload_n 0, 1) := by decide +kernel
theorem dX9_trimmed_85 : decode cX9_trimmed 85 = .ok (.getfield 35, 3) := by decide +kernel
theorem dX9_trimmed_88 : decode cX9_trimmed 88 = .ok (.iconst 0, 1) := by decide +kernel
theorem dX9_trimmed_89 : decode cX9_trimmed 89 = .ok (.aload_n 1, 1) := by decide +kernel
theorem dX9_trimmed_90 : decode cX9_trimmed 90 = .ok (.getfield 35, 3) := by decide +kernel
theorem dX9_trimmed_93 : decode cX9_trimmed 93 = .ok (.iconst 0, 1) := by decide +kernel
theorem dX9_trimmed_94 : decode cX9_trimmed 94 = .ok (.aload_n 0, 1) := by decide +kernel
theorem dX9_trimmed_95 : decode cX9_trimmed 95 = .ok (.getfield 13, 3) := by decide +kernel
theorem dX9_trimmed_98 : decode cX9_trimmed 98 = .ok (.invokestatic 44, 3) := by decide +kernel
theorem dX9_trimmed_101 : decode cX9_trimmed 101 = .ok (.aload_n 0, 1) := by decide +kernel
theorem dX9_trimmed_102 : decode cX9_trimmed 102 = .ok (.getfield 38, 3) := by decide +kernel
theorem dX9_trimmed_105 : decode cX9_trimmed 105 = .ok (.iconst 0, 1) := by decide +kernel
theorem dX9_trimmed_106 : decode cX9_trimmed 106 = .ok (.aload_n 1, 1) := by decide +kernel
theorem dX9_trimmed_107 : decode cX9_trimmed 107 = .ok (.getfield 38, 3) := by decide +kernel
theorem dX9_trimmed_110 : decode cX9_trimmed 110 = .ok (.iconst 0, 1) := by decide +kernel
theorem dX9_trimmed_111 : decode cX9_trimmed 111 = .ok (.aload_n 0, 1) := by decide +kernel
theorem dX9_trimmed_112 : decode cX9_trimmed 112 = .ok (.getfield 13, 3) := by decide +kernel
theorem dX9_trimmed_115 : decode cX9_trimmed 115 = .ok (.invokestatic 44, 3) := by decide +kernel
theorem dX9_trimmed_118 : decode cX9_trimmed 118 = .ok (.aload_n 1, 1) := by decide +kernel
theorem dX9_trimmed_119 : decode cX9_trimmed 119 = .ok (.aload_n 0, 1) := by decide +kernel
theorem dX9_trimmed_120 : decode cX9_trimmed 120 = .ok (.getfield 7, 3) := by decide +kernel
theorem dX9_trimmed_123 : decode cX9_trimmed 123 = .ok (.putfield 7, 3) := by decide +kernel
theorem dX9_trimmed_126 : decode cX9_trimmed 126 = .ok (.aload_n 1, 1) := by decide +kernel
theorem dX9_trimmed_127 : decode cX9_trimmed 127 = .ok (.aload_n 0, 1) := by decide +kernel
theorem dX9_trimmed_128 : decode cX9_trimmed 128 = .ok (.getfield 13, 3) := by decide +kernel
theorem dX9_trimmed_131 : decode cX9_trimmed 131 = .ok (.putfield 13, 3) := by decide +kernel
theorem dX9_trimmed_134 : decode cX9_trimmed 134 = .ok (.aload_n 1, 1) := by decide +kernel
theorem dX9_trimmed_135 : decode cX9_trimmed 135 = .ok (.areturn, 1) := by decide +kernel
theorem dX10_init_0 : decode cX10_init 0 = .ok (.aload_n 0, 1) := by decide +kernel
theorem dX10_init_1 : decode cX10_init 1 = .ok (.invokespecial 3, 3) := by decide +kernel
theorem dX10_init_4 : decode cX10_init 4 = .ok (.aload_n 0, 1) := by decide +kernel
theorem dX10_init_5 : decode cX10_init 5 = .ok (.bipush 16, 2) := by decide +kernel
theorem dX10_init_7 : decode cX10_init 7 = .ok (.newarray .int, 2) := by decide +kernel
theorem dX10_init_9 : decode cX10_init 9 = .ok (.putfield 9, 3) := by decide +kernel
theorem dX10_init_12 : decode cX10_init 12 = .ok (.aload_n 0, 1) := by decide +kernel
theorem dX10_init_13 : decode cX10_init 13 = .ok (.bipush 16, 2) := by decide +kernel
theorem dX10_init_15 : decode cX10_init 15 = .ok (.newarray .int, 2) := by decide +kernel
theorem dX10_init_17 : decode cX10_init 17 = .ok (.putfield 15, 3) := by decide +kernel
theorem dX10_init_20 : decode cX10_init 20 = .ok (.aload_n 0, 1) := by decide +kernel
theorem dX10_init_21 : decode cX10_init 21 = .ok (.bipush 16, 2) := by decide +kernel
theorem dX10_init_23 : decode cX10_init 23 = .ok (.newarray .int, 2) := by decide +kernel
theorem dX10_init_25 : decode cX10_init 25 = .ok (.putfield 18, 3) := by decide +kernel
theorem dX10_init_28 : decode cX10_init 28 = .ok (.aload_n 0, 1) := by decide +kernel
theorem dX10_init_29 : decode cX10_init 29 = .ok (.bipush 16, 2) := by decide +kernel
theorem dX10_init_31 : decode cX10_init 31 = .ok (.newarray .int, 2) := by decide +kernel
theorem dX10_init_33 : decode cX10_init 33 = .ok (.putfield 21, 3) := by decide +kernel
theorem dX10_init_36 : decode cX10_init 36 = .ok (.aload_n 0, 1) := by decide +kernel
theorem dX10_init_37 : decode cX10_init 37 = .ok (.sipush 144, 3) := by decide +kernel
theorem dX10_init_40 : decode cX10_init 40 = .ok (.newarray .byte, 2) := by decide +kernel
theorem dX10_init_42 : decode cX10_init 42 = .ok (.putfield 24, 3) := by decide +kernel
theorem dX10_init_45 : decode cX10_init 45 = .ok (.aload_n 0, 1) := by decide +kernel
theorem dX10_init_46 : decode cX10_init 46 = .ok (.iconst 0, 1) := by decide +kernel
theorem dX10_init_47 : decode cX10_init 47 = .ok (.putfield 28, 3) := by decide +kernel
theorem dX10_init_50 : decode cX10_init 50 = .ok (.return_, 1) := by decide +kernel
theorem dX10_has_0 : decode cX10_has 0 = .ok (.iload_n 1, 1) := by decide +kernel
theorem dX10_has_1 : decode cX10_has 1 = .ok (.ifCond .lt 15, 3) := by decide +kernel
theorem dX10_has_4 : decode cX10_has 4 = .ok (.iload_n 1, 1) := by decide +kernel
theorem dX10_has_5 : decode cX10_has 5 = .ok (.aload_n 0, 1) := by decide +kernel
theorem dX10_has_6 : decode cX10_has 6 = .ok (.getfield 28, 3) := by decide +kernel
theorem dX10_has_9 : decode cX10_has 9 = .ok (.if_icmp .ge 7, 3) := by decide +kernel
theorem dX10_has_12 : decode cX10_has 12 = .ok (.iconst 1, 1) := by decide +kernel
theorem dX10_has_13 : decode cX10_has 13 = .ok (.goto 4, 3) := by decide +kernel
theorem dX10_has_16 : decode cX10_has 16 = .ok (.iconst 0, 1) := by decide +kernel
theorem dX10_has_17 : decode cX10_has 17 = .ok (.ireturn, 1) := by decide +kernel
theorem dX10_manyOf_0 : decode cX10_manyOf 0 = .ok (.iconst 0, 1) := by decide +kernel
theorem dX10_manyOf_1 : decode cX10_manyOf 1 = .ok (.istore_n 2, 1) := by decide +kernel
theorem dX10_manyOf_2 : decode cX10_manyOf 2 = .ok (.iconst 0, 1) := by decide +kernel
theorem dX10_manyOf_3 : decode cX10_manyOf 3 = .ok (.istore_n 3, 1) := by decide +kernel
theorem dX10_manyOf_4 : decode cX10_manyOf 4 = .ok (.iload_n 3, 1) := by decide +kernel
theorem dX10_manyOf_5 : decode cX10_manyOf 5 = .ok (.aload_n 0, 1) := by decide +kernel
theorem dX10_manyOf_6 : decode cX10_manyOf 6 = .ok (.getfield 28, 3) := by decide +kernel
theorem dX10_manyOf_9 : decode cX10_manyOf 9 = .ok (.if_icmp .ge 22, 3) := by decide +kernel
theorem dX10_manyOf_12 : decode cX10_manyOf 12 = .ok (.aload_n 0, 1) := by decide +kernel
theorem dX10_manyOf_13 : decode cX10_manyOf 13 = .ok (.getfield 9, 3) := by decide +kernel
theorem dX10_manyOf_16 : decode cX10_manyOf 16 = .ok (.iload_n 3, 1) := by decide +kernel
theorem dX10_manyOf_17 : decode cX10_manyOf 17 = .ok (.iaload, 1) := by decide +kernel
theorem dX10_manyOf_18 : decode cX10_manyOf 18 = .ok (.iload_n 1, 1) := by decide +kernel
theorem dX10_manyOf_19 : decode cX10_manyOf 19 = .ok (.if_icmp .ne 6, 3) := by decide +kernel
theorem dX10_manyOf_22 : decode cX10_manyOf 22 = .ok (.iinc 2 1, 3) := by decide +kernel
theorem dX10_manyOf_25 : decode cX10_manyOf 25 = .ok (.iinc 3 1, 3) := by decide +kernel
theorem dX10_manyOf_28 : decode cX10_manyOf 28 = .ok (.goto (-24), 3) := by decide +kernel
theorem dX10_manyOf_31 : decode cX10_manyOf 31 = .ok (.iload_n 2, 1) := by decide +kernel
theorem dX10_manyOf_32 : decode cX10_manyOf 32 = .ok (.ireturn, 1) := by decide +kernel
theorem dX10_firstLetter_0 : decode cX10_firstLetter 0 = .ok (.aload_n 0, 1) := by decide +kernel
theorem dX10_firstLetter_1 : decode cX10_firstLetter 1 = .ok (.getfield 24, 3) := by decide +kernel
theorem dX10_firstLetter_4 : decode cX10_firstLetter 4 = .ok (.iload_n 1, 1) := by decide +kernel
theorem dX10_firstLetter_5 : decode cX10_firstLetter 5 = .ok (.bipush 9, 2) := by decide +kernel
theorem dX10_firstLetter_7 : decode cX10_firstLetter 7 = .ok (.imul, 1) := by decide +kernel
theorem dX10_firstLetter_8 : decode cX10_firstLetter 8 = .ok (.baload, 1) := by decide +kernel
theorem dX10_firstLetter_9 : decode cX10_firstLetter 9 = .ok (.ireturn, 1) := by decide +kernel
theorem dX10_beginAlike_0 : decode cX10_beginAlike 0 = .ok (.aload_n 0, 1) := by decide +kernel
theorem dX10_beginAlike_1 : decode cX10_beginAlike 1 = .ok (.iload_n 1, 1) := by decide +kernel
theorem dX10_beginAlike_2 : decode cX10_beginAlike 2 = .ok (.invokevirtual 32, 3) := by decide +kernel
theorem dX10_beginAlike_5 : decode cX10_beginAlike 5 = .ok (.aload_n 0, 1) := by decide +kernel
theorem dX10_beginAlike_6 : decode cX10_beginAlike 6 = .ok (.iload_n 2, 1) := by decide +kernel
theorem dX10_beginAlike_7 : decode cX10_beginAlike 7 = .ok (.invokevirtual 32, 3) := by decide +kernel
theorem dX10_beginAlike_10 : decode cX10_beginAlike 10 = .ok (.if_icmp .ne 7, 3) := by decide +kernel
theorem dX10_beginAlike_13 : decode cX10_beginAlike 13 = .ok (.iconst 1, 1) := by decide +kernel
theorem dX10_beginAlike_14 : decode cX10_beginAlike 14 = .ok (.goto 4, 3) := by decide +kernel
theorem dX10_beginAlike_17 : decode cX10_beginAlike 17 = .ok (.iconst 0, 1) := by decide +kernel
theorem dX10_beginAlike_18 : decode cX10_beginAlike 18 = .ok (.ireturn, 1) := by decide +kernel
theorem dX10_spell_0 : decode cX10_spell 0 = .ok (.aload_n 0, 1) := by decide +kernel
theorem dX10_spell_1 : decode cX10_spell 1 = .ok (.getfield 28, 3) := by decide +kernel
theorem dX10_spell_4 : decode cX10_spell 4 = .ok (.bipush 16, 2) := by decide +kernel
theorem dX10_spell_6 : decode cX10_spell 6 = .ok (.if_icmp .ge 14, 3) := by decide +kernel
theorem dX10_spell_9 : decode cX10_spell 9 = .ok (.iload_n 2, 1) := by decide +kernel
theorem dX10_spell_10 : decode cX10_spell 10 = .ok (.iconst 1, 1) := by decide +kernel
theorem dX10_spell_11 : decode cX10_spell 11 = .ok (.if_icmp .lt 9, 3) := by decide +kernel
theorem dX10_spell_14 : decode cX10_spell 14 = .ok (.iload_n 2, 1) := by decide +kernel
theorem dX10_spell_15 : decode cX10_spell 15 = .ok (.bipush 9, 2) := by decide +kernel
theorem dX10_spell_17 : decode cX10_spell 17 = .ok (.if_icmp .le 5, 3) := by decide +kernel
theorem dX10_spell_20 : decode cX10_spell 20 = .ok (.iconst 0, 1) := by decide +kernel
theorem dX10_spell_21 : decode cX10_spell 21 = .ok (.ireturn, 1) := by decide +kernel
theorem dX10_spell_22 : decode cX10_spell 22 = .ok (.iconst 0, 1) := by decide +kernel
theorem dX10_spell_23 : decode cX10_spell 23 = .ok (.istore_n 3, 1) := by decide +kernel
theorem dX10_spell_24 : decode cX10_spell 24 = .ok (.iload_n 3, 1) := by decide +kernel
theorem dX10_spell_25 : decode cX10_spell 25 = .ok (.iload_n 2, 1) := by decide +kernel
theorem dX10_spell_26 : decode cX10_spell 26 = .ok (.if_icmp .ge 48, 3) := by decide +kernel
theorem dX10_spell_29 : decode cX10_spell 29 = .ok (.aload_n 1, 1) := by decide +kernel
theorem dX10_spell_30 : decode cX10_spell 30 = .ok (.iload_n 3, 1) := by decide +kernel
theorem dX10_spell_31 : decode cX10_spell 31 = .ok (.baload, 1) := by decide +kernel
theorem dX10_spell_32 : decode cX10_spell 32 = .ok (.bipush 97, 2) := by decide +kernel
theorem dX10_spell_34 : decode cX10_spell 34 = .ok (.if_icmp .lt 11, 3) := by decide +kernel
theorem dX10_spell_37 : decode cX10_spell 37 = .ok (.aload_n 1, 1) := by decide +kernel
theorem dX10_spell_38 : decode cX10_spell 38 = .ok (.iload_n 3, 1) := by decide +kernel
theorem dX10_spell_39 : decode cX10_spell 39 = .ok (.baload, 1) := by decide +kernel
theorem dX10_spell_40 : decode cX10_spell 40 = .ok (.bipush 122, 2) := by decide +kernel
theorem dX10_spell_42 : decode cX10_spell 42 = .ok (.if_icmp .le 5, 3) := by decide +kernel
theorem dX10_spell_45 : decode cX10_spell 45 = .ok (.iconst 0, 1) := by decide +kernel
theorem dX10_spell_46 : decode cX10_spell 46 = .ok (.ireturn, 1) := by decide +kernel
theorem dX10_spell_47 : decode cX10_spell 47 = .ok (.aload_n 0, 1) := by decide +kernel
theorem dX10_spell_48 : decode cX10_spell 48 = .ok (.getfield 24, 3) := by decide +kernel
theorem dX10_spell_51 : decode cX10_spell 51 = .ok (.aload_n 0, 1) := by decide +kernel
theorem dX10_spell_52 : decode cX10_spell 52 = .ok (.getfield 28, 3) := by decide +kernel
theorem dX10_spell_55 : decode cX10_spell 55 = .ok (.bipush 9, 2) := by decide +kernel
theorem dX10_spell_57 : decode cX10_spell 57 = .ok (.imul, 1) := by decide +kernel
theorem dX10_spell_58 : decode cX10_spell 58 = .ok (.iload_n 3, 1) := by decide +kernel
theorem dX10_spell_59 : decode cX10_spell 59 = .ok (.iadd, 1) := by decide +kernel
theorem dX10_spell_60 : decode cX10_spell 60 = .ok (.aload_n 1, 1) := by decide +kernel
theorem dX10_spell_61 : decode cX10_spell 61 = .ok (.iload_n 3, 1) := by decide +kernel
theorem dX10_spell_62 : decode cX10_spell 62 = .ok (.baload, 1) := by decide +kernel
theorem dX10_spell_63 : decode cX10_spell 63 = .ok (.bipush 97, 2) := by decide +kernel
theorem dX10_spell_65 : decode cX10_spell 65 = .ok (.isub, 1) := by decide +kernel
theorem dX10_spell_66 : decode cX10_spell 66 = .ok (.i2b, 1) := by decide +kernel
theorem dX10_spell_67 : decode cX10_spell 67 = .ok (.bastore, 1) := by decide +kernel
theorem dX10_spell_68 : decode cX10_spell 68 = .ok (.iinc 3 1, 3) := by decide +kernel
theorem dX10_spell_71 : decode cX10_spell 71 = .ok (.goto (-47), 3) := by decide +kernel
theorem dX10_spell_74 : decode cX10_spell 74 = .ok (.aload_n 0, 1) := by decide +kernel
theorem dX10_spell_75 : decode cX10_spell 75 = .ok (.getfield 21, 3) := by decide +kernel
theorem dX10_spell_78 : decode cX10_spell 78 = .ok (.aload_n 0, 1) := by decide +kernel
theorem dX10_spell_79 : decode cX10_spell 79 = .ok (.getfield 28, 3) := by decide +kernel
theorem dX10_spell_82 : decode cX10_spell 82 = .ok (.iload_n 2, 1) := by decide +kernel
theorem dX10_spell_83 : decode cX10_spell 83 = .ok (.iastore, 1) := by decide +kernel
theorem dX10_spell_84 : decode cX10_spell 84 = .ok (.iconst 1, 1) := by decide +kernel
theorem dX10_spell_85 : decode cX10_spell 85 = .ok (.ireturn, 1) := by decide +kernel
theorem dX10_add_0 : decode cX10_add 0 = .ok (.aload_n 0, 1) := by decide +kernel
theorem dX10_add_1 : decode cX10_add 1 = .ok (.getfield 28, 3) := by decide +kernel
theorem dX10_add_4 : decode cX10_add 4 = .ok (.bipush 16, 2) := by decide +kernel
theorem dX10_add_6 : decode cX10_add 6 = .ok (.if_icmp .lt 5, 3) := by decide +kernel
theorem dX10_add_9 : decode cX10_add 9 = .ok (.iconst (-1), 1) := by decide +kernel
theorem dX10_add_10 : decode cX10_add 10 = .ok (.ireturn, 1) := by decide +kernel
theorem dX10_add_11 : decode cX10_add 11 = .ok (.aload_n 0, 1) := by decide +kernel
theorem dX10_add_12 : decode cX10_add 12 = .ok (.getfield 9, 3) := by decide +kernel
theorem dX10_add_15 : decode cX10_add 15 = .ok (.aload_n 0, 1) := by decide +kernel
theorem dX10_add_16 : decode cX10_add 16 = .ok (.getfield 28, 3) := by decide +kernel
theorem dX10_add_19 : decode cX10_add 19 = .ok (.iload_n 1, 1) := by decide +kernel
theorem dX10_add_20 : decode cX10_add 20 = .ok (.iastore, 1) := by decide +kernel
theorem dX10_add_21 : decode cX10_add 21 = .ok (.aload_n 0, 1) := by decide +kernel
theorem dX10_add_22 : decode cX10_add 22 = .ok (.getfield 15, 3) := by decide +kernel
theorem dX10_add_25 : decode cX10_add 25 = .ok (.aload_n 0, 1) := by decide +kernel
theorem dX10_add_26 : decode cX10_add 26 = .ok (.getfield 28, 3) := by decide +kernel
theorem dX10_add_29 : decode cX10_add 29 = .ok (.iload_n 2, 1) := by decide +kernel
theorem dX10_add_30 : decode cX10_add 30 = .ok (.iastore, 1) := by decide +kernel
theorem dX10_add_31 : decode cX10_add 31 = .ok (.aload_n 0, 1) := by decide +kernel
theorem dX10_add_32 : decode cX10_add 32 = .ok (.getfield 18, 3) := by decide +kernel
theorem dX10_add_35 : decode cX10_add 35 = .ok (.aload_n 0, 1) := by decide +kernel
theorem dX10_add_36 : decode cX10_add 36 = .ok (.getfield 28, 3) := by decide +kernel
theorem dX10_add_39 : decode cX10_add 39 = .ok (.iload_n 3, 1) := by decide +kernel
theorem dX10_add_40 : decode cX10_add 40 = .ok (.iastore, 1) := by decide +kernel
theorem dX10_add_41 : decode cX10_add 41 = .ok (.aload_n 0, 1) := by decide +kernel
theorem dX10_add_42 : decode cX10_add 42 = .ok (.dup, 1) := by decide +kernel
theorem dX10_add_43 : decode cX10_add 43 = .ok (.getfield 28, 3) := by decide +kernel
theorem dX10_add_46 : decode cX10_add 46 = .ok (.iconst 1, 1) := by decide +kernel
theorem dX10_add_47 : decode cX10_add 47 = .ok (.iadd, 1) := by decide +kernel
theorem dX10_add_48 : decode cX10_add 48 = .ok (.putfield 28, 3) := by decide +kernel
theorem dX10_add_51 : decode cX10_add 51 = .ok (.aload_n 0, 1) := by decide +kernel
theorem dX10_add_52 : decode cX10_add 52 = .ok (.getfield 28, 3) := by decide +kernel
theorem dX10_add_55 : decode cX10_add 55 = .ok (.iconst 1, 1) := by decide +kernel
theorem dX10_add_56 : decode cX10_add 56 = .ok (.isub, 1) := by decide +kernel
theorem dX10_add_57 : decode cX10_add 57 = .ok (.ireturn, 1) := by decide +kernel
theorem dX10_takeFrom_0 : decode cX10_takeFrom 0 = .ok (.aload_n 1, 1) := by decide +kernel
theorem dX10_takeFrom_1 : decode cX10_takeFrom 1 = .ok (.getfield 9, 3) := by decide +kernel
theorem dX10_takeFrom_4 : decode cX10_takeFrom 4 = .ok (.iconst 0, 1) := by decide +kernel
theorem dX10_takeFrom_5 : decode cX10_takeFrom 5 = .ok (.aload_n 0, 1) := by decide +kernel
theorem dX10_takeFrom_6 : decode cX10_takeFrom 6 = .ok (.getfield 9, 3) := by decide +kernel
theorem dX10_takeFrom_9 : decode cX10_takeFrom 9 = .ok (.iconst 0, 1) := by decide +kernel
theorem dX10_takeFrom_10 : decode cX10_takeFrom 10 = .ok (.bipush 16, 2) := by decide +kernel
theorem dX10_takeFrom_12 : decode cX10_takeFrom 12 = .ok (.invokestatic 36, 3) := by decide +kernel
theorem dX10_takeFrom_15 : decode cX10_takeFrom 15 = .ok (.aload_n 1, 1) := by decide +kernel
theorem dX10_takeFrom_16 : decode cX10_takeFrom 16 = .ok (.getfield 15, 3) := by decide +kernel
theorem dX10_takeFrom_19 : decode cX10_takeFrom 19 = .ok (.iconst 0, 1) := by decide +kernel
theorem dX10_takeFrom_20 : decode cX10_takeFrom 20 = .ok (.aload_n 0, 1) := by decide +kernel
theorem dX10_takeFrom_21 : decode cX10_takeFrom 21 = .ok (.getfield 15, 3) := by decide +kernel
theorem dX10_takeFrom_24 : decode cX10_takeFrom 24 = .ok (.iconst 0, 1) := by decide +kernel
theorem dX10_takeFrom_25 : decode cX10_takeFrom 25 = .ok (.bipush 16, 2) := by decide +kernel
theorem dX10_takeFrom_27 : decode cX10_takeFrom 27 = .ok (.invokestatic 36, 3) := by decide +kernel
theorem dX10_takeFrom_30 : decode cX10_takeFrom 30 = .ok (.aload_n 1, 1) := by decide +kernel
theorem dX10_takeFrom_31 : decode cX10_takeFrom 31 = .ok (.getfield 18, 3) := by decide +kernel
theorem dX10_takeFrom_34 : decode cX10_takeFrom 34 = .ok (.iconst 0, 1) := by decide +kernel
theorem dX10_takeFrom_35 : decode cX10_takeFrom 35 = .ok (.aload_n 0, 1) := by decide +kernel
theorem dX10_takeFrom_36 : decode cX10_takeFrom 36 = .ok (.getfield 18, 3) := by decide +kernel
theorem dX10_takeFrom_39 : decode cX10_takeFrom 39 = .ok (.iconst 0, 1) := by decide +kernel
theorem dX10_takeFrom_40 : decode cX10_takeFrom 40 = .ok (.bipush 16, 2) := by decide +kernel
theorem dX10_takeFrom_42 : decode cX10_takeFrom 42 = .ok (.invokestatic 36, 3) := by decide +kernel
theorem dX10_takeFrom_45 : decode cX10_takeFrom 45 = .ok (.aload_n 1, 1) := by decide +kernel
theorem dX10_takeFrom_46 : decode cX10_takeFrom 46 = .ok (.getfield 21, 3) := by decide +kernel
theorem dX10_takeFrom_49 : decode cX10_takeFrom 49 = .ok (.iconst 0, 1) := by decide +kernel
theorem dX10_takeFrom_50 : decode cX10_takeFrom 50 = .ok (.aload_n 0, 1) := by decide +kernel
theorem dX10_takeFrom_51 : decode cX10_takeFrom 51 = .ok (.getfield 21, 3) := by decide +kernel
theorem dX10_takeFrom_54 : decode cX10_takeFrom 54 = .ok (.iconst 0, 1) := by decide +kernel
theorem dX10_takeFrom_55 : decode cX10_takeFrom 55 = .ok (.bipush 16, 2) := by decide +kernel
theorem dX10_takeFrom_57 : decode cX10_takeFrom 57 = .ok (.invokestatic 36, 3) := by decide +kernel
theorem dX10_takeFrom_60 : decode cX10_takeFrom 60 = .ok (.aload_n 1, 1) := by decide +kernel
theorem dX10_takeFrom_61 : decode cX10_takeFrom 61 = .ok (.getfield 24, 3) := by decide +kernel
theorem dX10_takeFrom_64 : decode cX10_takeFrom 64 = .ok (.iconst 0, 1) := by decide +kernel
theorem dX10_takeFrom_65 : decode cX10_takeFrom 65 = .ok (.aload_n 0, 1) := by decide +kernel
theorem dX10_takeFrom_66 : decode cX10_takeFrom 66 = .ok (.getfield 24, 3) := by decide +kernel
theorem dX10_takeFrom_69 : decode cX10_takeFrom 69 = .ok (.iconst 0, 1) := by decide +kernel
theorem dX10_takeFrom_70 : decode cX10_takeFrom 70 = .ok (.sipush 144, 3) := by decide +kernel
theorem dX10_takeFrom_73 : decode cX10_takeFrom 73 = .ok (.invokestatic 36, 3) := by decide +kernel
theorem dX10_takeFrom_76 : decode cX10_takeFrom 76 = .ok (.aload_n 0, 1) := by decide +kernel
theorem dX10_takeFrom_77 : decode cX10_takeFrom 77 = .ok (.aload_n 1, 1) := by decide +kernel
theorem dX10_takeFrom_78 : decode cX10_takeFrom 78 = .ok (.getfield 28, 3) := by decide +kernel
theorem dX10_takeFrom_81 : decode cX10_takeFrom 81 = .ok (.putfield 28, 3) := by decide +kernel
theorem dX10_takeFrom_84 : decode cX10_takeFrom 84 = .ok (.return_, 1) := by decide +kernel
theorem dX11_init_0 : decode cX11_init 0 = .ok (.aload_n 0, 1) := by decide +kernel
theorem dX11_init_1 : decode cX11_init 1 = .ok (.invokespecial 3, 3) := by decide +kernel
theorem dX11_init_4 : decode cX11_init 4 = .ok (.aload_n 0, 1) := by decide +kernel
theorem dX11_init_5 : decode cX11_init 5 = .ok (.new 9, 3) := by decide +kernel
theorem dX11_init_8 : decode cX11_init 8 = .ok (.dup, 1) := by decide +kernel
theorem dX11_init_9 : decode cX11_init 9 = .ok (.invokespecial 11, 3) := by decide +kernel
theorem dX11_init_12 : decode cX11_init 12 = .ok (.putfield 12, 3) := by decide +kernel
theorem dX11_init_15 : decode cX11_init 15 = .ok (.aload_n 0, 1) := by decide +kernel
theorem dX11_init_16 : decode cX11_init 16 = .ok (.iconst 2, 1) := by decide +kernel
theorem dX11_init_17 : decode cX11_init 17 = .ok (.anewarray 9, 3) := by decide +kernel
theorem dX11_init_20 : decode cX11_init 20 = .ok (.putfield 16, 3) := by decide +kernel
theorem dX11_init_23 : decode cX11_init 23 = .ok (.aload_n 0, 1) := by decide +kernel
theorem dX11_init_24 : decode cX11_init 24 = .ok (.sipush 400, 3) := by decide +kernel
theorem dX11_init_27 : decode cX11_init 27 = .ok (.newarray .byte, 2) := by decide +kernel
theorem dX11_init_29 : decode cX11_init 29 = .ok (.putfield 20, 3) := by decide +kernel
theorem dX11_init_32 : decode cX11_init 32 = .ok (.aload_n 0, 1) := by decide +kernel
theorem dX11_init_33 : decode cX11_init 33 = .ok (.new 24, 3) := by decide +kernel
theorem dX11_init_36 : decode cX11_init 36 = .ok (.dup, 1) := by decide +kernel
theorem dX11_init_37 : decode cX11_init 37 = .ok (.invokespecial 26, 3) := by decide +kernel
theorem dX11_init_40 : decode cX11_init 40 = .ok (.putfield 27, 3) := by decide +kernel
theorem dX11_init_43 : decode cX11_init 43 = .ok (.aload_n 0, 1) := by decide +kernel
theorem dX11_init_44 : decode cX11_init 44 = .ok (.new 31, 3) := by decide +kernel
theorem dX11_init_47 : decode cX11_init 47 = .ok (.dup, 1) := by decide +kernel
theorem dX11_init_48 : decode cX11_init 48 = .ok (.invokespecial 33, 3) := by decide +kernel
theorem dX11_init_51 : decode cX11_init 51 = .ok (.putfield 34, 3) := by decide +kernel
theorem dX11_init_54 : decode cX11_init 54 = .ok (.aload_n 0, 1) := by decide +kernel
theorem dX11_init_55 : decode cX11_init 55 = .ok (.new 38, 3) := by decide +kernel
theorem dX11_init_58 : decode cX11_init 58 = .ok (.dup, 1) := by decide +kernel
theorem dX11_init_59 : decode cX11_init 59 = .ok (.aload_n 0, 1) := by decide +kernel
theorem dX11_init_60 : decode cX11_init 60 = .ok (.getfield 12, 3) := by decide +kernel
theorem dX11_init_63 : decode cX11_init 63 = .ok (.aload_n 0, 1) := by decide +kernel
theorem dX11_init_64 : decode cX11_init 64 = .ok (.getfield 34, 3) := by decide +kernel
theorem dX11_init_67 : decode cX11_init 67 = .ok (.invokespecial 40, 3) := by decide +kernel
theorem dX11_init_70 : decode cX11_init 70 = .ok (.putfield 43, 3) := by decide +kernel
theorem dX11_init_73 : decode cX11_init 73 = .ok (.aload_n 0, 1) := by decide +kernel
theorem dX11_init_74 : decode cX11_init 74 = .ok (.new 47, 3) := by decide +kernel
theorem dX11_init_77 : decode cX11_init 77 = .ok (.dup, 1) := by decide +kernel
theorem dX11_init_78 : decode cX11_init 78 = .ok (.aload_n 0, 1) := by decide +kernel
theorem dX11_init_79 : decode cX11_init 79 = .ok (.getfield 12, 3) := by decide +kernel
theorem dX11_init_82 : decode cX11_init 82 = .ok (.aload_n 0, 1) := by decide +kernel
theorem dX11_init_83 : decode cX11_init 83 = .ok (.getfield 43, 3) := by decide +kernel
theorem dX11_init_86 : decode cX11_init 86 = .ok (.invokespecial 49, 3) := by decide +kernel
theorem dX11_init_89 : decode cX11_init 89 = .ok (.putfield 52, 3) := by decide +kernel
theorem dX11_init_92 : decode cX11_init 92 = .ok (.aload_n 0, 1) := by decide +kernel
theorem dX11_init_93 : decode cX11_init 93 = .ok (.new 56, 3) := by decide +kernel
theorem dX11_init_96 : decode cX11_init 96 = .ok (.dup, 1) := by decide +kernel
theorem dX11_init_97 : decode cX11_init 97 = .ok (.invokespecial 58, 3) := by decide +kernel
theorem dX11_init_100 : decode cX11_init 100 = .ok (.putfield 59, 3) := by decide +kernel
theorem dX11_init_103 : decode cX11_init 103 = .ok (.aload_n 0, 1) := by decide +kernel
theorem dX11_init_104 : decode cX11_init 104 = .ok (.new 63, 3) := by decide +kernel
theorem dX11_init_107 : decode cX11_init 107 = .ok (.dup, 1) := by decide +kernel
theorem dX11_init_108 : decode cX11_init 108 = .ok (.invokespecial 65, 3) := by decide +kernel
theorem dX11_init_111 : decode cX11_init 111 = .ok (.putfield 66, 3) := by decide +kernel
theorem dX11_init_114 : decode cX11_init 114 = .ok (.aload_n 0, 1) := by decide +kernel
theorem dX11_init_115 : decode cX11_init 115 = .ok (.new 70, 3) := by decide +kernel
theorem dX11_init_118 : decode cX11_init 118 = .ok (.dup, 1) := by decide +kernel
theorem dX11_init_119 : decode cX11_init 119 = .ok (.invokespecial 72, 3) := by decide +kernel
theorem dX11_init_122 : decode cX11_init 122 = .ok (.putfield 73, 3) := by decide +kernel
theorem dX11_init_125 : decode cX11_init 125 = .ok (.aload_n 0, 1) := by decide +kernel
theorem dX11_init_126 : decode cX11_init 126 = .ok (.new 70, 3) := by decide +kernel
theorem dX11_init_129 : decode cX11_init 129 = .ok (.dup, 1) := by decide +kernel
theorem dX11_init_130 : decode cX11_init 130 = .ok (.invokespecial 72, 3) := by decide +kernel
theorem dX11_init_133 : decode cX11_init 133 = .ok (.putfield 77, 3) := by decide +kernel
theorem dX11_init_136 : decode cX11_init 136 = .ok (.aload_n 0, 1) := by decide +kernel
theorem dX11_init_137 : decode cX11_init 137 = .ok (.new 80, 3) := by decide +kernel
theorem dX11_init_140 : decode cX11_init 140 = .ok (.dup, 1) := by decide +kernel
theorem dX11_init_141 : decode cX11_init 141 = .ok (.invokespecial 82, 3) := by decide +kernel
theorem dX11_init_144 : decode cX11_init 144 = .ok (.putfield 83, 3) := by decide +kernel
theorem dX11_init_147 : decode cX11_init 147 = .ok (.aload_n 0, 1) := by decide +kernel
theorem dX11_init_148 : decode cX11_init 148 = .ok (.iconst 5, 1) := by decide +kernel
theorem dX11_init_149 : decode cX11_init 149 = .ok (.newarray .int, 2) := by decide +kernel
theorem dX11_init_151 : decode cX11_init 151 = .ok (.putfield 87, 3) := by decide +kernel
theorem dX11_init_154 : decode cX11_init 154 = .ok (.aload_n 0, 1) := by decide +kernel
theorem dX11_init_155 : decode cX11_init 155 = .ok (.iconst 0, 1) := by decide +kernel
theorem dX11_init_156 : decode cX11_init 156 = .ok (.putfield 91, 3) := by decide +kernel
theorem dX11_init_159 : decode cX11_init 159 = .ok (.aload_n 0, 1) := by decide +kernel
theorem dX11_init_160 : decode cX11_init 160 = .ok (.iconst (-1), 1) := by decide +kernel
theorem dX11_init_161 : decode cX11_init 161 = .ok (.putfield 95, 3) := by decide +kernel
theorem dX11_init_164 : decode cX11_init 164 = .ok (.aload_n 0, 1) := by decide +kernel
theorem dX11_init_165 : decode cX11_init 165 = .ok (.iconst 0, 1) := by decide +kernel
theorem dX11_init_166 : decode cX11_init 166 = .ok (.putfield 98, 3) := by decide +kernel
theorem dX11_init_169 : decode cX11_init 169 = .ok (.aload_n 0, 1) := by decide +kernel
theorem dX11_init_170 : decode cX11_init 170 = .ok (.iconst 0, 1) := by decide +kernel
theorem dX11_init_171 : decode cX11_init 171 = .ok (.putfield 101, 3) := by decide +kernel
theorem dX11_init_174 : decode cX11_init 174 = .ok (.return_, 1) := by decide +kernel
theorem dX11_breadth_0 : decode cX11_breadth 0 = .ok (.iload_n 1, 1) := by decide +kernel
theorem dX11_breadth_1 : decode cX11_breadth 1 = .ok (.iconst 0, 1) := by decide +kernel
theorem dX11_breadth_2 : decode cX11_breadth 2 = .ok (.bipush 26, 2) := by decide +kernel
theorem dX11_breadth_4 : decode cX11_breadth 4 = .ok (.invokestatic 104, 3) := by decide +kernel
theorem dX11_breadth_7 : decode cX11_breadth 7 = .ok (.ifCond .eq 13, 3) := by decide +kernel
theorem dX11_breadth_10 : decode cX11_breadth 10 = .ok (.iload_n 2, 1) := by decide +kernel
theorem dX11_breadth_11 : decode cX11_breadth 11 = .ok (.iconst 1, 1) := by decide +kernel
theorem dX11_breadth_12 : decode cX11_breadth 12 = .ok (.bipush 20, 2) := by decide +kernel
theorem dX11_breadth_14 : decode cX11_breadth 14 = .ok (.invokestatic 104, 3) := by decide +kernel
theorem dX11_breadth_17 : decode cX11_breadth 17 = .ok (.ifCond .ne 9, 3) := by decide +kernel
theorem dX11_breadth_20 : decode cX11_breadth 20 = .ok (.aload_n 0, 1) := by decide +kernel
theorem dX11_breadth_21 : decode cX11_breadth 21 = .ok (.iconst (-1), 1) := by decide +kernel
theorem dX11_breadth_22 : decode cX11_breadth 22 = .ok (.invokevirtual 108, 3) := by decide +kernel
theorem dX11_breadth_25 : decode cX11_breadth 25 = .ok (.ireturn, 1) := by decide +kernel
theorem dX11_breadth_26 : decode cX11_breadth 26 = .ok (.aload_n 0, 1) := by decide +kernel
theorem dX11_breadth_27 : decode cX11_breadth 27 = .ok (.getfield 12, 3) := by decide +kernel
theorem dX11_breadth_30 : decode cX11_breadth 30 = .ok (.getfield 112, 3) := by decide +kernel
theorem dX11_breadth_33 : decode cX11_breadth 33 = .ok (.iload_n 1, 1) := by decide +kernel
theorem dX11_breadth_34 : decode cX11_breadth 34 = .ok (.iaload, 1) := by decide +kernel
theorem dX11_breadth_35 : decode cX11_breadth 35 = .ok (.istore_n 3, 1) := by decide +kernel
theorem dX11_breadth_36 : decode cX11_breadth 36 = .ok (.aload_n 0, 1) := by decide +kernel
theorem dX11_breadth_37 : decode cX11_breadth 37 = .ok (.getfield 12, 3) := by decide +kernel
theorem dX11_breadth_40 : decode cX11_breadth 40 = .ok (.getfield 112, 3) := by decide +kernel
theorem dX11_breadth_43 : decode cX11_breadth 43 = .ok (.iload_n 1, 1) := by decide +kernel
theorem dX11_breadth_44 : decode cX11_breadth 44 = .ok (.iload_n 2, 1) := by decide +kernel
theorem dX11_breadth_45 : decode cX11_breadth 45 = .ok (.iastore, 1) := by decide +kernel
theorem dX11_breadth_46 : decode cX11_breadth 46 = .ok (.aload_n 0, 1) := by decide +kernel
theorem dX11_breadth_47 : decode cX11_breadth 47 = .ok (.getfield 73, 3) := by decide +kernel
theorem dX11_breadth_50 : decode cX11_breadth 50 = .ok (.invokevirtual 115, 3) := by decide +kernel
theorem dX11_breadth_53 : decode cX11_breadth 53 = .ok (.aload_n 0, 1) := by decide +kernel
theorem dX11_breadth_54 : decode cX11_breadth 54 = .ok (.iload_n 3, 1) := by decide +kernel
theorem dX11_breadth_55 : decode cX11_breadth 55 = .ok (.invokevirtual 118, 3) := by decide +kernel
theorem dX11_breadth_58 : decode cX11_breadth 58 = .ok (.ireturn, 1) := by decide +kernel
theorem dX11_column_0 : decode cX11_column 0 = .ok (.iload_n 1, 1) := by decide +kernel
theorem dX11_column_1 : decode cX11_column 1 = .ok (.bipush 10, 2) := by decide +kernel
theorem dX11_column_3 : decode cX11_column 3 = .ok (.sipush 400, 3) := by decide +kernel
theorem dX11_column_6 : decode cX11_column 6 = .ok (.invokestatic 104, 3) := by decide +kernel
theorem dX11_column_9 : decode cX11_column 9 = .ok (.ifCond .eq 12, 3) := by decide +kernel
theorem dX11_column_12 : decode cX11_column 12 = .ok (.iload_n 2, 1) := by decide +kernel
theorem dX11_column_13 : decode cX11_column 13 = .ok (.iconst 1, 1) := by decide +kernel
theorem dX11_column_14 : decode cX11_column 14 = .ok (.iconst 4, 1) := by decide +kernel
theorem dX11_column_15 : decode cX11_column 15 = .ok (.invokestatic 104, 3) := by decide +kernel
theorem dX11_column_18 : decode cX11_column 18 = .ok (.ifCond .ne 9, 3) := by decide +kernel
theorem dX11_column_21 : decode cX11_column 21 = .ok (.aload_n 0, 1) := by decide +kernel
theorem dX11_column_22 : decode cX11_column 22 = .ok (.iconst (-1), 1) := by decide +kernel
theorem dX11_column_23 : decode cX11_column 23 = .ok (.invokevirtual 108, 3) := by decide +kernel
theorem dX11_column_26 : decode cX11_column 26 = .ok (.ireturn, 1) := by decide +kernel
theorem dX11_column_27 : decode cX11_column 27 = .ok (.aload_n 0, 1) := by decide +kernel
theorem dX11_column_28 : decode cX11_column 28 = .ok (.getfield 12, 3) := by decide +kernel
theorem dX11_column_31 : decode cX11_column 31 = .ok (.getfield 121, 3) := by decide +kernel
theorem dX11_column_34 : decode cX11_column 34 = .ok (.getfield 124, 3) := by decide +kernel
theorem dX11_column_37 : decode cX11_column 37 = .ok (.ifCond .le 10, 3) := by decide +kernel
theorem dX11_column_40 : decode cX11_column 40 = .ok (.aload_n 0, 1) := by decide +kernel
theorem dX11_column_41 : decode cX11_column 41 = .ok (.bipush (-3), 2) := by decide +kernel
theorem dX11_column_43 : decode cX11_column 43 = .ok (.invokevirtual 108, 3) := by decide +kernel
theorem dX11_column_46 : decode cX11_column 46 = .ok (.ireturn, 1) := by decide +kernel
theorem dX11_column_47 : decode cX11_column 47 = .ok (.aload_n 0, 1) := by decide +kernel
theorem dX11_column_48 : decode cX11_column 48 = .ok (.getfield 12, 3) := by decide +kernel
theorem dX11_column_51 : decode cX11_column 51 = .ok (.iload_n 1, 1) := by decide +kernel
theorem dX11_column_52 : decode cX11_column 52 = .ok (.putfield 127, 3) := by decide +kernel
theorem dX11_column_55 : decode cX11_column 55 = .ok (.aload_n 0, 1) := by decide +kernel
theorem dX11_column_56 : decode cX11_column 56 = .ok (.getfield 12, 3) := by decide +kernel
theorem dX11_column_59 : decode cX11_column 59 = .ok (.iload_n 2, 1) := by decide +kernel
theorem dX11_column_60 : decode cX11_column 60 = .ok (.putfield 130, 3) := by decide +kernel
theorem dX11_column_63 : decode cX11_column 63 = .ok (.aload_n 0, 1) := by decide +kernel
theorem dX11_column_64 : decode cX11_column 64 = .ok (.getfield 73, 3) := by decide +kernel
theorem dX11_column_67 : decode cX11_column 67 = .ok (.invokevirtual 115, 3) := by decide +kernel
theorem dX11_column_70 : decode cX11_column 70 = .ok (.aload_n 0, 1) := by decide +kernel
theorem dX11_column_71 : decode cX11_column 71 = .ok (.iconst 0, 1) := by decide +kernel
theorem dX11_column_72 : decode cX11_column 72 = .ok (.invokevirtual 118, 3) := by decide +kernel
theorem dX11_column_75 : decode cX11_column 75 = .ok (.ireturn, 1) := by decide +kernel
theorem dX11_size_0 : decode cX11_size 0 = .ok (.aload_n 0, 1) := by decide +kernel
theorem dX11_size_1 : decode cX11_size 1 = .ok (.aload_n 0, 1) := by decide +kernel
theorem dX11_size_2 : decode cX11_size 2 = .ok (.iload_n 1, 1) := by decide +kernel
theorem dX11_size_3 : decode cX11_size 3 = .ok (.invokevirtual 133, 3) := by decide +kernel
theorem dX11_size_6 : decode cX11_size 6 = .ok (.invokevirtual 136, 3) := by decide +kernel
theorem dX11_size_9 : decode cX11_size 9 = .ok (.ireturn, 1) := by decide +kernel
theorem dX11_worth_0 : decode cX11_worth 0 = .ok (.iload_n 1, 1) := by decide +kernel
theorem dX11_worth_1 : decode cX11_worth 1 = .ok (.iconst 0, 1) := by decide +kernel
theorem dX11_worth_2 : decode cX11_worth 2 = .ok (.bipush 7, 2) := by decide +kernel
theorem dX11_worth_4 : decode cX11_worth 4 = .ok (.invokestatic 104, 3) := by decide +kernel
theorem dX11_worth_7 : decode cX11_worth 7 = .ok (.ifCond .eq 13, 3) := by decide +kernel
theorem dX11_worth_10 : decode cX11_worth 10 = .ok (.iload_n 2, 1) := by decide +kernel
theorem dX11_worth_11 : decode cX11_worth 11 = .ok (.iconst 0, 1) := by decide +kernel
theorem dX11_worth_12 : decode cX11_worth 12 = .ok (.bipush 99, 2) := by decide +kernel
theorem dX11_worth_14 : decode cX11_worth 14 = .ok (.invokestatic 104, 3) := by decide +kernel
theorem dX11_worth_17 : decode cX11_worth 17 = .ok (.ifCond .ne 9, 3) := by decide +kernel
theorem dX11_worth_20 : decode cX11_worth 20 = .ok (.aload_n 0, 1) := by decide +kernel
theorem dX11_worth_21 : decode cX11_worth 21 = .ok (.iconst (-1), 1) := by decide +kernel
theorem dX11_worth_22 : decode cX11_worth 22 = .ok (.invokevirtual 108, 3) := by decide +kernel
theorem dX11_worth_25 : decode cX11_worth 25 = .ok (.ireturn, 1) := by decide +kernel
theorem dX11_worth_26 : decode cX11_worth 26 = .ok (.aload_n 0, 1) := by decide +kernel
theorem dX11_worth_27 : decode cX11_worth 27 = .ok (.getfield 12, 3) := by decide +kernel
theorem dX11_worth_30 : decode cX11_worth 30 = .ok (.getfield 139, 3) := by decide +kernel
theorem dX11_worth_33 : decode cX11_worth 33 = .ok (.iload_n 1, 1) := by decide +kernel
theorem dX11_worth_34 : decode cX11_worth 34 = .ok (.iaload, 1) := by decide +kernel
theorem dX11_worth_35 : decode cX11_worth 35 = .ok (.istore_n 3, 1) := by decide +kernel
theorem dX11_worth_36 : decode cX11_worth 36 = .ok (.aload_n 0, 1) := by decide +kernel
theorem dX11_worth_37 : decode cX11_worth 37 = .ok (.getfield 12, 3) := by decide +kernel
theorem dX11_worth_40 : decode cX11_worth 40 = .ok (.getfield 139, 3) := by decide +kernel
theorem dX11_worth_43 : decode cX11_worth 43 = .ok (.iload_n 1, 1) := by decide +kernel
theorem dX11_worth_44 : decode cX11_worth 44 = .ok (.iload_n 2, 1) := by decide +kernel
theorem dX11_worth_45 : decode cX11_worth 45 = .ok (.iastore, 1) := by decide +kernel
theorem dX11_worth_46 : decode cX11_worth 46 = .ok (.aload_n 0, 1) := by decide +kernel
theorem dX11_worth_47 : decode cX11_worth 47 = .ok (.iload_n 3, 1) := by decide +kernel
theorem dX11_worth_48 : decode cX11_worth 48 = .ok (.invokevirtual 118, 3) := by decide +kernel
theorem dX11_worth_51 : decode cX11_worth 51 = .ok (.ireturn, 1) := by decide +kernel
theorem dX11_terms_0 : decode cX11_terms 0 = .ok (.iload_n 1, 1) := by decide +kernel
theorem dX11_terms_1 : decode cX11_terms 1 = .ok (.iconst 0, 1) := by decide +kernel
theorem dX11_terms_2 : decode cX11_terms 2 = .ok (.iconst 1, 1) := by decide +kernel
theorem dX11_terms_3 : decode cX11_terms 3 = .ok (.invokestatic 104, 3) := by decide +kernel
theorem dX11_terms_6 : decode cX11_terms 6 = .ok (.ifCond .eq 23, 3) := by decide +kernel
theorem dX11_terms_9 : decode cX11_terms 9 = .ok (.iload_n 2, 1) := by decide +kernel
theorem dX11_terms_10 : decode cX11_terms 10 = .ok (.iconst 0, 1) := by decide +kernel
theorem dX11_terms_11 : decode cX11_terms 11 = .ok (.iload_n 1, 1) := by decide +kernel
theorem dX11_terms_12 : decode cX11_terms 12 = .ok (.ifCond .ne 9, 3) := by decide +kernel
theorem dX11_terms_15 : decode cX11_terms 15 = .ok (.sipush 999, 3) := by decide +kernel
theorem dX11_terms_18 : decode cX11_terms 18 = .ok (.goto 5, 3) := by decide +kernel
theorem dX11_terms_21 : decode cX11_terms 21 = .ok (.bipush 9, 2) := by decide +kernel
theorem dX11_terms_23 : decode cX11_terms 23 = .ok (.invokestatic 104, 3) := by decide +kernel
theorem dX11_terms_26 : decode cX11_terms 26 = .ok (.ifCond .ne 9, 3) := by decide +kernel
theorem dX11_terms_29 : decode cX11_terms 29 = .ok (.aload_n 0, 1) := by decide +kernel
theorem dX11_terms_30 : decode cX11_terms 30 = .ok (.iconst (-1), 1) := by decide +kernel
theorem dX11_terms_31 : decode cX11_terms 31 = .ok (.invokevirtual 108, 3) := by decide +kernel
theorem dX11_terms_34 : decode cX11_terms 34 = .ok (.ireturn, 1) := by decide +kernel
theorem dX11_terms_35 : decode cX11_terms 35 = .ok (.aload_n 0, 1) := by decide +kernel
theorem dX11_terms_36 : decode cX11_terms 36 = .ok (.getfield 12, 3) := by decide +kernel
theorem dX11_terms_39 : decode cX11_terms 39 = .ok (.getfield 142, 3) := by decide +kernel
theorem dX11_terms_42 : decode cX11_terms 42 = .ok (.iload_n 1, 1) := by decide +kernel
theorem dX11_terms_43 : decode cX11_terms 43 = .ok (.iaload, 1) := by decide +kernel
theorem dX11_terms_44 : decode cX11_terms 44 = .ok (.istore_n 3, 1) := by decide +kernel
theorem dX11_terms_45 : decode cX11_terms 45 = .ok (.aload_n 0, 1) := by decide +kernel
theorem dX11_terms_46 : decode cX11_terms 46 = .ok (.getfield 12, 3) := by decide +kernel
theorem dX11_terms_49 : decode cX11_terms 49 = .ok (.getfield 142, 3) := by decide +kernel
theorem dX11_terms_52 : decode cX11_terms 52 = .ok (.iload_n 1, 1) := by decide +kernel
theorem dX11_terms_53 : decode cX11_terms 53 = .ok (.iload_n 2, 1) := by decide +kernel
theorem dX11_terms_54 : decode cX11_terms 54 = .ok (.iastore, 1) := by decide +kernel
theorem dX11_terms_55 : decode cX11_terms 55 = .ok (.aload_n 0, 1) := by decide +kernel
theorem dX11_terms_56 : decode cX11_terms 56 = .ok (.iload_n 3, 1) := by decide +kernel
theorem dX11_terms_57 : decode cX11_terms 57 = .ok (.invokevirtual 118, 3) := by decide +kernel
theorem dX11_terms_60 : decode cX11_terms 60 = .ok (.ireturn, 1) := by decide +kernel
theorem dX11_feed_0 : decode cX11_feed 0 = .ok (.aload_n 0, 1) := by decide +kernel
theorem dX11_feed_1 : decode cX11_feed 1 = .ok (.getfield 91, 3) := by decide +kernel
theorem dX11_feed_4 : decode cX11_feed 4 = .ok (.bipush 20, 2) := by decide +kernel
theorem dX11_feed_6 : decode cX11_feed 6 = .ok (.iadd, 1) := by decide +kernel
theorem dX11_feed_7 : decode cX11_feed 7 = .ok (.sipush 400, 3) := by decide +kernel
theorem dX11_feed_10 : decode cX11_feed 10 = .ok (.if_icmp .le 5, 3) := by decide +kernel
theorem dX11_feed_13 : decode cX11_feed 13 = .ok (.iconst (-1), 1) := by decide +kernel
theorem dX11_feed_14 : decode cX11_feed 14 = .ok (.ireturn, 1) := by decide +kernel
theorem dX11_feed_15 : decode cX11_feed 15 = .ok (.aload_n 0, 1) := by decide +kernel
theorem dX11_feed_16 : decode cX11_feed 16 = .ok (.iload_n 1, 1) := by decide +kernel
theorem dX11_feed_17 : decode cX11_feed 17 = .ok (.invokevirtual 145, 3) := by decide +kernel
theorem dX11_feed_20 : decode cX11_feed 20 = .ok (.aload_n 0, 1) := by decide +kernel
theorem dX11_feed_21 : decode cX11_feed 21 = .ok (.iload_n 2, 1) := by decide +kernel
theorem dX11_feed_22 : decode cX11_feed 22 = .ok (.invokevirtual 145, 3) := by decide +kernel
theorem dX11_feed_25 : decode cX11_feed 25 = .ok (.aload_n 0, 1) := by decide +kernel
theorem dX11_feed_26 : decode cX11_feed 26 = .ok (.iload_n 3, 1) := by decide +kernel
theorem dX11_feed_27 : decode cX11_feed 27 = .ok (.invokevirtual 145, 3) := by decide +kernel
theorem dX11_feed_30 : decode cX11_feed 30 = .ok (.aload_n 0, 1) := by decide +kernel
theorem dX11_feed_31 : decode cX11_feed 31 = .ok (.iload 4, 2) := by decide +kernel
theorem dX11_feed_33 : decode cX11_feed 33 = .ok (.invokevirtual 145, 3) := by decide +kernel
theorem dX11_feed_36 : decode cX11_feed 36 = .ok (.aload_n 0, 1) := by decide +kernel
theorem dX11_feed_37 : decode cX11_feed 37 = .ok (.iload 5, 2) := by decide +kernel
theorem dX11_feed_39 : decode cX11_feed 39 = .ok (.invokevirtual 145, 3) := by decide +kernel
theorem dX11_feed_42 : decode cX11_feed 42 = .ok (.aload_n 0, 1) := by decide +kernel
theorem dX11_feed_43 : decode cX11_feed 43 = .ok (.getfield 91, 3) := by decide +kernel
theorem dX11_feed_46 : decode cX11_feed 46 = .ok (.ireturn, 1) := by decide +kernel
theorem dX11_end_0 : decode cX11_end 0 = .ok (.iload_n 1, 1) := by decide +kernel
theorem dX11_end_1 : decode cX11_end 1 = .ok (.iconst 0, 1) := by decide +kernel
theorem dX11_end_2 : decode cX11_end 2 = .ok (.aload_n 0, 1) := by decide +kernel
theorem dX11_end_3 : decode cX11_end 3 = .ok (.getfield 91, 3) := by decide +kernel
theorem dX11_end_6 : decode cX11_end 6 = .ok (.invokestatic 104, 3) := by decide +kernel
theorem dX11_end_9 : decode cX11_end 9 = .ok (.ifCond .ne 5, 3) := by decide +kernel
theorem dX11_end_12 : decode cX11_end 12 = .ok (.iconst (-1), 1) := by decide +kernel
theorem dX11_end_13 : decode cX11_end 13 = .ok (.ireturn, 1) := by decide +kernel
theorem dX11_end_14 : decode cX11_end 14 = .ok (.aload_n 0, 1) := by decide +kernel
theorem dX11_end_15 : decode cX11_end 15 = .ok (.iload_n 1, 1) := by decide +kernel
theorem dX11_end_16 : decode cX11_end 16 = .ok (.putfield 91, 3) := by decide +kernel
theorem dX11_end_19 : decode cX11_end 19 = .ok (.iload_n 1, 1) := by decide +kernel
theorem dX11_end_20 : decode cX11_end 20 = .ok (.ireturn, 1) := by decide +kernel
theorem dX11_word_0 : decode cX11_word 0 = .ok (.iload_n 1, 1) := by decide +kernel
theorem dX11_word_1 : decode cX11_word 1 = .ok (.iconst 0, 1) := by decide +kernel
theorem dX11_word_2 : decode cX11_word 2 = .ok (.bipush 7, 2) := by decide +kernel
theorem dX11_word_4 : decode cX11_word 4 = .ok (.invokestatic 104, 3) := by decide +kernel
theorem dX11_word_7 : decode cX11_word 7 = .ok (.ifCond .eq 23, 3) := by decide +kernel
theorem dX11_word_10 : decode cX11_word 10 = .ok (.iload_n 2, 1) := by decide +kernel
theorem dX11_word_11 : decode cX11_word 11 = .ok (.iconst 0, 1) := by decide +kernel
theorem dX11_word_12 : decode cX11_word 12 = .ok (.bipush 99, 2) := by decide +kernel
theorem dX11_word_14 : decode cX11_word 14 = .ok (.invokestatic 104, 3) := by decide +kernel
theorem dX11_word_17 : decode cX11_word 17 = .ok (.ifCond .eq 13, 3) := by decide +kernel
theorem dX11_word_20 : decode cX11_word 20 = .ok (.iload_n 3, 1) := by decide +kernel
theorem dX11_word_21 : decode cX11_word 21 = .ok (.iconst 0, 1) := by decide +kernel
theorem dX11_word_22 : decode cX11_word 22 = .ok (.bipush 10, 2) := by decide +kernel
theorem dX11_word_24 : decode cX11_word 24 = .ok (.invokestatic 104, 3) := by decide +kernel
theorem dX11_word_27 : decode cX11_word 27 = .ok (.ifCond .ne 9, 3) := by decide +kernel
theorem dX11_word_30 : decode cX11_word 30 = .ok (.aload_n 0, 1) := by decide +kernel
theorem dX11_word_31 : decode cX11_word 31 = .ok (.iconst (-1), 1) := by decide +kernel
theorem dX11_word_32 : decode cX11_word 32 = .ok (.invokevirtual 108, 3) := by decide +kernel
theorem dX11_word_35 : decode cX11_word 35 = .ok (.ireturn, 1) := by decide +kernel
theorem dX11_word_36 : decode cX11_word 36 = .ok (.aload_n 0, 1) := by decide +kernel
theorem dX11_word_37 : decode cX11_word 37 = .ok (.getfield 91, 3) := by decide +kernel
theorem dX11_word_40 : decode cX11_word 40 = .ok (.istore 4, 2) := by decide +kernel
theorem dX11_word_42 : decode cX11_word 42 = .ok (.aload_n 0, 1) := by decide +kernel
theorem dX11_word_43 : decode cX11_word 43 = .ok (.iconst 0, 1) := by decide +kernel
theorem dX11_word_44 : decode cX11_word 44 = .ok (.putfield 91, 3) := by decide +kernel
theorem dX11_word_47 : decode cX11_word 47 = .ok (.aload_n 0, 1) := by decide +kernel
theorem dX11_word_48 : decode cX11_word 48 = .ok (.getfield 12, 3) := by decide +kernel
theorem dX11_word_51 : decode cX11_word 51 = .ok (.getfield 149, 3) := by decide +kernel
theorem dX11_word_54 : decode cX11_word 54 = .ok (.astore 5, 2) := by decide +kernel
theorem dX11_word_56 : decode cX11_word 56 = .ok (.aload 5, 2) := by decide +kernel
theorem dX11_word_58 : decode cX11_word 58 = .ok (.iload_n 1, 1) := by decide +kernel
theorem dX11_word_59 : decode cX11_word 59 = .ok (.invokevirtual 153, 3) := by decide +kernel
theorem dX11_word_62 : decode cX11_word 62 = .ok (.iconst 3, 1) := by decide +kernel
theorem dX11_word_63 : decode cX11_word 63 = .ok (.if_icmp .lt 10, 3) := by decide +kernel
theorem dX11_word_66 : decode cX11_word 66 = .ok (.aload_n 0, 1) := by decide +kernel
theorem dX11_word_67 : decode cX11_word 67 = .ok (.bipush (-3), 2) := by decide +kernel
theorem dX11_word_69 : decode cX11_word 69 = .ok (.invokevirtual 108, 3) := by decide +kernel
theorem dX11_word_72 : decode cX11_word 72 = .ok (.ireturn, 1) := by decide +kernel
theorem dX11_word_73 : decode cX11_word 73 = .ok (.aload 5, 2) := by decide +kernel
theorem dX11_word_75 : decode cX11_word 75 = .ok (.getfield 158, 3) := by decide +kernel
theorem dX11_word_78 : decode cX11_word 78 = .ok (.bipush 16, 2) := by decide +kernel
theorem dX11_word_80 : decode cX11_word 80 = .ok (.if_icmp .lt 10, 3) := by decide +kernel
theorem dX11_word_83 : decode cX11_word 83 = .ok (.aload_n 0, 1) := by decide +kernel
theorem dX11_word_84 : decode cX11_word 84 = .ok (.bipush (-5), 2) := by decide +kernel
theorem dX11_word_86 : decode cX11_word 86 = .ok (.invokevirtual 108, 3) := by decide +kernel
theorem dX11_word_89 : decode cX11_word 89 = .ok (.ireturn, 1) := by decide +kernel
theorem dX11_word_90 : decode cX11_word 90 = .ok (.aload 5, 2) := by decide +kernel
theorem dX11_word_92 : decode cX11_word 92 = .ok (.aload_n 0, 1) := by decide +kernel
theorem dX11_word_93 : decode cX11_word 93 = .ok (.getfield 20, 3) := by decide +kernel
theorem dX11_word_96 : decode cX11_word 96 = .ok (.iload 4, 2) := by decide +kernel
theorem dX11_word_98 : decode cX11_word 98 = .ok (.invokevirtual 159, 3) := by decide +kernel
theorem dX11_word_101 : decode cX11_word 101 = .ok (.ifCond .ne 10, 3) := by decide +kernel
theorem dX11_word_104 : decode cX11_word 104 = .ok (.aload_n 0, 1) := by decide +kernel
theorem dX11_word_105 : decode cX11_word 105 = .ok (.bipush (-6), 2) := by decide +kernel
theorem dX11_word_107 : decode cX11_word 107 = .ok (.invokevirtual 108, 3) := by decide +kernel
theorem dX11_word_110 : decode cX11_word 110 = .ok (.ireturn, 1) := by decide +kernel
theorem dX11_word_111 : decode cX11_word 111 = .ok (.aload_n 0, 1) := by decide +kernel
theorem dX11_word_112 : decode cX11_word 112 = .ok (.aload 5, 2) := by decide +kernel
theorem dX11_word_114 : decode cX11_word 114 = .ok (.iload_n 1, 1) := by decide +kernel
theorem dX11_word_115 : decode cX11_word 115 = .ok (.iload_n 2, 1) := by decide +kernel
theorem dX11_word_116 : decode cX11_word 116 = .ok (.iload_n 3, 1) := by decide +kernel
theorem dX11_word_117 : decode cX11_word 117 = .ok (.invokevirtual 163, 3) := by decide +kernel
theorem dX11_word_120 : decode cX11_word 120 = .ok (.invokevirtual 118, 3) := by decide +kernel
theorem dX11_word_123 : decode cX11_word 123 = .ok (.ireturn, 1) := by decide +kernel
theorem dX11_at_0 : decode cX11_at 0 = .ok (.aload_n 0, 1) := by decide +kernel
theorem dX11_at_1 : decode cX11_at 1 = .ok (.getfield 12, 3) := by decide +kernel
theorem dX11_at_4 : decode cX11_at 4 = .ok (.getfield 149, 3) := by decide +kernel
theorem dX11_at_7 : decode cX11_at 7 = .ok (.astore_n 3, 1) := by decide +kernel
theorem dX11_at_8 : decode cX11_at 8 = .ok (.aload_n 3, 1) := by decide +kernel
theorem dX11_at_9 : decode cX11_at 9 = .ok (.iload_n 1, 1) := by decide +kernel
theorem dX11_at_10 : decode cX11_at 10 = .ok (.invokevirtual 167, 3) := by decide +kernel
theorem dX11_at_13 : decode cX11_at 13 = .ok (.ifCond .ne 5, 3) := by decide +kernel
theorem dX11_at_16 : decode cX11_at 16 = .ok (.iconst (-1), 1) := by decide +kernel
theorem dX11_at_17 : decode cX11_at 17 = .ok (.ireturn, 1) := by decide +kernel
theorem dX11_at_18 : decode cX11_at 18 = .ok (.iload_n 2, 1) := by decide +kernel
theorem dX11_at_19 : decode cX11_at 19 = .ok (.tableswitch 135 0 7 #[45, 52, 59, 66, 73, 89, 95, 111], 45) := by decide +kernel
theorem dX11_at_64 : decode cX11_at 64 = .ok (.aload_n 3, 1) := by decide +kernel
theorem dX11_at_65 : decode cX11_at 65 = .ok (.getfield 171, 3) := by decide +kernel
theorem dX11_at_68 : decode cX11_at 68 = .ok (.iload_n 1, 1) := by decide +kernel
theorem dX11_at_69 : decode cX11_at 69 = .ok (.iaload, 1) := by decide +kernel
theorem dX11_at_70 : decode cX11_at 70 = .ok (.ireturn, 1) := by decide +kernel
theorem dX11_at_71 : decode cX11_at 71 = .ok (.aload_n 3, 1) := by decide +kernel
theorem dX11_at_72 : decode cX11_at 72 = .ok (.getfield 174, 3) := by decide +kernel
theorem dX11_at_75 : decode cX11_at 75 = .ok (.iload_n 1, 1) := by decide +kernel
theorem dX11_at_76 : decode cX11_at 76 = .ok (.iaload, 1) := by decide +kernel
theorem dX11_at_77 : decode cX11_at 77 = .ok (.ireturn, 1) := by decide +kernel
theorem dX11_at_78 : decode cX11_at 78 = .ok (.aload_n 3, 1) := by decide +kernel
theorem dX11_at_79 : decode cX11_at 79 = .ok (.getfield 177, 3) := by decide +kernel
theorem dX11_at_82 : decode cX11_at 82 = .ok (.iload_n 1, 1) := by decide +kernel
theorem dX11_at_83 : decode cX11_at 83 = .ok (.iaload, 1) := by decide +kernel
theorem dX11_at_84 : decode cX11_at 84 = .ok (.ireturn, 1) := by decide +kernel
theorem dX11_at_85 : decode cX11_at 85 = .ok (.aload_n 3, 1) := by decide +kernel
theorem dX11_at_86 : decode cX11_at 86 = .ok (.getfield 180, 3) := by decide +kernel
theorem dX11_at_89 : decode cX11_at 89 = .ok (.iload_n 1, 1) := by decide +kernel
theorem dX11_at_90 : decode cX11_at 90 = .ok (.iaload, 1) := by decide +kernel
theorem dX11_at_91 : decode cX11_at 91 = .ok (.ireturn, 1) := by decide +kernel
theorem dX11_at_92 : decode cX11_at 92 = .ok (.aload_n 0, 1) := by decide +kernel
theorem dX11_at_93 : decode cX11_at 93 = .ok (.getfield 12, 3) := by decide +kernel
theorem dX11_at_96 : decode cX11_at 96 = .ok (.iload_n 1, 1) := by decide +kernel
theorem dX11_at_97 : decode cX11_at 97 = .ok (.aload_n 0, 1) := by decide +kernel
theorem dX11_at_98 : decode cX11_at 98 = .ok (.getfield 12, 3) := by decide +kernel
theorem dX11_at_101 : decode cX11_at 101 = .ok (.getfield 183, 3) := by decide +kernel
theorem dX11_at_104 : decode cX11_at 104 = .ok (.invokevirtual 186, 3) := by decide +kernel
theorem dX11_at_107 : decode cX11_at 107 = .ok (.ireturn, 1) := by decide +kernel
theorem dX11_at_108 : decode cX11_at 108 = .ok (.aload_n 3, 1) := by decide +kernel
theorem dX11_at_109 : decode cX11_at 109 = .ok (.iload_n 1, 1) := by decide +kernel
theorem dX11_at_110 : decode cX11_at 110 = .ok (.invokevirtual 190, 3) := by decide +kernel
theorem dX11_at_113 : decode cX11_at 113 = .ok (.ireturn, 1) := by decide +kernel
theorem dX11_at_114 : decode cX11_at 114 = .ok (.aload_n 0, 1) := by decide +kernel
theorem dX11_at_115 : decode cX11_at 115 = .ok (.getfield 43, 3) := by decide +kernel
theorem dX11_at_118 : decode cX11_at 118 = .ok (.iload_n 1, 1) := by decide +kernel
theorem dX11_at_119 : decode cX11_at 119 = .ok (.aload_n 0, 1) := by decide +kernel
theorem dX11_at_120 : decode cX11_at 120 = .ok (.getfield 12, 3) := by decide +kernel
theorem dX11_at_123 : decode cX11_at 123 = .ok (.getfield 183, 3) := by decide +kernel
theorem dX11_at_126 : decode cX11_at 126 = .ok (.invokevirtual 193, 3) := by decide +kernel
theorem dX11_at_129 : decode cX11_at 129 = .ok (.ireturn, 1) := by decide +kernel
theorem dX11_at_130 : decode cX11_at 130 = .ok (.aload_n 0, 1) := by decide +kernel
theorem dX11_at_131 : decode cX11_at 131 = .ok (.getfield 43, 3) := by decide +kernel
theorem dX11_at_134 : decode cX11_at 134 = .ok (.iload_n 1, 1) := by decide +kernel
theorem dX11_at_135 : decode cX11_at 135 = .ok (.aload_n 0, 1) := by decide +kernel
theorem dX11_at_136 : decode cX11_at 136 = .ok (.getfield 12, 3) := by decide +kernel
theorem dX11_at_139 : decode cX11_at 139 = .ok (.getfield 183, 3) := by decide +kernel
theorem dX11_at_142 : decode cX11_at 142 = .ok (.invokevirtual 196, 3) := by decide +kernel
theorem dX11_at_145 : decode cX11_at 145 = .ok (.ifCond .eq 7, 3) := by decide +kernel
theorem dX11_at_148 : decode cX11_at 148 = .ok (.iconst 1, 1) := by decide +kernel
theorem dX11_at_149 : decode cX11_at 149 = .ok (.goto 4, 3) := by decide +kernel
theorem dX11_at_152 : decode cX11_at 152 = .ok (.iconst 0, 1) := by decide +kernel
theorem dX11_at_153 : decode cX11_at 153 = .ok (.ireturn, 1) := by decide +kernel
theorem dX11_at_154 : decode cX11_at 154 = .ok (.iconst (-1), 1) := by decide +kernel
theorem dX11_at_155 : decode cX11_at 155 = .ok (.ireturn, 1) := by decide +kernel
theorem dX11_law_0 : decode cX11_law 0 = .ok (.aload_n 0, 1) := by decide +kernel
theorem dX11_law_1 : decode cX11_law 1 = .ok (.getfield 91, 3) := by decide +kernel
theorem dX11_law_4 : decode cX11_law 4 = .ok (.istore_n 1, 1) := by decide +kernel
theorem dX11_law_5 : decode cX11_law 5 = .ok (.aload_n 0, 1) := by decide +kernel
theorem dX11_law_6 : decode cX11_law 6 = .ok (.iconst 0, 1) := by decide +kernel
theorem dX11_law_7 : decode cX11_law 7 = .ok (.putfield 91, 3) := by decide +kernel
theorem dX11_law_10 : decode cX11_law 10 = .ok (.aload_n 0, 1) := by decide +kernel
theorem dX11_law_11 : decode cX11_law 11 = .ok (.getfield 12, 3) := by decide +kernel
theorem dX11_law_14 : decode cX11_law 14 = .ok (.getfield 200, 3) := by decide +kernel
theorem dX11_law_17 : decode cX11_law 17 = .ok (.bipush 6, 2) := by decide +kernel
theorem dX11_law_19 : decode cX11_law 19 = .ok (.if_icmp .lt 10, 3) := by decide +kernel
theorem dX11_law_22 : decode cX11_law 22 = .ok (.aload_n 0, 1) := by decide +kernel
theorem dX11_law_23 : decode cX11_law 23 = .ok (.bipush (-5), 2) := by decide +kernel
theorem dX11_law_25 : decode cX11_law 25 = .ok (.invokevirtual 108, 3) := by decide +kernel
theorem dX11_law_28 : decode cX11_law 28 = .ok (.ireturn, 1) := by decide +kernel
theorem dX11_law_29 : decode cX11_law 29 = .ok (.aload_n 0, 1) := by decide +kernel
theorem dX11_law_30 : decode cX11_law 30 = .ok (.getfield 27, 3) := by decide +kernel
theorem dX11_law_33 : decode cX11_law 33 = .ok (.aload_n 0, 1) := by decide +kernel
theorem dX11_law_34 : decode cX11_law 34 = .ok (.getfield 20, 3) := by decide +kernel
theorem dX11_law_37 : decode cX11_law 37 = .ok (.iload_n 1, 1) := by decide +kernel
theorem dX11_law_38 : decode cX11_law 38 = .ok (.iconst 1, 1) := by decide +kernel
theorem dX11_law_39 : decode cX11_law 39 = .ok (.invokevirtual 203, 3) := by decide +kernel
theorem dX11_law_42 : decode cX11_law 42 = .ok (.ifCond .ne 10, 3) := by decide +kernel
theorem dX11_law_45 : decode cX11_law 45 = .ok (.aload_n 0, 1) := by decide +kernel
theorem dX11_law_46 : decode cX11_law 46 = .ok (.bipush (-6), 2) := by decide +kernel
theorem dX11_law_48 : decode cX11_law 48 = .ok (.invokevirtual 108, 3) := by decide +kernel
theorem dX11_law_51 : decode cX11_law 51 = .ok (.ireturn, 1) := by decide +kernel
theorem dX11_law_52 : decode cX11_law 52 = .ok (.aload_n 0, 1) := by decide +kernel
theorem dX11_law_53 : decode cX11_law 53 = .ok (.getfield 12, 3) := by decide +kernel
theorem dX11_law_56 : decode cX11_law 56 = .ok (.getfield 207, 3) := by decide +kernel
theorem dX11_law_59 : decode cX11_law 59 = .ok (.aload_n 0, 1) := by decide +kernel
theorem dX11_law_60 : decode cX11_law 60 = .ok (.getfield 12, 3) := by decide +kernel
theorem dX11_law_63 : decode cX11_law 63 = .ok (.getfield 200, 3) := by decide +kernel
theorem dX11_law_66 : decode cX11_law 66 = .ok (.aload_n 0, 1) := by decide +kernel
theorem dX11_law_67 : decode cX11_law 67 = .ok (.getfield 27, 3) := by decide +kernel
theorem dX11_law_70 : decode cX11_law 70 = .ok (.getfield 211, 3) := by decide +kernel
theorem dX11_law_73 : decode cX11_law 73 = .ok (.invokevirtual 215, 3) := by decide +kernel
theorem dX11_law_76 : decode cX11_law 76 = .ok (.aastore, 1) := by decide +kernel
theorem dX11_law_77 : decode cX11_law 77 = .ok (.aload_n 0, 1) := by decide +kernel
theorem dX11_law_78 : decode cX11_law 78 = .ok (.getfield 12, 3) := by decide +kernel
theorem dX11_law_81 : decode cX11_law 81 = .ok (.dup, 1) := by decide +kernel
theorem dX11_law_82 : decode cX11_law 82 = .ok (.getfield 200, 3) := by decide +kernel
theorem dX11_law_85 : decode cX11_law 85 = .ok (.iconst 1, 1) := by decide +kernel
theorem dX11_law_86 : decode cX11_law 86 = .ok (.iadd, 1) := by decide +kernel
theorem dX11_law_87 : decode cX11_law 87 = .ok (.putfield 200, 3) := by decide +kernel
theorem dX11_law_90 : decode cX11_law 90 = .ok (.aload_n 0, 1) := by decide +kernel
theorem dX11_law_91 : decode cX11_law 91 = .ok (.aload_n 0, 1) := by decide +kernel
theorem dX11_law_92 : decode cX11_law 92 = .ok (.getfield 12, 3) := by decide +kernel
theorem dX11_law_95 : decode cX11_law 95 = .ok (.getfield 200, 3) := by decide +kernel
theorem dX11_law_98 : decode cX11_law 98 = .ok (.iconst 1, 1) := by decide +kernel
theorem dX11_law_99 : decode cX11_law 99 = .ok (.isub, 1) := by decide +kernel
theorem dX11_law_100 : decode cX11_law 100 = .ok (.invokevirtual 118, 3) := by decide +kernel
theorem dX11_law_103 : decode cX11_law 103 = .ok (.ireturn, 1) := by decide +kernel
theorem dX11_settings_0 : decode cX11_settings 0 = .ok (.aload_n 0, 1) := by decide +kernel
theorem dX11_settings_1 : decode cX11_settings 1 = .ok (.getfield 91, 3) := by decide +kernel
theorem dX11_settings_4 : decode cX11_settings 4 = .ok (.istore_n 1, 1) := by decide +kernel
theorem dX11_settings_5 : decode cX11_settings 5 = .ok (.aload_n 0, 1) := by decide +kernel
theorem dX11_settings_6 : decode cX11_settings 6 = .ok (.iconst 0, 1) := by decide +kernel
theorem dX11_settings_7 : decode cX11_settings 7 = .ok (.putfield 91, 3) := by decide +kernel
theorem dX11_settings_10 : decode cX11_settings 10 = .ok (.aload_n 0, 1) := by decide +kernel
theorem dX11_settings_11 : decode cX11_settings 11 = .ok (.iconst (-1), 1) := by decide +kernel
theorem dX11_settings_12 : decode cX11_settings 12 = .ok (.putfield 95, 3) := by decide +kernel
theorem dX11_settings_15 : decode cX11_settings 15 = .ok (.aload_n 0, 1) := by decide +kernel
theorem dX11_settings_16 : decode cX11_settings 16 = .ok (.getfield 27, 3) := by decide +kernel
theorem dX11_settings_19 : decode cX11_settings 19 = .ok (.aload_n 0, 1) := by decide +kernel
theorem dX11_settings_20 : decode cX11_settings 20 = .ok (.getfield 20, 3) := by decide +kernel
theorem dX11_settings_23 : decode cX11_settings 23 = .ok (.iload_n 1, 1) := by decide +kernel
theorem dX11_settings_24 : decode cX11_settings 24 = .ok (.iconst 0, 1) := by decide +kernel
theorem dX11_settings_25 : decode cX11_settings 25 = .ok (.invokevirtual 203, 3) := by decide +kernel
theorem dX11_settings_28 : decode cX11_settings 28 = .ok (.ifCond .ne 10, 3) := by decide +kernel
theorem dX11_settings_31 : decode cX11_settings 31 = .ok (.aload_n 0, 1) := by decide +kernel
theorem dX11_settings_32 : decode cX11_settings 32 = .ok (.bipush (-6), 2) := by decide +kernel
theorem dX11_settings_34 : decode cX11_settings 34 = .ok (.invokevirtual 108, 3) := by decide +kernel
theorem dX11_settings_37 : decode cX11_settings 37 = .ok (.ireturn, 1) := by decide +kernel
theorem dX11_settings_38 : decode cX11_settings 38 = .ok (.aload_n 0, 1) := by decide +kernel
theorem dX11_settings_39 : decode cX11_settings 39 = .ok (.aload_n 0, 1) := by decide +kernel
theorem dX11_settings_40 : decode cX11_settings 40 = .ok (.aload_n 0, 1) := by decide +kernel
theorem dX11_settings_41 : decode cX11_settings 41 = .ok (.getfield 27, 3) := by decide +kernel
theorem dX11_settings_44 : decode cX11_settings 44 = .ok (.getfield 211, 3) := by decide +kernel
theorem dX11_settings_47 : decode cX11_settings 47 = .ok (.invokevirtual 221, 3) := by decide +kernel
theorem dX11_settings_50 : decode cX11_settings 50 = .ok (.invokevirtual 136, 3) := by decide +kernel
theorem dX11_settings_53 : decode cX11_settings 53 = .ok (.ireturn, 1) := by decide +kernel
theorem dX11_fault_0 : decode cX11_fault 0 = .ok (.aload_n 0, 1) := by decide +kernel
theorem dX11_fault_1 : decode cX11_fault 1 = .ok (.getfield 27, 3) := by decide +kernel
theorem dX11_fault_4 : decode cX11_fault 4 = .ok (.getfield 225, 3) := by decide +kernel
theorem dX11_fault_7 : decode cX11_fault 7 = .ok (.ireturn, 1) := by decide +kernel
theorem dX11_stopped_0 : decode cX11_stopped 0 = .ok (.aload_n 0, 1) := by decide +kernel
theorem dX11_stopped_1 : decode cX11_stopped 1 = .ok (.getfield 95, 3) := by decide +kernel
theorem dX11_stopped_4 : decode cX11_stopped 4 = .ok (.ireturn, 1) := by decide +kernel
theorem dX11_force_0 : decode cX11_force 0 = .ok (.iload_n 1, 1) := by decide +kernel
theorem dX11_force_1 : decode cX11_force 1 = .ok (.iconst (-1), 1) := by decide +kernel
theorem dX11_force_2 : decode cX11_force 2 = .ok (.if_icmp .eq 27, 3) := by decide +kernel
theorem dX11_force_5 : decode cX11_force 5 = .ok (.iload_n 1, 1) := by decide +kernel
theorem dX11_force_6 : decode cX11_force 6 = .ok (.iconst 0, 1) := by decide +kernel
theorem dX11_force_7 : decode cX11_force 7 = .ok (.aload_n 0, 1) := by decide +kernel
theorem dX11_force_8 : decode cX11_force 8 = .ok (.getfield 12, 3) := by decide +kernel
theorem dX11_force_11 : decode cX11_force 11 = .ok (.getfield 200, 3) := by decide +kernel
theorem dX11_force_14 : decode cX11_force 14 = .ok (.iconst 1, 1) := by decide +kernel
theorem dX11_force_15 : decode cX11_force 15 = .ok (.isub, 1) := by decide +kernel
theorem dX11_force_16 : decode cX11_force 16 = .ok (.invokestatic 104, 3) := by decide +kernel
theorem dX11_force_19 : decode cX11_force 19 = .ok (.ifCond .ne 10, 3) := by decide +kernel
theorem dX11_force_22 : decode cX11_force 22 = .ok (.aload_n 0, 1) := by decide +kernel
theorem dX11_force_23 : decode cX11_force 23 = .ok (.bipush (-2), 2) := by decide +kernel
theorem dX11_force_25 : decode cX11_force 25 = .ok (.invokevirtual 108, 3) := by decide +kernel
theorem dX11_force_28 : decode cX11_force 28 = .ok (.ireturn, 1) := by decide +kernel
theorem dX11_force_29 : decode cX11_force 29 = .ok (.aload_n 0, 1) := by decide +kernel
theorem dX11_force_30 : decode cX11_force 30 = .ok (.getfield 12, 3) := by decide +kernel
theorem dX11_force_33 : decode cX11_force 33 = .ok (.getfield 228, 3) := by decide +kernel
theorem dX11_force_36 : decode cX11_force 36 = .ok (.istore_n 2, 1) := by decide +kernel
theorem dX11_force_37 : decode cX11_force 37 = .ok (.aload_n 0, 1) := by decide +kernel
theorem dX11_force_38 : decode cX11_force 38 = .ok (.getfield 12, 3) := by decide +kernel
theorem dX11_force_41 : decode cX11_force 41 = .ok (.iload_n 1, 1) := by decide +kernel
theorem dX11_force_42 : decode cX11_force 42 = .ok (.putfield 228, 3) := by decide +kernel
theorem dX11_force_45 : decode cX11_force 45 = .ok (.aload_n 0, 1) := by decide +kernel
theorem dX11_force_46 : decode cX11_force 46 = .ok (.iload_n 2, 1) := by decide +kernel
theorem dX11_force_47 : decode cX11_force 47 = .ok (.invokevirtual 118, 3) := by decide +kernel
theorem dX11_force_50 : decode cX11_force 50 = .ok (.ireturn, 1) := by decide +kernel
theorem dX11_say_0 : decode cX11_say 0 = .ok (.iload_n 1, 1) := by decide +kernel
theorem dX11_say_1 : decode cX11_say 1 = .ok (.iconst 0, 1) := by decide +kernel
theorem dX11_say_2 : decode cX11_say 2 = .ok (.bipush 7, 2) := by decide +kernel
theorem dX11_say_4 : decode cX11_say 4 = .ok (.invokestatic 104, 3) := by decide +kernel
theorem dX11_say_7 : decode cX11_say 7 = .ok (.ifCond .ne 9, 3) := by decide +kernel
theorem dX11_say_10 : decode cX11_say 10 = .ok (.aload_n 0, 1) := by decide +kernel
theorem dX11_say_11 : decode cX11_say 11 = .ok (.iconst (-1), 1) := by decide +kernel
theorem dX11_say_12 : decode cX11_say 12 = .ok (.invokevirtual 108, 3) := by decide +kernel
theorem dX11_say_15 : decode cX11_say 15 = .ok (.ireturn, 1) := by decide +kernel
theorem dX11_say_16 : decode cX11_say 16 = .ok (.aload_n 0, 1) := by decide +kernel
theorem dX11_say_17 : decode cX11_say 17 = .ok (.getfield 12, 3) := by decide +kernel
theorem dX11_say_20 : decode cX11_say 20 = .ok (.getfield 231, 3) := by decide +kernel
theorem dX11_say_23 : decode cX11_say 23 = .ok (.bipush 6, 2) := by decide +kernel
theorem dX11_say_25 : decode cX11_say 25 = .ok (.if_icmp .lt 10, 3) := by decide +kernel
theorem dX11_say_28 : decode cX11_say 28 = .ok (.aload_n 0, 1) := by decide +kernel
theorem dX11_say_29 : decode cX11_say 29 = .ok (.bipush (-5), 2) := by decide +kernel
theorem dX11_say_31 : decode cX11_say 31 = .ok (.invokevirtual 108, 3) := by decide +kernel
theorem dX11_say_34 : decode cX11_say 34 = .ok (.ireturn, 1) := by decide +kernel
theorem dX11_say_35 : decode cX11_say 35 = .ok (.aload_n 0, 1) := by decide +kernel
theorem dX11_say_36 : decode cX11_say 36 = .ok (.getfield 12, 3) := by decide +kernel
theorem dX11_say_39 : decode cX11_say 39 = .ok (.getfield 234, 3) := by decide +kernel
theorem dX11_say_42 : decode cX11_say 42 = .ok (.aload_n 0, 1) := by decide +kernel
theorem dX11_say_43 : decode cX11_say 43 = .ok (.getfield 12, 3) := by decide +kernel
theorem dX11_say_46 : decode cX11_say 46 = .ok (.getfield 231, 3) := by decide +kernel
theorem dX11_say_49 : decode cX11_say 49 = .ok (.iload_n 1, 1) := by decide +kernel
theorem dX11_say_50 : decode cX11_say 50 = .ok (.iastore, 1) := by decide +kernel
theorem dX11_say_51 : decode cX11_say 51 = .ok (.aload_n 0, 1) := by decide +kernel
theorem dX11_say_52 : decode cX11_say 52 = .ok (.getfield 12, 3) := by decide +kernel
theorem dX11_say_55 : decode cX11_say 55 = .ok (.dup, 1) := by decide +kernel
theorem dX11_say_56 : decode cX11_say 56 = .ok (.getfield 231, 3) := by decide +kernel
theorem dX11_say_59 : decode cX11_say 59 = .ok (.iconst 1, 1) := by decide +kernel
theorem dX11_say_60 : decode cX11_say 60 = .ok (.iadd, 1) := by decide +kernel
theorem dX11_say_61 : decode cX11_say 61 = .ok (.putfield 231, 3) := by decide +kernel
theorem dX11_say_64 : decode cX11_say 64 = .ok (.aload_n 0, 1) := by decide +kernel
theorem dX11_say_65 : decode cX11_say 65 = .ok (.aload_n 0, 1) := by decide +kernel
theorem dX11_say_66 : decode cX11_say 66 = .ok (.getfield 12, 3) := by decide +kernel
theorem dX11_say_69 : decode cX11_say 69 = .ok (.getfield 231, 3) := by decide +kernel
theorem dX11_say_72 : decode cX11_say 72 = .ok (.invokevirtual 118, 3) := by decide +kernel
theorem dX11_say_75 : decode cX11_say 75 = .ok (.ireturn, 1) := by decide +kernel
theorem dX11_hush_0 : decode cX11_hush 0 = .ok (.aload_n 0, 1) := by decide +kernel
theorem dX11_hush_1 : decode cX11_hush 1 = .ok (.getfield 12, 3) := by decide +kernel
theorem dX11_hush_4 : decode cX11_hush 4 = .ok (.getfield 231, 3) := by decide +kernel
theorem dX11_hush_7 : decode cX11_hush 7 = .ok (.istore_n 1, 1) := by decide +kernel
theorem dX11_hush_8 : decode cX11_hush 8 = .ok (.aload_n 0, 1) := by decide +kernel
theorem dX11_hush_9 : decode cX11_hush 9 = .ok (.getfield 12, 3) := by decide +kernel
theorem dX11_hush_12 : decode cX11_hush 12 = .ok (.iconst 0, 1) := by decide +kernel
theorem dX11_hush_13 : decode cX11_hush 13 = .ok (.putfield 231, 3) := by decide +kernel
theorem dX11_hush_16 : decode cX11_hush 16 = .ok (.aload_n 0, 1) := by decide +kernel
theorem dX11_hush_17 : decode cX11_hush 17 = .ok (.dup, 1) := by decide +kernel
theorem dX11_hush_18 : decode cX11_hush 18 = .ok (.getfield 101, 3) := by decide +kernel
theorem dX11_hush_21 : decode cX11_hush 21 = .ok (.iconst 1, 1) := by decide +kernel
theorem dX11_hush_22 : decode cX11_hush 22 = .ok (.iadd, 1) := by decide +kernel
theorem dX11_hush_23 : decode cX11_hush 23 = .ok (.putfield 101, 3) := by decide +kernel
theorem dX11_hush_26 : decode cX11_hush 26 = .ok (.iload_n 1, 1) := by decide +kernel
theorem dX11_hush_27 : decode cX11_hush 27 = .ok (.ireturn, 1) := by decide +kernel
theorem dX11_beside_0 : decode cX11_beside 0 = .ok (.iload_n 1, 1) := by decide +kernel
theorem dX11_beside_1 : decode cX11_beside 1 = .ok (.iconst 0, 1) := by decide +kernel
theorem dX11_beside_2 : decode cX11_beside 2 = .ok (.iconst 3, 1) := by decide +kernel
theorem dX11_beside_3 : decode cX11_beside 3 = .ok (.invokestatic 104, 3) := by decide +kernel
theorem dX11_beside_6 : decode cX11_beside 6 = .ok (.ifCond .ne 9, 3) := by decide +kernel
theorem dX11_beside_9 : decode cX11_beside 9 = .ok (.aload_n 0, 1) := by decide +kernel
theorem dX11_beside_10 : decode cX11_beside 10 = .ok (.iconst (-1), 1) := by decide +kernel
theorem dX11_beside_11 : decode cX11_beside 11 = .ok (.invokevirtual 108, 3) := by decide +kernel
theorem dX11_beside_14 : decode cX11_beside 14 = .ok (.ireturn, 1) := by decide +kernel
theorem dX11_beside_15 : decode cX11_beside 15 = .ok (.iload_n 2, 1) := by decide +kernel
theorem dX11_beside_16 : decode cX11_beside 16 = .ok (.iconst (-1), 1) := by decide +kernel
theorem dX11_beside_17 : decode cX11_beside 17 = .ok (.if_icmp .eq 24, 3) := by decide +kernel
theorem dX11_beside_20 : decode cX11_beside 20 = .ok (.aload_n 0, 1) := by decide +kernel
theorem dX11_beside_21 : decode cX11_beside 21 = .ok (.getfield 12, 3) := by decide +kernel
theorem dX11_beside_24 : decode cX11_beside 24 = .ok (.getfield 149, 3) := by decide +kernel
theorem dX11_beside_27 : decode cX11_beside 27 = .ok (.iload_n 2, 1) := by decide +kernel
theorem dX11_beside_28 : decode cX11_beside 28 = .ok (.invokevirtual 167, 3) := by decide +kernel
theorem dX11_beside_31 : decode cX11_beside 31 = .ok (.ifCond .ne 10, 3) := by decide +kernel
theorem dX11_beside_34 : decode cX11_beside 34 = .ok (.aload_n 0, 1) := by decide +kernel
theorem dX11_beside_35 : decode cX11_beside 35 = .ok (.bipush (-2), 2) := by decide +kernel
theorem dX11_beside_37 : decode cX11_beside 37 = .ok (.invokevirtual 108, 3) := by decide +kernel
theorem dX11_beside_40 : decode cX11_beside 40 = .ok (.ireturn, 1) := by decide +kernel
theorem dX11_beside_41 : decode cX11_beside 41 = .ok (.aload_n 0, 1) := by decide +kernel
theorem dX11_beside_42 : decode cX11_beside 42 = .ok (.getfield 12, 3) := by decide +kernel
theorem dX11_beside_45 : decode cX11_beside 45 = .ok (.getfield 237, 3) := by decide +kernel
theorem dX11_beside_48 : decode cX11_beside 48 = .ok (.iload_n 1, 1) := by decide +kernel
theorem dX11_beside_49 : decode cX11_beside 49 = .ok (.iaload, 1) := by decide +kernel
theorem dX11_beside_50 : decode cX11_beside 50 = .ok (.istore_n 3, 1) := by decide +kernel
theorem dX11_beside_51 : decode cX11_beside 51 = .ok (.aload_n 0, 1) := by decide +kernel
theorem dX11_beside_52 : decode cX11_beside 52 = .ok (.getfield 12, 3) := by decide +kernel
theorem dX11_beside_55 : decode cX11_beside 55 = .ok (.getfield 237, 3) := by decide +kernel
theorem dX11_beside_58 : decode cX11_beside 58 = .ok (.iload_n 1, 1) := by decide +kernel
theorem dX11_beside_59 : decode cX11_beside 59 = .ok (.iload_n 2, 1) := by decide +kernel
theorem dX11_beside_60 : decode cX11_beside 60 = .ok (.iastore, 1) := by decide +kernel
theorem dX11_beside_61 : decode cX11_beside 61 = .ok (.aload_n 0, 1) := by decide +kernel
theorem dX11_beside_62 : decode cX11_beside 62 = .ok (.iload_n 3, 1) := by decide +kernel
theorem dX11_beside_63 : decode cX11_beside 63 = .ok (.invokevirtual 118, 3) := by decide +kernel
theorem dX11_beside_66 : decode cX11_beside 66 = .ok (.ireturn, 1) := by decide +kernel
theorem dX11_set_0 : decode cX11_set 0 = .ok (.aload_n 0, 1) := by decide +kernel
theorem dX11_set_1 : decode cX11_set 1 = .ok (.aload_n 0, 1) := by decide +kernel
theorem dX11_set_2 : decode cX11_set 2 = .ok (.iload_n 1, 1) := by decide +kernel
theorem dX11_set_3 : decode cX11_set 3 = .ok (.invokevirtual 240, 3) := by decide +kernel
theorem dX11_set_6 : decode cX11_set 6 = .ok (.invokevirtual 136, 3) := by decide +kernel
theorem dX11_set_9 : decode cX11_set 9 = .ok (.ireturn, 1) := by decide +kernel
theorem dX11_turn_0 : decode cX11_turn 0 = .ok (.aload_n 0, 1) := by decide +kernel
theorem dX11_turn_1 : decode cX11_turn 1 = .ok (.aload_n 0, 1) := by decide +kernel
theorem dX11_turn_2 : decode cX11_turn 2 = .ok (.invokevirtual 243, 3) := by decide +kernel
theorem dX11_turn_5 : decode cX11_turn 5 = .ok (.invokevirtual 136, 3) := by decide +kernel
theorem dX11_turn_8 : decode cX11_turn 8 = .ok (.ireturn, 1) := by decide +kernel
theorem dX11_clear_0 : decode cX11_clear 0 = .ok (.aload_n 0, 1) := by decide +kernel
theorem dX11_clear_1 : decode cX11_clear 1 = .ok (.aload_n 0, 1) := by decide +kernel
theorem dX11_clear_2 : decode cX11_clear 2 = .ok (.invokevirtual 247, 3) := by decide +kernel
theorem dX11_clear_5 : decode cX11_clear 5 = .ok (.invokevirtual 136, 3) := by decide +kernel
theorem dX11_clear_8 : decode cX11_clear 8 = .ok (.ireturn, 1) := by decide +kernel
theorem dX11_head_0 : decode cX11_head 0 = .ok (.iload_n 1, 1) := by decide +kernel
theorem dX11_head_1 : decode cX11_head 1 = .ok (.iconst 0, 1) := by decide +kernel
theorem dX11_head_2 : decode cX11_head 2 = .ok (.aload_n 0, 1) := by decide +kernel
theorem dX11_head_3 : decode cX11_head 3 = .ok (.getfield 12, 3) := by decide +kernel
theorem dX11_head_6 : decode cX11_head 6 = .ok (.getfield 121, 3) := by decide +kernel
theorem dX11_head_9 : decode cX11_head 9 = .ok (.getfield 124, 3) := by decide +kernel
theorem dX11_head_12 : decode cX11_head 12 = .ok (.iconst 1, 1) := by decide +kernel
theorem dX11_head_13 : decode cX11_head 13 = .ok (.isub, 1) := by decide +kernel
theorem dX11_head_14 : decode cX11_head 14 = .ok (.invokestatic 104, 3) := by decide +kernel
theorem dX11_head_17 : decode cX11_head 17 = .ok (.ifCond .ne 5, 3) := by decide +kernel
theorem dX11_head_20 : decode cX11_head 20 = .ok (.iconst (-1), 1) := by decide +kernel
theorem dX11_head_21 : decode cX11_head 21 = .ok (.ireturn, 1) := by decide +kernel
theorem dX11_head_22 : decode cX11_head 22 = .ok (.iload_n 2, 1) := by decide +kernel
theorem dX11_head_23 : decode cX11_head 23 = .ok (.ifCond .ne 16, 3) := by decide +kernel
theorem dX11_head_26 : decode cX11_head 26 = .ok (.aload_n 0, 1) := by decide +kernel
theorem dX11_head_27 : decode cX11_head 27 = .ok (.getfield 12, 3) := by decide +kernel
theorem dX11_head_30 : decode cX11_head 30 = .ok (.getfield 121, 3) := by decide +kernel
theorem dX11_head_33 : decode cX11_head 33 = .ok (.getfield 250, 3) := by decide +kernel
theorem dX11_head_36 : decode cX11_head 36 = .ok (.iload_n 1, 1) := by decide +kernel
theorem dX11_head_37 : decode cX11_head 37 = .ok (.iaload, 1) := by decide +kernel
theorem dX11_head_38 : decode cX11_head 38 = .ok (.ireturn, 1) := by decide +kernel
theorem dX11_head_39 : decode cX11_head 39 = .ok (.iload_n 2, 1) := by decide +kernel
theorem dX11_head_40 : decode cX11_head 40 = .ok (.iconst 1, 1) := by decide +kernel
theorem dX11_head_41 : decode cX11_head 41 = .ok (.if_icmp .ne 18, 3) := by decide +kernel
theorem dX11_head_44 : decode cX11_head 44 = .ok (.aload_n 0, 1) := by decide +kernel
theorem dX11_head_45 : decode cX11_head 45 = .ok (.getfield 12, 3) := by decide +kernel
theorem dX11_head_48 : decode cX11_head 48 = .ok (.getfield 121, 3) := by decide +kernel
theorem dX11_head_51 : decode cX11_head 51 = .ok (.getfield 252, 3) := by decide +kernel
theorem dX11_head_54 : decode cX11_head 54 = .ok (.iload_n 1, 1) := by decide +kernel
theorem dX11_head_55 : decode cX11_head 55 = .ok (.iaload, 1) := by decide +kernel
theorem dX11_head_56 : decode cX11_head 56 = .ok (.goto 4, 3) := by decide +kernel
theorem dX11_head_59 : decode cX11_head 59 = .ok (.iconst (-1), 1) := by decide +kernel
theorem dX11_head_60 : decode cX11_head 60 = .ok (.ireturn, 1) := by decide +kernel
theorem dX11_line_0 : decode cX11_line 0 = .ok (.iload_n 1, 1) := by decide +kernel
theorem dX11_line_1 : decode cX11_line 1 = .ok (.iconst 0, 1) := by decide +kernel
theorem dX11_line_2 : decode cX11_line 2 = .ok (.iconst 3, 1) := by decide +kernel
theorem dX11_line_3 : decode cX11_line 3 = .ok (.invokestatic 104, 3) := by decide +kernel
theorem dX11_line_6 : decode cX11_line 6 = .ok (.ifCond .ne 5, 3) := by decide +kernel
theorem dX11_line_9 : decode cX11_line 9 = .ok (.iconst (-1), 1) := by decide +kernel
theorem dX11_line_10 : decode cX11_line 10 = .ok (.ireturn, 1) := by decide +kernel
theorem dX11_line_11 : decode cX11_line 11 = .ok (.iload_n 2, 1) := by decide +kernel
theorem dX11_line_12 : decode cX11_line 12 = .ok (.tableswitch 100 0 4 #[36, 45, 57, 66, 83], 36) := by decide +kernel
theorem dX11_line_48 : decode cX11_line 48 = .ok (.aload_n 0, 1) := by decide +kernel
theorem dX11_line_49 : decode cX11_line 49 = .ok (.getfield 12, 3) := by decide +kernel
theorem dX11_line_52 : decode cX11_line 52 = .ok (.iload_n 1, 1) := by decide +kernel
theorem dX11_line_53 : decode cX11_line 53 = .ok (.invokevirtual 254, 3) := by decide +kernel
theorem dX11_line_56 : decode cX11_line 56 = .ok (.ireturn, 1) := by decide +kernel
theorem dX11_line_57 : decode cX11_line 57 = .ok (.aload_n 0, 1) := by decide +kernel
theorem dX11_line_58 : decode cX11_line 58 = .ok (.getfield 12, 3) := by decide +kernel
theorem dX11_line_61 : decode cX11_line 61 = .ok (.getfield 121, 3) := by decide +kernel
theorem dX11_line_64 : decode cX11_line 64 = .ok (.iload_n 1, 1) := by decide +kernel
theorem dX11_line_65 : decode cX11_line 65 = .ok (.invokevirtual 257, 3) := by decide +kernel
theorem dX11_line_68 : decode cX11_line 68 = .ok (.ireturn, 1) := by decide +kernel
theorem dX11_line_69 : decode cX11_line 69 = .ok (.aload_n 0, 1) := by decide +kernel
theorem dX11_line_70 : decode cX11_line 70 = .ok (.getfield 43, 3) := by decide +kernel
theorem dX11_line_73 : decode cX11_line 73 = .ok (.iload_n 1, 1) := by decide +kernel
theorem dX11_line_74 : decode cX11_line 74 = .ok (.invokevirtual 260, 3) := by decide +kernel
theorem dX11_line_77 : decode cX11_line 77 = .ok (.ireturn, 1) := by decide +kernel
theorem dX11_line_78 : decode cX11_line 78 = .ok (.aload_n 0, 1) := by decide +kernel
theorem dX11_line_79 : decode cX11_line 79 = .ok (.getfield 12, 3) := by decide +kernel
theorem dX11_line_82 : decode cX11_line 82 = .ok (.iload_n 1, 1) := by decide +kernel
theorem dX11_line_83 : decode cX11_line 83 = .ok (.invokevirtual 263, 3) := by decide +kernel
theorem dX11_line_86 : decode cX11_line 86 = .ok (.ifCond .eq 7, 3) := by decide +kernel
theorem dX11_line_89 : decode cX11_line 89 = .ok (.iconst 1, 1) := by decide +kernel
theorem dX11_line_90 : decode cX11_line 90 = .ok (.goto 4, 3) := by decide +kernel
theorem dX11_line_93 : decode cX11_line 93 = .ok (.iconst 0, 1) := by decide +kernel
theorem dX11_line_94 : decode cX11_line 94 = .ok (.ireturn, 1) := by decide +kernel
theorem dX11_line_95 : decode cX11_line 95 = .ok (.aload_n 0, 1) := by decide +kernel
theorem dX11_line_96 : decode cX11_line 96 = .ok (.getfield 12, 3) := by decide +kernel
theorem dX11_line_99 : decode cX11_line 99 = .ok (.iload_n 1, 1) := by decide +kernel
theorem dX11_line_100 : decode cX11_line 100 = .ok (.invokevirtual 266, 3) := by decide +kernel
theorem dX11_line_103 : decode cX11_line 103 = .ok (.ifCond .eq 7, 3) := by decide +kernel
theorem dX11_line_106 : decode cX11_line 106 = .ok (.iconst 1, 1) := by decide +kernel
theorem dX11_line_107 : decode cX11_line 107 = .ok (.goto 4, 3) := by decide +kernel
theorem dX11_line_110 : decode cX11_line 110 = .ok (.iconst 0, 1) := by decide +kernel
theorem dX11_line_111 : decode cX11_line 111 = .ok (.ireturn, 1) := by decide +kernel
theorem dX11_line_112 : decode cX11_line 112 = .ok (.iconst (-1), 1) := by decide +kernel
theorem dX11_line_113 : decode cX11_line 113 = .ok (.ireturn, 1) := by decide +kernel
theorem dX11_cost_0 : decode cX11_cost 0 = .ok (.iconst 0, 1) := by decide +kernel
theorem dX11_cost_1 : decode cX11_cost 1 = .ok (.istore_n 1, 1) := by decide +kernel
theorem dX11_cost_2 : decode cX11_cost 2 = .ok (.iconst 0, 1) := by decide +kernel
theorem dX11_cost_3 : decode cX11_cost 3 = .ok (.istore_n 2, 1) := by decide +kernel
theorem dX11_cost_4 : decode cX11_cost 4 = .ok (.iload_n 2, 1) := by decide +kernel
theorem dX11_cost_5 : decode cX11_cost 5 = .ok (.aload_n 0, 1) := by decide +kernel
theorem dX11_cost_6 : decode cX11_cost 6 = .ok (.getfield 12, 3) := by decide +kernel
theorem dX11_cost_9 : decode cX11_cost 9 = .ok (.getfield 121, 3) := by decide +kernel
theorem dX11_cost_12 : decode cX11_cost 12 = .ok (.getfield 124, 3) := by decide +kernel
theorem dX11_cost_15 : decode cX11_cost 15 = .ok (.if_icmp .ge 38, 3) := by decide +kernel
theorem dX11_cost_18 : decode cX11_cost 18 = .ok (.iload_n 1, 1) := by decide +kernel
theorem dX11_cost_19 : decode cX11_cost 19 = .ok (.aload_n 0, 1) := by decide +kernel
theorem dX11_cost_20 : decode cX11_cost 20 = .ok (.getfield 43, 3) := by decide +kernel
theorem dX11_cost_23 : decode cX11_cost 23 = .ok (.aload_n 0, 1) := by decide +kernel
theorem dX11_cost_24 : decode cX11_cost 24 = .ok (.getfield 12, 3) := by decide +kernel
theorem dX11_cost_27 : decode cX11_cost 27 = .ok (.getfield 121, 3) := by decide +kernel
theorem dX11_cost_30 : decode cX11_cost 30 = .ok (.getfield 250, 3) := by decide +kernel
theorem dX11_cost_33 : decode cX11_cost 33 = .ok (.iload_n 2, 1) := by decide +kernel
theorem dX11_cost_34 : decode cX11_cost 34 = .ok (.iaload, 1) := by decide +kernel
theorem dX11_cost_35 : decode cX11_cost 35 = .ok (.aload_n 0, 1) := by decide +kernel
theorem dX11_cost_36 : decode cX11_cost 36 = .ok (.getfield 12, 3) := by decide +kernel
theorem dX11_cost_39 : decode cX11_cost 39 = .ok (.getfield 183, 3) := by decide +kernel
theorem dX11_cost_42 : decode cX11_cost 42 = .ok (.invokevirtual 193, 3) := by decide +kernel
theorem dX11_cost_45 : decode cX11_cost 45 = .ok (.iadd, 1) := by decide +kernel
theorem dX11_cost_46 : decode cX11_cost 46 = .ok (.istore_n 1, 1) := by decide +kernel
theorem dX11_cost_47 : decode cX11_cost 47 = .ok (.iinc 2 1, 3) := by decide +kernel
theorem dX11_cost_50 : decode cX11_cost 50 = .ok (.goto (-46), 3) := by decide +kernel
theorem dX11_cost_53 : decode cX11_cost 53 = .ok (.iconst 0, 1) := by decide +kernel
theorem dX11_cost_54 : decode cX11_cost 54 = .ok (.istore_n 2, 1) := by decide +kernel
theorem dX11_cost_55 : decode cX11_cost 55 = .ok (.iload_n 2, 1) := by decide +kernel
theorem dX11_cost_56 : decode cX11_cost 56 = .ok (.iconst 4, 1) := by decide +kernel
theorem dX11_cost_57 : decode cX11_cost 57 = .ok (.if_icmp .ge 20, 3) := by decide +kernel
theorem dX11_cost_60 : decode cX11_cost 60 = .ok (.iload_n 1, 1) := by decide +kernel
theorem dX11_cost_61 : decode cX11_cost 61 = .ok (.aload_n 0, 1) := by decide +kernel
theorem dX11_cost_62 : decode cX11_cost 62 = .ok (.getfield 43, 3) := by decide +kernel
theorem dX11_cost_65 : decode cX11_cost 65 = .ok (.iload_n 2, 1) := by decide +kernel
theorem dX11_cost_66 : decode cX11_cost 66 = .ok (.invokevirtual 260, 3) := by decide +kernel
theorem dX11_cost_69 : decode cX11_cost 69 = .ok (.iadd, 1) := by decide +kernel
theorem dX11_cost_70 : decode cX11_cost 70 = .ok (.istore_n 1, 1) := by decide +kernel
theorem dX11_cost_71 : decode cX11_cost 71 = .ok (.iinc 2 1, 3) := by decide +kernel
theorem dX11_cost_74 : decode cX11_cost 74 = .ok (.goto (-19), 3) := by decide +kernel
theorem dX11_cost_77 : decode cX11_cost 77 = .ok (.iload_n 1, 1) := by decide +kernel
theorem dX11_cost_78 : decode cX11_cost 78 = .ok (.ireturn, 1) := by decide +kernel
theorem dX11_undo_0 : decode cX11_undo 0 = .ok (.aload_n 0, 1) := by decide +kernel
theorem dX11_undo_1 : decode cX11_undo 1 = .ok (.getfield 73, 3) := by decide +kernel
theorem dX11_undo_4 : decode cX11_undo 4 = .ok (.getfield 269, 3) := by decide +kernel
theorem dX11_undo_7 : decode cX11_undo 7 = .ok (.ifCond .ne 10, 3) := by decide +kernel
theorem dX11_undo_10 : decode cX11_undo 10 = .ok (.aload_n 0, 1) := by decide +kernel
theorem dX11_undo_11 : decode cX11_undo 11 = .ok (.bipush (-3), 2) := by decide +kernel
theorem dX11_undo_13 : decode cX11_undo 13 = .ok (.invokevirtual 108, 3) := by decide +kernel
theorem dX11_undo_16 : decode cX11_undo 16 = .ok (.ireturn, 1) := by decide +kernel
theorem dX11_undo_17 : decode cX11_undo 17 = .ok (.aload_n 0, 1) := by decide +kernel
theorem dX11_undo_18 : decode cX11_undo 18 = .ok (.aload_n 0, 1) := by decide +kernel
theorem dX11_undo_19 : decode cX11_undo 19 = .ok (.getfield 73, 3) := by decide +kernel
theorem dX11_undo_22 : decode cX11_undo 22 = .ok (.aload_n 0, 1) := by decide +kernel
theorem dX11_undo_23 : decode cX11_undo 23 = .ok (.getfield 12, 3) := by decide +kernel
theorem dX11_undo_26 : decode cX11_undo 26 = .ok (.getfield 121, 3) := by decide +kernel
theorem dX11_undo_29 : decode cX11_undo 29 = .ok (.invokevirtual 270, 3) := by decide +kernel
theorem dX11_undo_32 : decode cX11_undo 32 = .ok (.invokevirtual 118, 3) := by decide +kernel
theorem dX11_undo_35 : decode cX11_undo 35 = .ok (.ireturn, 1) := by decide +kernel
theorem dX11_fit_0 : decode cX11_fit 0 = .ok (.aload_n 0, 1) := by decide +kernel
theorem dX11_fit_1 : decode cX11_fit 1 = .ok (.getfield 12, 3) := by decide +kernel
theorem dX11_fit_4 : decode cX11_fit 4 = .ok (.getfield 231, 3) := by decide +kernel
theorem dX11_fit_7 : decode cX11_fit 7 = .ok (.ifCond .ne 5, 3) := by decide +kernel
theorem dX11_fit_10 : decode cX11_fit 10 = .ok (.iconst (-1), 1) := by decide +kernel
theorem dX11_fit_11 : decode cX11_fit 11 = .ok (.ireturn, 1) := by decide +kernel
theorem dX11_fit_12 : decode cX11_fit 12 = .ok (.aload_n 0, 1) := by decide +kernel
theorem dX11_fit_13 : decode cX11_fit 13 = .ok (.getfield 52, 3) := by decide +kernel
theorem dX11_fit_16 : decode cX11_fit 16 = .ok (.aload_n 0, 1) := by decide +kernel
theorem dX11_fit_17 : decode cX11_fit 17 = .ok (.getfield 101, 3) := by decide +kernel
theorem dX11_fit_20 : decode cX11_fit 20 = .ok (.invokevirtual 274, 3) := by decide +kernel
theorem dX11_fit_23 : decode cX11_fit 23 = .ok (.iload_n 1, 1) := by decide +kernel
theorem dX11_fit_24 : decode cX11_fit 24 = .ok (.iconst 1, 1) := by decide +kernel
theorem dX11_fit_25 : decode cX11_fit 25 = .ok (.if_icmp .ne 11, 3) := by decide +kernel
theorem dX11_fit_28 : decode cX11_fit 28 = .ok (.aload_n 0, 1) := by decide +kernel
theorem dX11_fit_29 : decode cX11_fit 29 = .ok (.getfield 52, 3) := by decide +kernel
theorem dX11_fit_32 : decode cX11_fit 32 = .ok (.getfield 277, 3) := by decide +kernel
theorem dX11_fit_35 : decode cX11_fit 35 = .ok (.ireturn, 1) := by decide +kernel
theorem dX11_fit_36 : decode cX11_fit 36 = .ok (.aload_n 0, 1) := by decide +kernel
theorem dX11_fit_37 : decode cX11_fit 37 = .ok (.getfield 52, 3) := by decide +kernel
theorem dX11_fit_40 : decode cX11_fit 40 = .ok (.getfield 277, 3) := by decide +kernel
theorem dX11_fit_43 : decode cX11_fit 43 = .ok (.ifCond .ne 5, 3) := by decide +kernel
theorem dX11_fit_46 : decode cX11_fit 46 = .ok (.iconst (-1), 1) := by decide +kernel
theorem dX11_fit_47 : decode cX11_fit 47 = .ok (.ireturn, 1) := by decide +kernel
theorem dX11_fit_48 : decode cX11_fit 48 = .ok (.iload_n 1, 1) := by decide +kernel
theorem dX11_fit_49 : decode cX11_fit 49 = .ok (.ifCond .ne 14, 3) := by decide +kernel
theorem dX11_fit_52 : decode cX11_fit 52 = .ok (.aload_n 0, 1) := by decide +kernel
theorem dX11_fit_53 : decode cX11_fit 53 = .ok (.getfield 52, 3) := by decide +kernel
theorem dX11_fit_56 : decode cX11_fit 56 = .ok (.getfield 280, 3) := by decide +kernel
theorem dX11_fit_59 : decode cX11_fit 59 = .ok (.invokestatic 284, 3) := by decide +kernel
theorem dX11_fit_62 : decode cX11_fit 62 = .ok (.ireturn, 1) := by decide +kernel
theorem dX11_fit_63 : decode cX11_fit 63 = .ok (.iload_n 1, 1) := by decide +kernel
theorem dX11_fit_64 : decode cX11_fit 64 = .ok (.iconst 2, 1) := by decide +kernel
theorem dX11_fit_65 : decode cX11_fit 65 = .ok (.if_icmp .ne 14, 3) := by decide +kernel
theorem dX11_fit_68 : decode cX11_fit 68 = .ok (.aload_n 0, 1) := by decide +kernel
theorem dX11_fit_69 : decode cX11_fit 69 = .ok (.getfield 52, 3) := by decide +kernel
theorem dX11_fit_72 : decode cX11_fit 72 = .ok (.getfield 280, 3) := by decide +kernel
theorem dX11_fit_75 : decode cX11_fit 75 = .ok (.invokestatic 288, 3) := by decide +kernel
theorem dX11_fit_78 : decode cX11_fit 78 = .ok (.ireturn, 1) := by decide +kernel
theorem dX11_fit_79 : decode cX11_fit 79 = .ok (.aload_n 0, 1) := by decide +kernel
theorem dX11_fit_80 : decode cX11_fit 80 = .ok (.aload_n 0, 1) := by decide +kernel
theorem dX11_fit_81 : decode cX11_fit 81 = .ok (.getfield 52, 3) := by decide +kernel
theorem dX11_fit_84 : decode cX11_fit 84 = .ok (.getfield 280, 3) := by decide +kernel
theorem dX11_fit_87 : decode cX11_fit 87 = .ok (.iload_n 1, 1) := by decide +kernel
theorem dX11_fit_88 : decode cX11_fit 88 = .ok (.invokevirtual 291, 3) := by decide +kernel
theorem dX11_fit_91 : decode cX11_fit 91 = .ok (.ireturn, 1) := by decide +kernel
theorem dX11_over_0 : decode cX11_over 0 = .ok (.aload_n 0, 1) := by decide +kernel
theorem dX11_over_1 : decode cX11_over 1 = .ok (.getfield 52, 3) := by decide +kernel
theorem dX11_over_4 : decode cX11_over 4 = .ok (.aload_n 0, 1) := by decide +kernel
theorem dX11_over_5 : decode cX11_over 5 = .ok (.getfield 12, 3) := by decide +kernel
theorem dX11_over_8 : decode cX11_over 8 = .ok (.getfield 183, 3) := by decide +kernel
theorem dX11_over_11 : decode cX11_over 11 = .ok (.invokevirtual 295, 3) := by decide +kernel
theorem dX11_over_14 : decode cX11_over 14 = .ok (.istore_n 1, 1) := by decide +kernel
theorem dX11_over_15 : decode cX11_over 15 = .ok (.iload_n 1, 1) := by decide +kernel
theorem dX11_over_16 : decode cX11_over 16 = .ok (.iconst (-1), 1) := by decide +kernel
theorem dX11_over_17 : decode cX11_over 17 = .ok (.if_icmp .ne 7, 3) := by decide +kernel
theorem dX11_over_20 : decode cX11_over 20 = .ok (.iconst (-1), 1) := by decide +kernel
theorem dX11_over_21 : decode cX11_over 21 = .ok (.goto 16, 3) := by decide +kernel
theorem dX11_over_24 : decode cX11_over 24 = .ok (.iconst 0, 1) := by decide +kernel
theorem dX11_over_25 : decode cX11_over 25 = .ok (.iload_n 1, 1) := by decide +kernel
theorem dX11_over_26 : decode cX11_over 26 = .ok (.aload_n 0, 1) := by decide +kernel
theorem dX11_over_27 : decode cX11_over 27 = .ok (.getfield 12, 3) := by decide +kernel
theorem dX11_over_30 : decode cX11_over 30 = .ok (.getfield 127, 3) := by decide +kernel
theorem dX11_over_33 : decode cX11_over 33 = .ok (.isub, 1) := by decide +kernel
theorem dX11_over_34 : decode cX11_over 34 = .ok (.invokestatic 298, 3) := by decide +kernel
theorem dX11_over_37 : decode cX11_over 37 = .ok (.ireturn, 1) := by decide +kernel
theorem dX11_narrow_0 : decode cX11_narrow 0 = .ok (.aload_n 0, 1) := by decide +kernel
theorem dX11_narrow_1 : decode cX11_narrow 1 = .ok (.getfield 52, 3) := by decide +kernel
theorem dX11_narrow_4 : decode cX11_narrow 4 = .ok (.aload_n 0, 1) := by decide +kernel
theorem dX11_narrow_5 : decode cX11_narrow 5 = .ok (.getfield 12, 3) := by decide +kernel
theorem dX11_narrow_8 : decode cX11_narrow 8 = .ok (.getfield 183, 3) := by decide +kernel
theorem dX11_narrow_11 : decode cX11_narrow 11 = .ok (.invokevirtual 295, 3) := by decide +kernel
theorem dX11_narrow_14 : decode cX11_narrow 14 = .ok (.ireturn, 1) := by decide +kernel
theorem dX11_largest_0 : decode cX11_largest 0 = .ok (.iconst 2, 1) := by decide +kernel
theorem dX11_largest_1 : decode cX11_largest 1 = .ok (.istore_n 1, 1) := by decide +kernel
theorem dX11_largest_2 : decode cX11_largest 2 = .ok (.iload_n 1, 1) := by decide +kernel
theorem dX11_largest_3 : decode cX11_largest 3 = .ok (.ifCond .lt 36, 3) := by decide +kernel
theorem dX11_largest_6 : decode cX11_largest 6 = .ok (.aload_n 0, 1) := by decide +kernel
theorem dX11_largest_7 : decode cX11_largest 7 = .ok (.getfield 52, 3) := by decide +kernel
theorem dX11_largest_10 : decode cX11_largest 10 = .ok (.iload_n 1, 1) := by decide +kernel
theorem dX11_largest_11 : decode cX11_largest 11 = .ok (.invokevirtual 295, 3) := by decide +kernel
theorem dX11_largest_14 : decode cX11_largest 14 = .ok (.istore_n 2, 1) := by decide +kernel
theorem dX11_largest_15 : decode cX11_largest 15 = .ok (.iload_n 2, 1) := by decide +kernel
theorem dX11_largest_16 : decode cX11_largest 16 = .ok (.iconst (-1), 1) := by decide +kernel
theorem dX11_largest_17 : decode cX11_largest 17 = .ok (.if_icmp .eq 16, 3) := by decide +kernel
theorem dX11_largest_20 : decode cX11_largest 20 = .ok (.iload_n 2, 1) := by decide +kernel
theorem dX11_largest_21 : decode cX11_largest 21 = .ok (.aload_n 0, 1) := by decide +kernel
theorem dX11_largest_22 : decode cX11_largest 22 = .ok (.getfield 12, 3) := by decide +kernel
theorem dX11_largest_25 : decode cX11_largest 25 = .ok (.getfield 127, 3) := by decide +kernel
theorem dX11_largest_28 : decode cX11_largest 28 = .ok (.if_icmp .gt 5, 3) := by decide +kernel
theorem dX11_largest_31 : decode cX11_largest 31 = .ok (.iload_n 1, 1) := by decide +kernel
theorem dX11_largest_32 : decode cX11_largest 32 = .ok (.ireturn, 1) := by decide +kernel
theorem dX11_largest_33 : decode cX11_largest 33 = .ok (.iinc 1 (-1), 3) := by decide +kernel
theorem dX11_largest_36 : decode cX11_largest 36 = .ok (.goto (-34), 3) := by decide +kernel
theorem dX11_largest_39 : decode cX11_largest 39 = .ok (.iconst (-1), 1) := by decide +kernel
theorem dX11_largest_40 : decode cX11_largest 40 = .ok (.ireturn, 1) := by decide +kernel
theorem dX11_truest_0 : decode cX11_truest 0 = .ok (.aload_n 0, 1) := by decide +kernel
theorem dX11_truest_1 : decode cX11_truest 1 = .ok (.getfield 52, 3) := by decide +kernel
theorem dX11_truest_4 : decode cX11_truest 4 = .ok (.aload_n 0, 1) := by decide +kernel
theorem dX11_truest_5 : decode cX11_truest 5 = .ok (.getfield 101, 3) := by decide +kernel
theorem dX11_truest_8 : decode cX11_truest 8 = .ok (.invokevirtual 274, 3) := by decide +kernel
theorem dX11_truest_11 : decode cX11_truest 11 = .ok (.aload_n 0, 1) := by decide +kernel
theorem dX11_truest_12 : decode cX11_truest 12 = .ok (.getfield 52, 3) := by decide +kernel
theorem dX11_truest_15 : decode cX11_truest 15 = .ok (.getfield 303, 3) := by decide +kernel
theorem dX11_truest_18 : decode cX11_truest 18 = .ok (.iconst (-1), 1) := by decide +kernel
theorem dX11_truest_19 : decode cX11_truest 19 = .ok (.if_icmp .ne 5, 3) := by decide +kernel
theorem dX11_truest_22 : decode cX11_truest 22 = .ok (.iconst (-1), 1) := by decide +kernel
theorem dX11_truest_23 : decode cX11_truest 23 = .ok (.ireturn, 1) := by decide +kernel
theorem dX11_truest_24 : decode cX11_truest 24 = .ok (.aload_n 0, 1) := by decide +kernel
theorem dX11_truest_25 : decode cX11_truest 25 = .ok (.getfield 12, 3) := by decide +kernel
theorem dX11_truest_28 : decode cX11_truest 28 = .ok (.getfield 231, 3) := by decide +kernel
theorem dX11_truest_31 : decode cX11_truest 31 = .ok (.invokestatic 306, 3) := by decide +kernel
theorem dX11_truest_34 : decode cX11_truest 34 = .ok (.istore_n 2, 1) := by decide +kernel
theorem dX11_truest_35 : decode cX11_truest 35 = .ok (.aload_n 0, 1) := by decide +kernel
theorem dX11_truest_36 : decode cX11_truest 36 = .ok (.getfield 52, 3) := by decide +kernel
theorem dX11_truest_39 : decode cX11_truest 39 = .ok (.getfield 303, 3) := by decide +kernel
theorem dX11_truest_42 : decode cX11_truest 42 = .ok (.iload_n 2, 1) := by decide +kernel
theorem dX11_truest_43 : decode cX11_truest 43 = .ok (.invokestatic 309, 3) := by decide +kernel
theorem dX11_truest_46 : decode cX11_truest 46 = .ok (.istore_n 3, 1) := by decide +kernel
theorem dX11_truest_47 : decode cX11_truest 47 = .ok (.iload_n 1, 1) := by decide +kernel
theorem dX11_truest_48 : decode cX11_truest 48 = .ok (.ifCond .ne 13, 3) := by decide +kernel
theorem dX11_truest_51 : decode cX11_truest 51 = .ok (.aload_n 0, 1) := by decide +kernel
theorem dX11_truest_52 : decode cX11_truest 52 = .ok (.getfield 52, 3) := by decide +kernel
theorem dX11_truest_55 : decode cX11_truest 55 = .ok (.getfield 303, 3) := by decide +kernel
theorem dX11_truest_58 : decode cX11_truest 58 = .ok (.iload_n 3, 1) := by decide +kernel
theorem dX11_truest_59 : decode cX11_truest 59 = .ok (.idiv, 1) := by decide +kernel
theorem dX11_truest_60 : decode cX11_truest 60 = .ok (.ireturn, 1) := by decide +kernel
theorem dX11_truest_61 : decode cX11_truest 61 = .ok (.iload_n 1, 1) := by decide +kernel
theorem dX11_truest_62 : decode cX11_truest 62 = .ok (.iconst 1, 1) := by decide +kernel
theorem dX11_truest_63 : decode cX11_truest 63 = .ok (.if_icmp .ne 7, 3) := by decide +kernel
theorem dX11_truest_66 : decode cX11_truest 66 = .ok (.iload_n 2, 1) := by decide +kernel
theorem dX11_truest_67 : decode cX11_truest 67 = .ok (.iload_n 3, 1) := by decide +kernel
theorem dX11_truest_68 : decode cX11_truest 68 = .ok (.idiv, 1) := by decide +kernel
theorem dX11_truest_69 : decode cX11_truest 69 = .ok (.ireturn, 1) := by decide +kernel
theorem dX11_truest_70 : decode cX11_truest 70 = .ok (.iload_n 1, 1) := by decide +kernel
theorem dX11_truest_71 : decode cX11_truest 71 = .ok (.iconst 2, 1) := by decide +kernel
theorem dX11_truest_72 : decode cX11_truest 72 = .ok (.if_icmp .ne 14, 3) := by decide +kernel
theorem dX11_truest_75 : decode cX11_truest 75 = .ok (.aload_n 0, 1) := by decide +kernel
theorem dX11_truest_76 : decode cX11_truest 76 = .ok (.getfield 52, 3) := by decide +kernel
theorem dX11_truest_79 : decode cX11_truest 79 = .ok (.getfield 312, 3) := by decide +kernel
theorem dX11_truest_82 : decode cX11_truest 82 = .ok (.invokestatic 284, 3) := by decide +kernel
theorem dX11_truest_85 : decode cX11_truest 85 = .ok (.ireturn, 1) := by decide +kernel
theorem dX11_truest_86 : decode cX11_truest 86 = .ok (.aload_n 0, 1) := by decide +kernel
theorem dX11_truest_87 : decode cX11_truest 87 = .ok (.aload_n 0, 1) := by decide +kernel
theorem dX11_truest_88 : decode cX11_truest 88 = .ok (.getfield 52, 3) := by decide +kernel
theorem dX11_truest_91 : decode cX11_truest 91 = .ok (.getfield 312, 3) := by decide +kernel
theorem dX11_truest_94 : decode cX11_truest 94 = .ok (.iload_n 1, 1) := by decide +kernel
theorem dX11_truest_95 : decode cX11_truest 95 = .ok (.invokevirtual 291, 3) := by decide +kernel
theorem dX11_truest_98 : decode cX11_truest 98 = .ok (.ireturn, 1) := by decide +kernel
theorem dX11_says_0 : decode cX11_says 0 = .ok (.iload_n 1, 1) := by decide +kernel
theorem dX11_says_1 : decode cX11_says 1 = .ok (.iconst 1, 1) := by decide +kernel
theorem dX11_says_2 : decode cX11_says 2 = .ok (.sipush 400, 3) := by decide +kernel
theorem dX11_says_5 : decode cX11_says 5 = .ok (.invokestatic 104, 3) := by decide +kernel
theorem dX11_says_8 : decode cX11_says 8 = .ok (.ifCond .eq 12, 3) := by decide +kernel
theorem dX11_says_11 : decode cX11_says 11 = .ok (.iload_n 2, 1) := by decide +kernel
theorem dX11_says_12 : decode cX11_says 12 = .ok (.iconst 0, 1) := by decide +kernel
theorem dX11_says_13 : decode cX11_says 13 = .ok (.iconst 2, 1) := by decide +kernel
theorem dX11_says_14 : decode cX11_says 14 = .ok (.invokestatic 104, 3) := by decide +kernel
theorem dX11_says_17 : decode cX11_says 17 = .ok (.ifCond .ne 5, 3) := by decide +kernel
theorem dX11_says_20 : decode cX11_says 20 = .ok (.iconst (-1), 1) := by decide +kernel
theorem dX11_says_21 : decode cX11_says 21 = .ok (.ireturn, 1) := by decide +kernel
theorem dX11_says_22 : decode cX11_says 22 = .ok (.aload_n 0, 1) := by decide +kernel
theorem dX11_says_23 : decode cX11_says 23 = .ok (.getfield 52, 3) := by decide +kernel
theorem dX11_says_26 : decode cX11_says 26 = .ok (.iload_n 1, 1) := by decide +kernel
theorem dX11_says_27 : decode cX11_says 27 = .ok (.invokevirtual 315, 3) := by decide +kernel
theorem dX11_says_30 : decode cX11_says 30 = .ok (.istore_n 3, 1) := by decide +kernel
theorem dX11_says_31 : decode cX11_says 31 = .ok (.iload_n 2, 1) := by decide +kernel
theorem dX11_says_32 : decode cX11_says 32 = .ok (.ifCond .ne 12, 3) := by decide +kernel
theorem dX11_says_35 : decode cX11_says 35 = .ok (.aload_n 0, 1) := by decide +kernel
theorem dX11_says_36 : decode cX11_says 36 = .ok (.getfield 52, 3) := by decide +kernel
theorem dX11_says_39 : decode cX11_says 39 = .ok (.iload_n 3, 1) := by decide +kernel
theorem dX11_says_40 : decode cX11_says 40 = .ok (.invokevirtual 318, 3) := by decide +kernel
theorem dX11_says_43 : decode cX11_says 43 = .ok (.ireturn, 1) := by decide +kernel
theorem dX11_says_44 : decode cX11_says 44 = .ok (.iload_n 2, 1) := by decide +kernel
theorem dX11_says_45 : decode cX11_says 45 = .ok (.iconst 1, 1) := by decide +kernel
theorem dX11_says_46 : decode cX11_says 46 = .ok (.if_icmp .ne 7, 3) := by decide +kernel
theorem dX11_says_49 : decode cX11_says 49 = .ok (.iload_n 3, 1) := by decide +kernel
theorem dX11_says_50 : decode cX11_says 50 = .ok (.goto 11, 3) := by decide +kernel
theorem dX11_says_53 : decode cX11_says 53 = .ok (.aload_n 0, 1) := by decide +kernel
theorem dX11_says_54 : decode cX11_says 54 = .ok (.getfield 52, 3) := by decide +kernel
theorem dX11_says_57 : decode cX11_says 57 = .ok (.iload_n 3, 1) := by decide +kernel
theorem dX11_says_58 : decode cX11_says 58 = .ok (.invokevirtual 321, 3) := by decide +kernel
theorem dX11_says_61 : decode cX11_says 61 = .ok (.ireturn, 1) := by decide +kernel
theorem dX11_seen_0 : decode cX11_seen 0 = .ok (.iload_n 1, 1) := by decide +kernel
theorem dX11_seen_1 : decode cX11_seen 1 = .ok (.iconst 0, 1) := by decide +kernel
theorem dX11_seen_2 : decode cX11_seen 2 = .ok (.iconst 3, 1) := by decide +kernel
theorem dX11_seen_3 : decode cX11_seen 3 = .ok (.invokestatic 104, 3) := by decide +kernel
theorem dX11_seen_6 : decode cX11_seen 6 = .ok (.ifCond .eq 14, 3) := by decide +kernel
theorem dX11_seen_9 : decode cX11_seen 9 = .ok (.iload_n 2, 1) := by decide +kernel
theorem dX11_seen_10 : decode cX11_seen 10 = .ok (.iconst 0, 1) := by decide +kernel
theorem dX11_seen_11 : decode cX11_seen 11 = .ok (.sipush 999, 3) := by decide +kernel
theorem dX11_seen_14 : decode cX11_seen 14 = .ok (.invokestatic 104, 3) := by decide +kernel
theorem dX11_seen_17 : decode cX11_seen 17 = .ok (.ifCond .ne 9, 3) := by decide +kernel
theorem dX11_seen_20 : decode cX11_seen 20 = .ok (.aload_n 0, 1) := by decide +kernel
theorem dX11_seen_21 : decode cX11_seen 21 = .ok (.iconst (-1), 1) := by decide +kernel
theorem dX11_seen_22 : decode cX11_seen 22 = .ok (.invokevirtual 108, 3) := by decide +kernel
theorem dX11_seen_25 : decode cX11_seen 25 = .ok (.ireturn, 1) := by decide +kernel
theorem dX11_seen_26 : decode cX11_seen 26 = .ok (.aload_n 0, 1) := by decide +kernel
theorem dX11_seen_27 : decode cX11_seen 27 = .ok (.getfield 12, 3) := by decide +kernel
theorem dX11_seen_30 : decode cX11_seen 30 = .ok (.getfield 324, 3) := by decide +kernel
theorem dX11_seen_33 : decode cX11_seen 33 = .ok (.iconst 4, 1) := by decide +kernel
theorem dX11_seen_34 : decode cX11_seen 34 = .ok (.if_icmp .lt 10, 3) := by decide +kernel
theorem dX11_seen_37 : decode cX11_seen 37 = .ok (.aload_n 0, 1) := by decide +kernel
theorem dX11_seen_38 : decode cX11_seen 38 = .ok (.bipush (-5), 2) := by decide +kernel
theorem dX11_seen_40 : decode cX11_seen 40 = .ok (.invokevirtual 108, 3) := by decide +kernel
theorem dX11_seen_43 : decode cX11_seen 43 = .ok (.ireturn, 1) := by decide +kernel
theorem dX11_seen_44 : decode cX11_seen 44 = .ok (.aload_n 0, 1) := by decide +kernel
theorem dX11_seen_45 : decode cX11_seen 45 = .ok (.getfield 12, 3) := by decide +kernel
theorem dX11_seen_48 : decode cX11_seen 48 = .ok (.getfield 327, 3) := by decide +kernel
theorem dX11_seen_51 : decode cX11_seen 51 = .ok (.iconst 2, 1) := by decide +kernel
theorem dX11_seen_52 : decode cX11_seen 52 = .ok (.aload_n 0, 1) := by decide +kernel
theorem dX11_seen_53 : decode cX11_seen 53 = .ok (.getfield 12, 3) := by decide +kernel
theorem dX11_seen_56 : decode cX11_seen 56 = .ok (.getfield 324, 3) := by decide +kernel
theorem dX11_seen_59 : decode cX11_seen 59 = .ok (.imul, 1) := by decide +kernel
theorem dX11_seen_60 : decode cX11_seen 60 = .ok (.iload_n 1, 1) := by decide +kernel
theorem dX11_seen_61 : decode cX11_seen 61 = .ok (.iastore, 1) := by decide +kernel
theorem dX11_seen_62 : decode cX11_seen 62 = .ok (.aload_n 0, 1) := by decide +kernel
theorem dX11_seen_63 : decode cX11_seen 63 = .ok (.getfield 12, 3) := by decide +kernel
theorem dX11_seen_66 : decode cX11_seen 66 = .ok (.getfield 327, 3) := by decide +kernel
theorem dX11_seen_69 : decode cX11_seen 69 = .ok (.iconst 2, 1) := by decide +kernel
theorem dX11_seen_70 : decode cX11_seen 70 = .ok (.aload_n 0, 1) := by decide +kernel
theorem dX11_seen_71 : decode cX11_seen 71 = .ok (.getfield 12, 3) := by decide +kernel
theorem dX11_seen_74 : decode cX11_seen 74 = .ok (.getfield 324, 3) := by decide +kernel
theorem dX11_seen_77 : decode cX11_seen 77 = .ok (.imul, 1) := by decide +kernel
theorem dX11_seen_78 : decode cX11_seen 78 = .ok (.iconst 1, 1) := by decide +kernel
theorem dX11_seen_79 : decode cX11_seen 79 = .ok (.iadd, 1) := by decide +kernel
theorem dX11_seen_80 : decode cX11_seen 80 = .ok (.iload_n 2, 1) := by decide +kernel
theorem dX11_seen_81 : decode cX11_seen 81 = .ok (.iastore, 1) := by decide +kernel
theorem dX11_seen_82 : decode cX11_seen 82 = .ok (.aload_n 0, 1) := by decide +kernel
theorem dX11_seen_83 : decode cX11_seen 83 = .ok (.getfield 12, 3) := by decide +kernel
theorem dX11_seen_86 : decode cX11_seen 86 = .ok (.dup, 1) := by decide +kernel
theorem dX11_seen_87 : decode cX11_seen 87 = .ok (.getfield 324, 3) := by decide +kernel
theorem dX11_seen_90 : decode cX11_seen 90 = .ok (.iconst 1, 1) := by decide +kernel
theorem dX11_seen_91 : decode cX11_seen 91 = .ok (.iadd, 1) := by decide +kernel
theorem dX11_seen_92 : decode cX11_seen 92 = .ok (.putfield 324, 3) := by decide +kernel
theorem dX11_seen_95 : decode cX11_seen 95 = .ok (.aload_n 0, 1) := by decide +kernel
theorem dX11_seen_96 : decode cX11_seen 96 = .ok (.aload_n 0, 1) := by decide +kernel
theorem dX11_seen_97 : decode cX11_seen 97 = .ok (.getfield 12, 3) := by decide +kernel
theorem dX11_seen_100 : decode cX11_seen 100 = .ok (.getfield 324, 3) := by decide +kernel
theorem dX11_seen_103 : decode cX11_seen 103 = .ok (.invokevirtual 118, 3) := by decide +kernel
theorem dX11_seen_106 : decode cX11_seen 106 = .ok (.ireturn, 1) := by decide +kernel
theorem dX11_forget_0 : decode cX11_forget 0 = .ok (.aload_n 0, 1) := by decide +kernel
theorem dX11_forget_1 : decode cX11_forget 1 = .ok (.getfield 12, 3) := by decide +kernel
theorem dX11_forget_4 : decode cX11_forget 4 = .ok (.getfield 324, 3) := by decide +kernel
theorem dX11_forget_7 : decode cX11_forget 7 = .ok (.istore_n 1, 1) := by decide +kernel
theorem dX11_forget_8 : decode cX11_forget 8 = .ok (.aload_n 0, 1) := by decide +kernel
theorem dX11_forget_9 : decode cX11_forget 9 = .ok (.getfield 12, 3) := by decide +kernel
theorem dX11_forget_12 : decode cX11_forget 12 = .ok (.iconst 0, 1) := by decide +kernel
theorem dX11_forget_13 : decode cX11_forget 13 = .ok (.putfield 324, 3) := by decide +kernel
theorem dX11_forget_16 : decode cX11_forget 16 = .ok (.iload_n 1, 1) := by decide +kernel
theorem dX11_forget_17 : decode cX11_forget 17 = .ok (.ireturn, 1) := by decide +kernel
theorem dX11_changed_0 : decode cX11_changed 0 = .ok (.iconst 0, 1) := by decide +kernel
theorem dX11_changed_1 : decode cX11_changed 1 = .ok (.istore_n 2, 1) := by decide +kernel
theorem dX11_changed_2 : decode cX11_changed 2 = .ok (.iconst 0, 1) := by decide +kernel
theorem dX11_changed_3 : decode cX11_changed 3 = .ok (.istore_n 3, 1) := by decide +kernel
theorem dX11_changed_4 : decode cX11_changed 4 = .ok (.iload_n 3, 1) := by decide +kernel
theorem dX11_changed_5 : decode cX11_changed 5 = .ok (.aload_n 0, 1) := by decide +kernel
theorem dX11_changed_6 : decode cX11_changed 6 = .ok (.getfield 12, 3) := by decide +kernel
theorem dX11_changed_9 : decode cX11_changed 9 = .ok (.getfield 121, 3) := by decide +kernel
theorem dX11_changed_12 : decode cX11_changed 12 = .ok (.getfield 124, 3) := by decide +kernel
theorem dX11_changed_15 : decode cX11_changed 15 = .ok (.if_icmp .ge 78, 3) := by decide +kernel
theorem dX11_changed_18 : decode cX11_changed 18 = .ok (.iconst 0, 1) := by decide +kernel
theorem dX11_changed_19 : decode cX11_changed 19 = .ok (.istore 4, 2) := by decide +kernel
theorem dX11_changed_21 : decode cX11_changed 21 = .ok (.iload 4, 2) := by decide +kernel
theorem dX11_changed_23 : decode cX11_changed 23 = .ok (.aload_n 0, 1) := by decide +kernel
theorem dX11_changed_24 : decode cX11_changed 24 = .ok (.getfield 12, 3) := by decide +kernel
theorem dX11_changed_27 : decode cX11_changed 27 = .ok (.getfield 149, 3) := by decide +kernel
theorem dX11_changed_30 : decode cX11_changed 30 = .ok (.getfield 158, 3) := by decide +kernel
theorem dX11_changed_33 : decode cX11_changed 33 = .ok (.if_icmp .ge 54, 3) := by decide +kernel
theorem dX11_changed_36 : decode cX11_changed 36 = .ok (.aload_n 0, 1) := by decide +kernel
theorem dX11_changed_37 : decode cX11_changed 37 = .ok (.getfield 12, 3) := by decide +kernel
theorem dX11_changed_40 : decode cX11_changed 40 = .ok (.iload_n 3, 1) := by decide +kernel
theorem dX11_changed_41 : decode cX11_changed 41 = .ok (.iload 4, 2) := by decide +kernel
theorem dX11_changed_43 : decode cX11_changed 43 = .ok (.invokevirtual 330, 3) := by decide +kernel
theorem dX11_changed_46 : decode cX11_changed 46 = .ok (.ifCond .eq 35, 3) := by decide +kernel
theorem dX11_changed_49 : decode cX11_changed 49 = .ok (.aload_n 0, 1) := by decide +kernel
theorem dX11_changed_50 : decode cX11_changed 50 = .ok (.getfield 12, 3) := by decide +kernel
theorem dX11_changed_53 : decode cX11_changed 53 = .ok (.iload_n 3, 1) := by decide +kernel
theorem dX11_changed_54 : decode cX11_changed 54 = .ok (.iload 4, 2) := by decide +kernel
theorem dX11_changed_56 : decode cX11_changed 56 = .ok (.invokevirtual 333, 3) := by decide +kernel
theorem dX11_changed_59 : decode cX11_changed 59 = .ok (.ifCond .ne 6, 3) := by decide +kernel
theorem dX11_changed_62 : decode cX11_changed 62 = .ok (.goto 19, 3) := by decide +kernel
theorem dX11_changed_65 : decode cX11_changed 65 = .ok (.iload_n 2, 1) := by decide +kernel
theorem dX11_changed_66 : decode cX11_changed 66 = .ok (.iload_n 1, 1) := by decide +kernel
theorem dX11_changed_67 : decode cX11_changed 67 = .ok (.if_icmp .ne 11, 3) := by decide +kernel
theorem dX11_changed_70 : decode cX11_changed 70 = .ok (.bipush 16, 2) := by decide +kernel
theorem dX11_changed_72 : decode cX11_changed 72 = .ok (.iload_n 3, 1) := by decide +kernel
theorem dX11_changed_73 : decode cX11_changed 73 = .ok (.imul, 1) := by decide +kernel
theorem dX11_changed_74 : decode cX11_changed 74 = .ok (.iload 4, 2) := by decide +kernel
theorem dX11_changed_76 : decode cX11_changed 76 = .ok (.iadd, 1) := by decide +kernel
theorem dX11_changed_77 : decode cX11_changed 77 = .ok (.ireturn, 1) := by decide +kernel
theorem dX11_changed_78 : decode cX11_changed 78 = .ok (.iinc 2 1, 3) := by decide +kernel
theorem dX11_changed_81 : decode cX11_changed 81 = .ok (.iinc 4 1, 3) := by decide +kernel
theorem dX11_changed_84 : decode cX11_changed 84 = .ok (.goto (-63), 3) := by decide +kernel
theorem dX11_changed_87 : decode cX11_changed 87 = .ok (.iinc 3 1, 3) := by decide +kernel
theorem dX11_changed_90 : decode cX11_changed 90 = .ok (.goto (-86), 3) := by decide +kernel
theorem dX11_changed_93 : decode cX11_changed 93 = .ok (.iload_n 1, 1) := by decide +kernel
theorem dX11_changed_94 : decode cX11_changed 94 = .ok (.iconst (-1), 1) := by decide +kernel
theorem dX11_changed_95 : decode cX11_changed 95 = .ok (.if_icmp .ne 7, 3) := by decide +kernel
theorem dX11_changed_98 : decode cX11_changed 98 = .ok (.iload_n 2, 1) := by decide +kernel
theorem dX11_changed_99 : decode cX11_changed 99 = .ok (.goto 4, 3) := by decide +kernel
theorem dX11_changed_102 : decode cX11_changed 102 = .ok (.iconst (-1), 1) := by decide +kernel
theorem dX11_changed_103 : decode cX11_changed 103 = .ok (.ireturn, 1) := by decide +kernel
theorem dX11_matter_0 : decode cX11_matter 0 = .ok (.iload_n 1, 1) := by decide +kernel
theorem dX11_matter_1 : decode cX11_matter 1 = .ok (.iconst 1, 1) := by decide +kernel
theorem dX11_matter_2 : decode cX11_matter 2 = .ok (.bipush 99, 2) := by decide +kernel
theorem dX11_matter_4 : decode cX11_matter 4 = .ok (.invokestatic 104, 3) := by decide +kernel
theorem dX11_matter_7 : decode cX11_matter 7 = .ok (.ifCond .eq 24, 3) := by decide +kernel
theorem dX11_matter_10 : decode cX11_matter 10 = .ok (.iload_n 2, 1) := by decide +kernel
theorem dX11_matter_11 : decode cX11_matter 11 = .ok (.iconst 0, 1) := by decide +kernel
theorem dX11_matter_12 : decode cX11_matter 12 = .ok (.sipush 999, 3) := by decide +kernel
theorem dX11_matter_15 : decode cX11_matter 15 = .ok (.invokestatic 104, 3) := by decide +kernel
theorem dX11_matter_18 : decode cX11_matter 18 = .ok (.ifCond .eq 13, 3) := by decide +kernel
theorem dX11_matter_21 : decode cX11_matter 21 = .ok (.iload_n 3, 1) := by decide +kernel
theorem dX11_matter_22 : decode cX11_matter 22 = .ok (.iconst 1, 1) := by decide +kernel
theorem dX11_matter_23 : decode cX11_matter 23 = .ok (.bipush 99, 2) := by decide +kernel
theorem dX11_matter_25 : decode cX11_matter 25 = .ok (.invokestatic 104, 3) := by decide +kernel
theorem dX11_matter_28 : decode cX11_matter 28 = .ok (.ifCond .ne 9, 3) := by decide +kernel
theorem dX11_matter_31 : decode cX11_matter 31 = .ok (.aload_n 0, 1) := by decide +kernel
theorem dX11_matter_32 : decode cX11_matter 32 = .ok (.iconst (-1), 1) := by decide +kernel
theorem dX11_matter_33 : decode cX11_matter 33 = .ok (.invokevirtual 108, 3) := by decide +kernel
theorem dX11_matter_36 : decode cX11_matter 36 = .ok (.ireturn, 1) := by decide +kernel
theorem dX11_matter_37 : decode cX11_matter 37 = .ok (.aload_n 0, 1) := by decide +kernel
theorem dX11_matter_38 : decode cX11_matter 38 = .ok (.getfield 12, 3) := by decide +kernel
theorem dX11_matter_41 : decode cX11_matter 41 = .ok (.getfield 336, 3) := by decide +kernel
theorem dX11_matter_44 : decode cX11_matter 44 = .ok (.bipush 8, 2) := by decide +kernel
theorem dX11_matter_46 : decode cX11_matter 46 = .ok (.if_icmp .lt 10, 3) := by decide +kernel
theorem dX11_matter_49 : decode cX11_matter 49 = .ok (.aload_n 0, 1) := by decide +kernel
theorem dX11_matter_50 : decode cX11_matter 50 = .ok (.bipush (-5), 2) := by decide +kernel
theorem dX11_matter_52 : decode cX11_matter 52 = .ok (.invokevirtual 108, 3) := by decide +kernel
theorem dX11_matter_55 : decode cX11_matter 55 = .ok (.ireturn, 1) := by decide +kernel
theorem dX11_matter_56 : decode cX11_matter 56 = .ok (.aload_n 0, 1) := by decide +kernel
theorem dX11_matter_57 : decode cX11_matter 57 = .ok (.getfield 12, 3) := by decide +kernel
theorem dX11_matter_60 : decode cX11_matter 60 = .ok (.getfield 336, 3) := by decide +kernel
theorem dX11_matter_63 : decode cX11_matter 63 = .ok (.istore 4, 2) := by decide +kernel
theorem dX11_matter_65 : decode cX11_matter 65 = .ok (.aload_n 0, 1) := by decide +kernel
theorem dX11_matter_66 : decode cX11_matter 66 = .ok (.getfield 12, 3) := by decide +kernel
theorem dX11_matter_69 : decode cX11_matter 69 = .ok (.getfield 339, 3) := by decide +kernel
theorem dX11_matter_72 : decode cX11_matter 72 = .ok (.iload 4, 2) := by decide +kernel
theorem dX11_matter_74 : decode cX11_matter 74 = .ok (.iload_n 1, 1) := by decide +kernel
theorem dX11_matter_75 : decode cX11_matter 75 = .ok (.iastore, 1) := by decide +kernel
theorem dX11_matter_76 : decode cX11_matter 76 = .ok (.aload_n 0, 1) := by decide +kernel
theorem dX11_matter_77 : decode cX11_matter 77 = .ok (.getfield 12, 3) := by decide +kernel
theorem dX11_matter_80 : decode cX11_matter 80 = .ok (.getfield 342, 3) := by decide +kernel
theorem dX11_matter_83 : decode cX11_matter 83 = .ok (.iload 4, 2) := by decide +kernel
theorem dX11_matter_85 : decode cX11_matter 85 = .ok (.iload_n 2, 1) := by decide +kernel
theorem dX11_matter_86 : decode cX11_matter 86 = .ok (.iastore, 1) := by decide +kernel
theorem dX11_matter_87 : decode cX11_matter 87 = .ok (.aload_n 0, 1) := by decide +kernel
theorem dX11_matter_88 : decode cX11_matter 88 = .ok (.getfield 12, 3) := by decide +kernel
theorem dX11_matter_91 : decode cX11_matter 91 = .ok (.getfield 345, 3) := by decide +kernel
theorem dX11_matter_94 : decode cX11_matter 94 = .ok (.iload 4, 2) := by decide +kernel
theorem dX11_matter_96 : decode cX11_matter 96 = .ok (.iload_n 3, 1) := by decide +kernel
theorem dX11_matter_97 : decode cX11_matter 97 = .ok (.iastore, 1) := by decide +kernel
theorem dX11_matter_98 : decode cX11_matter 98 = .ok (.aload_n 0, 1) := by decide +kernel
theorem dX11_matter_99 : decode cX11_matter 99 = .ok (.getfield 12, 3) := by decide +kernel
theorem dX11_matter_102 : decode cX11_matter 102 = .ok (.dup, 1) := by decide +kernel
theorem dX11_matter_103 : decode cX11_matter 103 = .ok (.getfield 336, 3) := by decide +kernel
theorem dX11_matter_106 : decode cX11_matter 106 = .ok (.iconst 1, 1) := by decide +kernel
theorem dX11_matter_107 : decode cX11_matter 107 = .ok (.iadd, 1) := by decide +kernel
theorem dX11_matter_108 : decode cX11_matter 108 = .ok (.putfield 336, 3) := by decide +kernel
theorem dX11_matter_111 : decode cX11_matter 111 = .ok (.aload_n 0, 1) := by decide +kernel
theorem dX11_matter_112 : decode cX11_matter 112 = .ok (.iload 4, 2) := by decide +kernel
theorem dX11_matter_114 : decode cX11_matter 114 = .ok (.invokevirtual 118, 3) := by decide +kernel
theorem dX11_matter_117 : decode cX11_matter 117 = .ok (.ireturn, 1) := by decide +kernel
theorem dX11_cancel_0 : decode cX11_cancel 0 = .ok (.aload_n 0, 1) := by decide +kernel
theorem dX11_cancel_1 : decode cX11_cancel 1 = .ok (.getfield 12, 3) := by decide +kernel
theorem dX11_cancel_4 : decode cX11_cancel 4 = .ok (.getfield 336, 3) := by decide +kernel
theorem dX11_cancel_7 : decode cX11_cancel 7 = .ok (.istore_n 1, 1) := by decide +kernel
theorem dX11_cancel_8 : decode cX11_cancel 8 = .ok (.aload_n 0, 1) := by decide +kernel
theorem dX11_cancel_9 : decode cX11_cancel 9 = .ok (.getfield 12, 3) := by decide +kernel
theorem dX11_cancel_12 : decode cX11_cancel 12 = .ok (.iconst 0, 1) := by decide +kernel
theorem dX11_cancel_13 : decode cX11_cancel 13 = .ok (.putfield 336, 3) := by decide +kernel
theorem dX11_cancel_16 : decode cX11_cancel 16 = .ok (.iload_n 1, 1) := by decide +kernel
theorem dX11_cancel_17 : decode cX11_cancel 17 = .ok (.ireturn, 1) := by decide +kernel
theorem dX11_edition_0 : decode cX11_edition 0 = .ok (.aload_n 0, 1) := by decide +kernel
theorem dX11_edition_1 : decode cX11_edition 1 = .ok (.getfield 59, 3) := by decide +kernel
theorem dX11_edition_4 : decode cX11_edition 4 = .ok (.aload_n 0, 1) := by decide +kernel
theorem dX11_edition_5 : decode cX11_edition 5 = .ok (.getfield 12, 3) := by decide +kernel
theorem dX11_edition_8 : decode cX11_edition 8 = .ok (.invokevirtual 348, 3) := by decide +kernel
theorem dX11_edition_11 : decode cX11_edition 11 = .ok (.iload_n 1, 1) := by decide +kernel
theorem dX11_edition_12 : decode cX11_edition 12 = .ok (.ifCond .ne 11, 3) := by decide +kernel
theorem dX11_edition_15 : decode cX11_edition 15 = .ok (.aload_n 0, 1) := by decide +kernel
theorem dX11_edition_16 : decode cX11_edition 16 = .ok (.getfield 59, 3) := by decide +kernel
theorem dX11_edition_19 : decode cX11_edition 19 = .ok (.getfield 352, 3) := by decide +kernel
theorem dX11_edition_22 : decode cX11_edition 22 = .ok (.ireturn, 1) := by decide +kernel
theorem dX11_edition_23 : decode cX11_edition 23 = .ok (.iload_n 1, 1) := by decide +kernel
theorem dX11_edition_24 : decode cX11_edition 24 = .ok (.iconst 1, 1) := by decide +kernel
theorem dX11_edition_25 : decode cX11_edition 25 = .ok (.if_icmp .ne 11, 3) := by decide +kernel
theorem dX11_edition_28 : decode cX11_edition 28 = .ok (.aload_n 0, 1) := by decide +kernel
theorem dX11_edition_29 : decode cX11_edition 29 = .ok (.getfield 59, 3) := by decide +kernel
theorem dX11_edition_32 : decode cX11_edition 32 = .ok (.getfield 355, 3) := by decide +kernel
theorem dX11_edition_35 : decode cX11_edition 35 = .ok (.ireturn, 1) := by decide +kernel
theorem dX11_edition_36 : decode cX11_edition 36 = .ok (.iload_n 1, 1) := by decide +kernel
theorem dX11_edition_37 : decode cX11_edition 37 = .ok (.iconst 2, 1) := by decide +kernel
theorem dX11_edition_38 : decode cX11_edition 38 = .ok (.if_icmp .ne 11, 3) := by decide +kernel
theorem dX11_edition_41 : decode cX11_edition 41 = .ok (.aload_n 0, 1) := by decide +kernel
theorem dX11_edition_42 : decode cX11_edition 42 = .ok (.getfield 59, 3) := by decide +kernel
theorem dX11_edition_45 : decode cX11_edition 45 = .ok (.getfield 358, 3) := by decide +kernel
theorem dX11_edition_48 : decode cX11_edition 48 = .ok (.ireturn, 1) := by decide +kernel
theorem dX11_edition_49 : decode cX11_edition 49 = .ok (.iload_n 1, 1) := by decide +kernel
