theorem dX0_init_0 : decode cX0_init 0 = .ok (.aload_n 0, 1) := by decide +kernel
theorem dX0_init_1 : decode cX0_init 1 = .ok (.invokespecial 3, 3) := by decide +kernel
theorem dX0_init_4 : decode cX0_init 4 = .ok (.aload_n 0, 1) := by decide +kernel
theorem dX0_init_5 : decode cX0_init 5 = .ok (.bipush 12, 2) := by decide +kernel
theorem dX0_init_7 : decode cX0_init 7 = .ok (.newarray .int, 2) := by decide +kernel
theorem dX0_init_9 : decode cX0_init 9 = .ok (.putfield 9, 3) := by decide +kernel
theorem dX0_init_12 : decode cX0_init 12 = .ok (.aload_n 0, 1) := by decide +kernel
theorem dX0_init_13 : decode cX0_init 13 = .ok (.iconst 0, 1) := by decide +kernel
theorem dX0_init_14 : decode cX0_init 14 = .ok (.putfield 15, 3) := by decide +kernel
theorem dX0_init_17 : decode cX0_init 17 = .ok (.return_, 1) := by decide +kernel
theorem dX0_read_0 : decode cX0_read 0 = .ok (.aload_n 1, 1) := by decide +kernel
theorem dX0_read_1 : decode cX0_read 1 = .ok (.getfield 19, 3) := by decide +kernel
theorem dX0_read_4 : decode cX0_read 4 = .ok (.astore 4, 2) := by decide +kernel
theorem dX0_read_6 : decode cX0_read 6 = .ok (.aload_n 0, 1) := by decide +kernel
theorem dX0_read_7 : decode cX0_read 7 = .ok (.aload 4, 2) := by decide +kernel
theorem dX0_read_9 : decode cX0_read 9 = .ok (.getfield 25, 3) := by decide +kernel
theorem dX0_read_12 : decode cX0_read 12 = .ok (.putfield 15, 3) := by decide +kernel
theorem dX0_read_15 : decode cX0_read 15 = .ok (.iconst 0, 1) := by decide +kernel
theorem dX0_read_16 : decode cX0_read 16 = .ok (.istore 5, 2) := by decide +kernel
theorem dX0_read_18 : decode cX0_read 18 = .ok (.iload 5, 2) := by decide +kernel
theorem dX0_read_20 : decode cX0_read 20 = .ok (.aload_n 0, 1) := by decide +kernel
theorem dX0_read_21 : decode cX0_read 21 = .ok (.getfield 15, 3) := by decide +kernel
theorem dX0_read_24 : decode cX0_read 24 = .ok (.if_icmp .ge 17, 3) := by decide +kernel
theorem dX0_read_27 : decode cX0_read 27 = .ok (.aload_n 0, 1) := by decide +kernel
theorem dX0_read_28 : decode cX0_read 28 = .ok (.getfield 9, 3) := by decide +kernel
theorem dX0_read_31 : decode cX0_read 31 = .ok (.iload 5, 2) := by decide +kernel
theorem dX0_read_33 : decode cX0_read 33 = .ok (.iconst 0, 1) := by decide +kernel
theorem dX0_read_34 : decode cX0_read 34 = .ok (.iastore, 1) := by decide +kernel
theorem dX0_read_35 : decode cX0_read 35 = .ok (.iinc 5 1, 3) := by decide +kernel
theorem dX0_read_38 : decode cX0_read 38 = .ok (.goto (-20), 3) := by decide +kernel
theorem dX0_read_41 : decode cX0_read 41 = .ok (.iconst 0, 1) := by decide +kernel
theorem dX0_read_42 : decode cX0_read 42 = .ok (.istore 5, 2) := by decide +kernel
theorem dX0_read_44 : decode cX0_read 44 = .ok (.iload_n 2, 1) := by decide +kernel
theorem dX0_read_45 : decode cX0_read 45 = .ok (.istore 6, 2) := by decide +kernel
theorem dX0_read_47 : decode cX0_read 47 = .ok (.iconst 0, 1) := by decide +kernel
theorem dX0_read_48 : decode cX0_read 48 = .ok (.istore 7, 2) := by decide +kernel
theorem dX0_read_50 : decode cX0_read 50 = .ok (.iload 7, 2) := by decide +kernel
theorem dX0_read_52 : decode cX0_read 52 = .ok (.iload_n 3, 1) := by decide +kernel
theorem dX0_read_53 : decode cX0_read 53 = .ok (.if_icmp .ge 117, 3) := by decide +kernel
theorem dX0_read_56 : decode cX0_read 56 = .ok (.iconst 1, 1) := by decide +kernel
theorem dX0_read_57 : decode cX0_read 57 = .ok (.istore 8, 2) := by decide +kernel
theorem dX0_read_59 : decode cX0_read 59 = .ok (.iconst 0, 1) := by decide +kernel
theorem dX0_read_60 : decode cX0_read 60 = .ok (.istore 9, 2) := by decide +kernel
theorem dX0_read_62 : decode cX0_read 62 = .ok (.iload 9, 2) := by decide +kernel
theorem dX0_read_64 : decode cX0_read 64 = .ok (.aload_n 0, 1) := by decide +kernel
theorem dX0_read_65 : decode cX0_read 65 = .ok (.getfield 15, 3) := by decide +kernel
theorem dX0_read_68 : decode cX0_read 68 = .ok (.if_icmp .ge 88, 3) := by decide +kernel
theorem dX0_read_71 : decode cX0_read 71 = .ok (.iload 6, 2) := by decide +kernel
theorem dX0_read_73 : decode cX0_read 73 = .ok (.sipush 1103, 3) := by decide +kernel
theorem dX0_read_76 : decode cX0_read 76 = .ok (.imul, 1) := by decide +kernel
theorem dX0_read_77 : decode cX0_read 77 = .ok (.sipush 12345, 3) := by decide +kernel
theorem dX0_read_80 : decode cX0_read 80 = .ok (.iadd, 1) := by decide +kernel
theorem dX0_read_81 : decode cX0_read 81 = .ok (.ldc 28, 2) := by decide +kernel
theorem dX0_read_83 : decode cX0_read 83 = .ok (.irem, 1) := by decide +kernel
theorem dX0_read_84 : decode cX0_read 84 = .ok (.istore 6, 2) := by decide +kernel
theorem dX0_read_86 : decode cX0_read 86 = .ok (.iload 6, 2) := by decide +kernel
theorem dX0_read_88 : decode cX0_read 88 = .ok (.bipush 10, 2) := by decide +kernel
theorem dX0_read_90 : decode cX0_read 90 = .ok (.irem, 1) := by decide +kernel
theorem dX0_read_91 : decode cX0_read 91 = .ok (.aload_n 1, 1) := by decide +kernel
theorem dX0_read_92 : decode cX0_read 92 = .ok (.getfield 29, 3) := by decide +kernel
theorem dX0_read_95 : decode cX0_read 95 = .ok (.getfield 33, 3) := by decide +kernel
theorem dX0_read_98 : decode cX0_read 98 = .ok (.aload 4, 2) := by decide +kernel
theorem dX0_read_100 : decode cX0_read 100 = .ok (.getfield 38, 3) := by decide +kernel
theorem dX0_read_103 : decode cX0_read 103 = .ok (.iload 9, 2) := by decide +kernel
theorem dX0_read_105 : decode cX0_read 105 = .ok (.iaload, 1) := by decide +kernel
theorem dX0_read_106 : decode cX0_read 106 = .ok (.iaload, 1) := by decide +kernel
theorem dX0_read_107 : decode cX0_read 107 = .ok (.if_icmp .ge 7, 3) := by decide +kernel
theorem dX0_read_110 : decode cX0_read 110 = .ok (.iconst 1, 1) := by decide +kernel
theorem dX0_read_111 : decode cX0_read 111 = .ok (.goto 4, 3) := by decide +kernel
theorem dX0_read_114 : decode cX0_read 114 = .ok (.iconst 0, 1) := by decide +kernel
theorem dX0_read_115 : decode cX0_read 115 = .ok (.istore 10, 2) := by decide +kernel
theorem dX0_read_117 : decode cX0_read 117 = .ok (.iload 10, 2) := by decide +kernel
theorem dX0_read_119 : decode cX0_read 119 = .ok (.ifCond .eq 14, 3) := by decide +kernel
theorem dX0_read_122 : decode cX0_read 122 = .ok (.aload_n 0, 1) := by decide +kernel
theorem dX0_read_123 : decode cX0_read 123 = .ok (.getfield 9, 3) := by decide +kernel
theorem dX0_read_126 : decode cX0_read 126 = .ok (.iload 9, 2) := by decide +kernel
theorem dX0_read_128 : decode cX0_read 128 = .ok (.dup2, 1) := by decide +kernel
theorem dX0_read_129 : decode cX0_read 129 = .ok (.iaload, 1) := by decide +kernel
theorem dX0_read_130 : decode cX0_read 130 = .ok (.iconst 1, 1) := by decide +kernel
theorem dX0_read_131 : decode cX0_read 131 = .ok (.iadd, 1) := by decide +kernel
theorem dX0_read_132 : decode cX0_read 132 = .ok (.iastore, 1) := by decide +kernel
theorem dX0_read_133 : decode cX0_read 133 = .ok (.iload 8, 2) := by decide +kernel
theorem dX0_read_135 : decode cX0_read 135 = .ok (.ifCond .eq 12, 3) := by decide +kernel
theorem dX0_read_138 : decode cX0_read 138 = .ok (.iload 10, 2) := by decide +kernel
theorem dX0_read_140 : decode cX0_read 140 = .ok (.ifCond .eq 7, 3) := by decide +kernel
theorem dX0_read_143 : decode cX0_read 143 = .ok (.iconst 1, 1) := by decide +kernel
theorem dX0_read_144 : decode cX0_read 144 = .ok (.goto 4, 3) := by decide +kernel
theorem dX0_read_147 : decode cX0_read 147 = .ok (.iconst 0, 1) := by decide +kernel
theorem dX0_read_148 : decode cX0_read 148 = .ok (.istore 8, 2) := by decide +kernel
theorem dX0_read_150 : decode cX0_read 150 = .ok (.iinc 9 1, 3) := by decide +kernel
theorem dX0_read_153 : decode cX0_read 153 = .ok (.goto (-91), 3) := by decide +kernel
theorem dX0_read_156 : decode cX0_read 156 = .ok (.iload 8, 2) := by decide +kernel
theorem dX0_read_158 : decode cX0_read 158 = .ok (.ifCond .eq 6, 3) := by decide +kernel
theorem dX0_read_161 : decode cX0_read 161 = .ok (.iinc 5 1, 3) := by decide +kernel
theorem dX0_read_164 : decode cX0_read 164 = .ok (.iinc 7 1, 3) := by decide +kernel
theorem dX0_read_167 : decode cX0_read 167 = .ok (.goto (-117), 3) := by decide +kernel
theorem dX0_read_170 : decode cX0_read 170 = .ok (.iload 5, 2) := by decide +kernel
theorem dX0_read_172 : decode cX0_read 172 = .ok (.ireturn, 1) := by decide +kernel
theorem dX1_init_0 : decode cX1_init 0 = .ok (.aload_n 0, 1) := by decide +kernel
theorem dX1_init_1 : decode cX1_init 1 = .ok (.invokespecial 3, 3) := by decide +kernel
theorem dX1_init_4 : decode cX1_init 4 = .ok (.aload_n 0, 1) := by decide +kernel
theorem dX1_init_5 : decode cX1_init 5 = .ok (.bipush 27, 2) := by decide +kernel
theorem dX1_init_7 : decode cX1_init 7 = .ok (.newarray .int, 2) := by decide +kernel
theorem dX1_init_9 : decode cX1_init 9 = .ok (.putfield 9, 3) := by decide +kernel
theorem dX1_init_12 : decode cX1_init 12 = .ok (.aload_n 0, 1) := by decide +kernel
theorem dX1_init_13 : decode cX1_init 13 = .ok (.bipush 8, 2) := by decide +kernel
theorem dX1_init_15 : decode cX1_init 15 = .ok (.newarray .int, 2) := by decide +kernel
theorem dX1_init_17 : decode cX1_init 17 = .ok (.putfield 15, 3) := by decide +kernel
theorem dX1_init_20 : decode cX1_init 20 = .ok (.aload_n 0, 1) := by decide +kernel
theorem dX1_init_21 : decode cX1_init 21 = .ok (.iconst 2, 1) := by decide +kernel
theorem dX1_init_22 : decode cX1_init 22 = .ok (.newarray .int, 2) := by decide +kernel
theorem dX1_init_24 : decode cX1_init 24 = .ok (.putfield 18, 3) := by decide +kernel
theorem dX1_init_27 : decode cX1_init 27 = .ok (.aload_n 0, 1) := by decide +kernel
theorem dX1_init_28 : decode cX1_init 28 = .ok (.new 21, 3) := by decide +kernel
theorem dX1_init_31 : decode cX1_init 31 = .ok (.dup, 1) := by decide +kernel
theorem dX1_init_32 : decode cX1_init 32 = .ok (.invokespecial 23, 3) := by decide +kernel
theorem dX1_init_35 : decode cX1_init 35 = .ok (.putfield 24, 3) := by decide +kernel
theorem dX1_init_38 : decode cX1_init 38 = .ok (.aload_n 0, 1) := by decide +kernel
theorem dX1_init_39 : decode cX1_init 39 = .ok (.bipush 6, 2) := by decide +kernel
theorem dX1_init_41 : decode cX1_init 41 = .ok (.anewarray 28, 3) := by decide +kernel
theorem dX1_init_44 : decode cX1_init 44 = .ok (.putfield 30, 3) := by decide +kernel
theorem dX1_init_47 : decode cX1_init 47 = .ok (.aload_n 0, 1) := by decide +kernel
theorem dX1_init_48 : decode cX1_init 48 = .ok (.bipush 6, 2) := by decide +kernel
theorem dX1_init_50 : decode cX1_init 50 = .ok (.newarray .int, 2) := by decide +kernel
theorem dX1_init_52 : decode cX1_init 52 = .ok (.putfield 34, 3) := by decide +kernel
theorem dX1_init_55 : decode cX1_init 55 = .ok (.aload_n 0, 1) := by decide +kernel
theorem dX1_init_56 : decode cX1_init 56 = .ok (.iconst 4, 1) := by decide +kernel
theorem dX1_init_57 : decode cX1_init 57 = .ok (.newarray .int, 2) := by decide +kernel
theorem dX1_init_59 : decode cX1_init 59 = .ok (.putfield 37, 3) := by decide +kernel
theorem dX1_init_62 : decode cX1_init 62 = .ok (.aload_n 0, 1) := by decide +kernel
theorem dX1_init_63 : decode cX1_init 63 = .ok (.new 40, 3) := by decide +kernel
theorem dX1_init_66 : decode cX1_init 66 = .ok (.dup, 1) := by decide +kernel
theorem dX1_init_67 : decode cX1_init 67 = .ok (.invokespecial 42, 3) := by decide +kernel
theorem dX1_init_70 : decode cX1_init 70 = .ok (.putfield 43, 3) := by decide +kernel
theorem dX1_init_73 : decode cX1_init 73 = .ok (.aload_n 0, 1) := by decide +kernel
theorem dX1_init_74 : decode cX1_init 74 = .ok (.bipush 8, 2) := by decide +kernel
theorem dX1_init_76 : decode cX1_init 76 = .ok (.newarray .int, 2) := by decide +kernel
theorem dX1_init_78 : decode cX1_init 78 = .ok (.putfield 47, 3) := by decide +kernel
theorem dX1_init_81 : decode cX1_init 81 = .ok (.aload_n 0, 1) := by decide +kernel
theorem dX1_init_82 : decode cX1_init 82 = .ok (.bipush 8, 2) := by decide +kernel
theorem dX1_init_84 : decode cX1_init 84 = .ok (.newarray .int, 2) := by decide +kernel
theorem dX1_init_86 : decode cX1_init 86 = .ok (.putfield 50, 3) := by decide +kernel
theorem dX1_init_89 : decode cX1_init 89 = .ok (.aload_n 0, 1) := by decide +kernel
theorem dX1_init_90 : decode cX1_init 90 = .ok (.bipush 8, 2) := by decide +kernel
theorem dX1_init_92 : decode cX1_init 92 = .ok (.newarray .int, 2) := by decide +kernel
theorem dX1_init_94 : decode cX1_init 94 = .ok (.putfield 53, 3) := by decide +kernel
theorem dX1_init_97 : decode cX1_init 97 = .ok (.aload_n 0, 1) := by decide +kernel
theorem dX1_init_98 : decode cX1_init 98 = .ok (.bipush 8, 2) := by decide +kernel
theorem dX1_init_100 : decode cX1_init 100 = .ok (.newarray .int, 2) := by decide +kernel
theorem dX1_init_102 : decode cX1_init 102 = .ok (.putfield 56, 3) := by decide +kernel
theorem dX1_init_105 : decode cX1_init 105 = .ok (.aload_n 0, 1) := by decide +kernel
theorem dX1_init_106 : decode cX1_init 106 = .ok (.bipush 100, 2) := by decide +kernel
theorem dX1_init_108 : decode cX1_init 108 = .ok (.putfield 59, 3) := by decide +kernel
theorem dX1_init_111 : decode cX1_init 111 = .ok (.aload_n 0, 1) := by decide +kernel
theorem dX1_init_112 : decode cX1_init 112 = .ok (.iconst 3, 1) := by decide +kernel
theorem dX1_init_113 : decode cX1_init 113 = .ok (.putfield 63, 3) := by decide +kernel
theorem dX1_init_116 : decode cX1_init 116 = .ok (.aload_n 0, 1) := by decide +kernel
theorem dX1_init_117 : decode cX1_init 117 = .ok (.iconst 0, 1) := by decide +kernel
theorem dX1_init_118 : decode cX1_init 118 = .ok (.putfield 66, 3) := by decide +kernel
theorem dX1_init_121 : decode cX1_init 121 = .ok (.aload_n 0, 1) := by decide +kernel
theorem dX1_init_122 : decode cX1_init 122 = .ok (.iconst 0, 1) := by decide +kernel
theorem dX1_init_123 : decode cX1_init 123 = .ok (.putfield 69, 3) := by decide +kernel
theorem dX1_init_126 : decode cX1_init 126 = .ok (.aload_n 0, 1) := by decide +kernel
theorem dX1_init_127 : decode cX1_init 127 = .ok (.iconst (-1), 1) := by decide +kernel
theorem dX1_init_128 : decode cX1_init 128 = .ok (.putfield 72, 3) := by decide +kernel
theorem dX1_init_131 : decode cX1_init 131 = .ok (.aload_n 0, 1) := by decide +kernel
theorem dX1_init_132 : decode cX1_init 132 = .ok (.iconst 0, 1) := by decide +kernel
theorem dX1_init_133 : decode cX1_init 133 = .ok (.putfield 75, 3) := by decide +kernel
theorem dX1_init_136 : decode cX1_init 136 = .ok (.aload_n 0, 1) := by decide +kernel
theorem dX1_init_137 : decode cX1_init 137 = .ok (.iconst 0, 1) := by decide +kernel
theorem dX1_init_138 : decode cX1_init 138 = .ok (.putfield 78, 3) := by decide +kernel
theorem dX1_init_141 : decode cX1_init 141 = .ok (.aload_n 0, 1) := by decide +kernel
theorem dX1_init_142 : decode cX1_init 142 = .ok (.iconst 0, 1) := by decide +kernel
theorem dX1_init_143 : decode cX1_init 143 = .ok (.putfield 81, 3) := by decide +kernel
theorem dX1_init_146 : decode cX1_init 146 = .ok (.iconst 0, 1) := by decide +kernel
theorem dX1_init_147 : decode cX1_init 147 = .ok (.istore_n 1, 1) := by decide +kernel
theorem dX1_init_148 : decode cX1_init 148 = .ok (.iload_n 1, 1) := by decide +kernel
theorem dX1_init_149 : decode cX1_init 149 = .ok (.bipush 26, 2) := by decide +kernel
theorem dX1_init_151 : decode cX1_init 151 = .ok (.if_icmp .ge 17, 3) := by decide +kernel
theorem dX1_init_154 : decode cX1_init 154 = .ok (.aload_n 0, 1) := by decide +kernel
theorem dX1_init_155 : decode cX1_init 155 = .ok (.getfield 9, 3) := by decide +kernel
theorem dX1_init_158 : decode cX1_init 158 = .ok (.iload_n 1, 1) := by decide +kernel
theorem dX1_init_159 : decode cX1_init 159 = .ok (.bipush 10, 2) := by decide +kernel
theorem dX1_init_161 : decode cX1_init 161 = .ok (.iastore, 1) := by decide +kernel
theorem dX1_init_162 : decode cX1_init 162 = .ok (.iinc 1 1, 3) := by decide +kernel
theorem dX1_init_165 : decode cX1_init 165 = .ok (.goto (-17), 3) := by decide +kernel
theorem dX1_init_168 : decode cX1_init 168 = .ok (.aload_n 0, 1) := by decide +kernel
theorem dX1_init_169 : decode cX1_init 169 = .ok (.getfield 9, 3) := by decide +kernel
theorem dX1_init_172 : decode cX1_init 172 = .ok (.bipush 26, 2) := by decide +kernel
theorem dX1_init_174 : decode cX1_init 174 = .ok (.iconst 5, 1) := by decide +kernel
theorem dX1_init_175 : decode cX1_init 175 = .ok (.iastore, 1) := by decide +kernel
theorem dX1_init_176 : decode cX1_init 176 = .ok (.iconst 0, 1) := by decide +kernel
theorem dX1_init_177 : decode cX1_init 177 = .ok (.istore_n 1, 1) := by decide +kernel
theorem dX1_init_178 : decode cX1_init 178 = .ok (.iload_n 1, 1) := by decide +kernel
theorem dX1_init_179 : decode cX1_init 179 = .ok (.bipush 8, 2) := by decide +kernel
theorem dX1_init_181 : decode cX1_init 181 = .ok (.if_icmp .ge 16, 3) := by decide +kernel
theorem dX1_init_184 : decode cX1_init 184 = .ok (.aload_n 0, 1) := by decide +kernel
theorem dX1_init_185 : decode cX1_init 185 = .ok (.getfield 15, 3) := by decide +kernel
theorem dX1_init_188 : decode cX1_init 188 = .ok (.iload_n 1, 1) := by decide +kernel
theorem dX1_init_189 : decode cX1_init 189 = .ok (.iconst 1, 1) := by decide +kernel
theorem dX1_init_190 : decode cX1_init 190 = .ok (.iastore, 1) := by decide +kernel
theorem dX1_init_191 : decode cX1_init 191 = .ok (.iinc 1 1, 3) := by decide +kernel
theorem dX1_init_194 : decode cX1_init 194 = .ok (.goto (-16), 3) := by decide +kernel
theorem dX1_init_197 : decode cX1_init 197 = .ok (.iconst 0, 1) := by decide +kernel
theorem dX1_init_198 : decode cX1_init 198 = .ok (.istore_n 1, 1) := by decide +kernel
theorem dX1_init_199 : decode cX1_init 199 = .ok (.iload_n 1, 1) := by decide +kernel
theorem dX1_init_200 : decode cX1_init 200 = .ok (.iconst 4, 1) := by decide +kernel
theorem dX1_init_201 : decode cX1_init 201 = .ok (.if_icmp .ge 16, 3) := by decide +kernel
theorem dX1_init_204 : decode cX1_init 204 = .ok (.aload_n 0, 1) := by decide +kernel
theorem dX1_init_205 : decode cX1_init 205 = .ok (.getfield 37, 3) := by decide +kernel
theorem dX1_init_208 : decode cX1_init 208 = .ok (.iload_n 1, 1) := by decide +kernel
theorem dX1_init_209 : decode cX1_init 209 = .ok (.iconst (-1), 1) := by decide +kernel
theorem dX1_init_210 : decode cX1_init 210 = .ok (.iastore, 1) := by decide +kernel
theorem dX1_init_211 : decode cX1_init 211 = .ok (.iinc 1 1, 3) := by decide +kernel
theorem dX1_init_214 : decode cX1_init 214 = .ok (.goto (-15), 3) := by decide +kernel
theorem dX1_init_217 : decode cX1_init 217 = .ok (.return_, 1) := by decide +kernel
theorem dX1_letterWidth_0 : decode cX1_letterWidth 0 = .ok (.aload_n 0, 1) := by decide +kernel
theorem dX1_letterWidth_1 : decode cX1_letterWidth 1 = .ok (.getfield 9, 3) := by decide +kernel
theorem dX1_letterWidth_4 : decode cX1_letterWidth 4 = .ok (.iload_n 1, 1) := by decide +kernel
theorem dX1_letterWidth_5 : decode cX1_letterWidth 5 = .ok (.iaload, 1) := by decide +kernel
theorem dX1_letterWidth_6 : decode cX1_letterWidth 6 = .ok (.iload_n 2, 1) := by decide +kernel
theorem dX1_letterWidth_7 : decode cX1_letterWidth 7 = .ok (.iconst 2, 1) := by decide +kernel
theorem dX1_letterWidth_8 : decode cX1_letterWidth 8 = .ok (.iadd, 1) := by decide +kernel
theorem dX1_letterWidth_9 : decode cX1_letterWidth 9 = .ok (.imul, 1) := by decide +kernel
theorem dX1_letterWidth_10 : decode cX1_letterWidth 10 = .ok (.iconst 2, 1) := by decide +kernel
theorem dX1_letterWidth_11 : decode cX1_letterWidth 11 = .ok (.idiv, 1) := by decide +kernel
theorem dX1_letterWidth_12 : decode cX1_letterWidth 12 = .ok (.ireturn, 1) := by decide +kernel
theorem dX1_wordWidth_0 : decode cX1_wordWidth 0 = .ok (.iconst 0, 1) := by decide +kernel
theorem dX1_wordWidth_1 : decode cX1_wordWidth 1 = .ok (.istore_n 3, 1) := by decide +kernel
theorem dX1_wordWidth_2 : decode cX1_wordWidth 2 = .ok (.iload_n 1, 1) := by decide +kernel
theorem dX1_wordWidth_3 : decode cX1_wordWidth 3 = .ok (.bipush 9, 2) := by decide +kernel
theorem dX1_wordWidth_5 : decode cX1_wordWidth 5 = .ok (.imul, 1) := by decide +kernel
theorem dX1_wordWidth_6 : decode cX1_wordWidth 6 = .ok (.istore 4, 2) := by decide +kernel
theorem dX1_wordWidth_8 : decode cX1_wordWidth 8 = .ok (.iconst 0, 1) := by decide +kernel
theorem dX1_wordWidth_9 : decode cX1_wordWidth 9 = .ok (.istore 5, 2) := by decide +kernel
theorem dX1_wordWidth_11 : decode cX1_wordWidth 11 = .ok (.iload 5, 2) := by decide +kernel
theorem dX1_wordWidth_13 : decode cX1_wordWidth 13 = .ok (.aload_n 0, 1) := by decide +kernel
theorem dX1_wordWidth_14 : decode cX1_wordWidth 14 = .ok (.getfield 24, 3) := by decide +kernel
theorem dX1_wordWidth_17 : decode cX1_wordWidth 17 = .ok (.getfield 84, 3) := by decide +kernel
theorem dX1_wordWidth_20 : decode cX1_wordWidth 20 = .ok (.iload_n 1, 1) := by decide +kernel
theorem dX1_wordWidth_21 : decode cX1_wordWidth 21 = .ok (.iaload, 1) := by decide +kernel
theorem dX1_wordWidth_22 : decode cX1_wordWidth 22 = .ok (.if_icmp .ge 30, 3) := by decide +kernel
theorem dX1_wordWidth_25 : decode cX1_wordWidth 25 = .ok (.iload_n 3, 1) := by decide +kernel
theorem dX1_wordWidth_26 : decode cX1_wordWidth 26 = .ok (.aload_n 0, 1) := by decide +kernel
theorem dX1_wordWidth_27 : decode cX1_wordWidth 27 = .ok (.aload_n 0, 1) := by decide +kernel
theorem dX1_wordWidth_28 : decode cX1_wordWidth 28 = .ok (.getfield 24, 3) := by decide +kernel
theorem dX1_wordWidth_31 : decode cX1_wordWidth 31 = .ok (.getfield 87, 3) := by decide +kernel
theorem dX1_wordWidth_34 : decode cX1_wordWidth 34 = .ok (.iload 4, 2) := by decide +kernel
theorem dX1_wordWidth_36 : decode cX1_wordWidth 36 = .ok (.iload 5, 2) := by decide +kernel
theorem dX1_wordWidth_38 : decode cX1_wordWidth 38 = .ok (.iadd, 1) := by decide +kernel
theorem dX1_wordWidth_39 : decode cX1_wordWidth 39 = .ok (.baload, 1) := by decide +kernel
theorem dX1_wordWidth_40 : decode cX1_wordWidth 40 = .ok (.iload_n 2, 1) := by decide +kernel
theorem dX1_wordWidth_41 : decode cX1_wordWidth 41 = .ok (.invokevirtual 91, 3) := by decide +kernel
theorem dX1_wordWidth_44 : decode cX1_wordWidth 44 = .ok (.iadd, 1) := by decide +kernel
theorem dX1_wordWidth_45 : decode cX1_wordWidth 45 = .ok (.istore_n 3, 1) := by decide +kernel
theorem dX1_wordWidth_46 : decode cX1_wordWidth 46 = .ok (.iinc 5 1, 3) := by decide +kernel
theorem dX1_wordWidth_49 : decode cX1_wordWidth 49 = .ok (.goto (-38), 3) := by decide +kernel
theorem dX1_wordWidth_52 : decode cX1_wordWidth 52 = .ok (.iload_n 3, 1) := by decide +kernel
theorem dX1_wordWidth_53 : decode cX1_wordWidth 53 = .ok (.ireturn, 1) := by decide +kernel
theorem dX1_lineWidth_0 : decode cX1_lineWidth 0 = .ok (.iconst 0, 1) := by decide +kernel
theorem dX1_lineWidth_1 : decode cX1_lineWidth 1 = .ok (.istore_n 2, 1) := by decide +kernel
theorem dX1_lineWidth_2 : decode cX1_lineWidth 2 = .ok (.iconst 0, 1) := by decide +kernel
theorem dX1_lineWidth_3 : decode cX1_lineWidth 3 = .ok (.istore_n 3, 1) := by decide +kernel
theorem dX1_lineWidth_4 : decode cX1_lineWidth 4 = .ok (.iconst 0, 1) := by decide +kernel
theorem dX1_lineWidth_5 : decode cX1_lineWidth 5 = .ok (.istore 4, 2) := by decide +kernel
theorem dX1_lineWidth_7 : decode cX1_lineWidth 7 = .ok (.iload 4, 2) := by decide +kernel
theorem dX1_lineWidth_9 : decode cX1_lineWidth 9 = .ok (.aload_n 0, 1) := by decide +kernel
theorem dX1_lineWidth_10 : decode cX1_lineWidth 10 = .ok (.getfield 43, 3) := by decide +kernel
theorem dX1_lineWidth_13 : decode cX1_lineWidth 13 = .ok (.getfield 95, 3) := by decide +kernel
theorem dX1_lineWidth_16 : decode cX1_lineWidth 16 = .ok (.if_icmp .ge 50, 3) := by decide +kernel
theorem dX1_lineWidth_19 : decode cX1_lineWidth 19 = .ok (.aload_n 0, 1) := by decide +kernel
theorem dX1_lineWidth_20 : decode cX1_lineWidth 20 = .ok (.getfield 43, 3) := by decide +kernel
theorem dX1_lineWidth_23 : decode cX1_lineWidth 23 = .ok (.getfield 98, 3) := by decide +kernel
theorem dX1_lineWidth_26 : decode cX1_lineWidth 26 = .ok (.iload 4, 2) := by decide +kernel
theorem dX1_lineWidth_28 : decode cX1_lineWidth 28 = .ok (.iaload, 1) := by decide +kernel
theorem dX1_lineWidth_29 : decode cX1_lineWidth 29 = .ok (.iload_n 1, 1) := by decide +kernel
theorem dX1_lineWidth_30 : decode cX1_lineWidth 30 = .ok (.if_icmp .eq 6, 3) := by decide +kernel
theorem dX1_lineWidth_33 : decode cX1_lineWidth 33 = .ok (.goto 27, 3) := by decide +kernel
theorem dX1_lineWidth_36 : decode cX1_lineWidth 36 = .ok (.iload_n 2, 1) := by decide +kernel
theorem dX1_lineWidth_37 : decode cX1_lineWidth 37 = .ok (.aload_n 0, 1) := by decide +kernel
theorem dX1_lineWidth_38 : decode cX1_lineWidth 38 = .ok (.aload_n 0, 1) := by decide +kernel
theorem dX1_lineWidth_39 : decode cX1_lineWidth 39 = .ok (.getfield 43, 3) := by decide +kernel
theorem dX1_lineWidth_42 : decode cX1_lineWidth 42 = .ok (.getfield 100, 3) := by decide +kernel
theorem dX1_lineWidth_45 : decode cX1_lineWidth 45 = .ok (.iload 4, 2) := by decide +kernel
theorem dX1_lineWidth_47 : decode cX1_lineWidth 47 = .ok (.iaload, 1) := by decide +kernel
theorem dX1_lineWidth_48 : decode cX1_lineWidth 48 = .ok (.aload_n 0, 1) := by decide +kernel
theorem dX1_lineWidth_49 : decode cX1_lineWidth 49 = .ok (.getfield 66, 3) := by decide +kernel
theorem dX1_lineWidth_52 : decode cX1_lineWidth 52 = .ok (.invokevirtual 102, 3) := by decide +kernel
theorem dX1_lineWidth_55 : decode cX1_lineWidth 55 = .ok (.iadd, 1) := by decide +kernel
theorem dX1_lineWidth_56 : decode cX1_lineWidth 56 = .ok (.istore_n 2, 1) := by decide +kernel
theorem dX1_lineWidth_57 : decode cX1_lineWidth 57 = .ok (.iinc 3 1, 3) := by decide +kernel
theorem dX1_lineWidth_60 : decode cX1_lineWidth 60 = .ok (.iinc 4 1, 3) := by decide +kernel
theorem dX1_lineWidth_63 : decode cX1_lineWidth 63 = .ok (.goto (-56), 3) := by decide +kernel
theorem dX1_lineWidth_66 : decode cX1_lineWidth 66 = .ok (.iload_n 2, 1) := by decide +kernel
theorem dX1_lineWidth_67 : decode cX1_lineWidth 67 = .ok (.iconst 0, 1) := by decide +kernel
theorem dX1_lineWidth_68 : decode cX1_lineWidth 68 = .ok (.iload_n 3, 1) := by decide +kernel
theorem dX1_lineWidth_69 : decode cX1_lineWidth 69 = .ok (.iconst 1, 1) := by decide +kernel
theorem dX1_lineWidth_70 : decode cX1_lineWidth 70 = .ok (.isub, 1) := by decide +kernel
theorem dX1_lineWidth_71 : decode cX1_lineWidth 71 = .ok (.invokestatic 105, 3) := by decide +kernel
theorem dX1_lineWidth_74 : decode cX1_lineWidth 74 = .ok (.aload_n 0, 1) := by decide +kernel
theorem dX1_lineWidth_75 : decode cX1_lineWidth 75 = .ok (.bipush 26, 2) := by decide +kernel
theorem dX1_lineWidth_77 : decode cX1_lineWidth 77 = .ok (.aload_n 0, 1) := by decide +kernel
theorem dX1_lineWidth_78 : decode cX1_lineWidth 78 = .ok (.getfield 66, 3) := by decide +kernel
theorem dX1_lineWidth_81 : decode cX1_lineWidth 81 = .ok (.invokevirtual 91, 3) := by decide +kernel
theorem dX1_lineWidth_84 : decode cX1_lineWidth 84 = .ok (.imul, 1) := by decide +kernel
theorem dX1_lineWidth_85 : decode cX1_lineWidth 85 = .ok (.iadd, 1) := by decide +kernel
theorem dX1_lineWidth_86 : decode cX1_lineWidth 86 = .ok (.ireturn, 1) := by decide +kernel
theorem dX1_isAlike_0 : decode cX1_isAlike 0 = .ok (.aload_n 0, 1) := by decide +kernel
theorem dX1_isAlike_1 : decode cX1_isAlike 1 = .ok (.getfield 43, 3) := by decide +kernel
theorem dX1_isAlike_4 : decode cX1_isAlike 4 = .ok (.iload_n 1, 1) := by decide +kernel
theorem dX1_isAlike_5 : decode cX1_isAlike 5 = .ok (.invokevirtual 110, 3) := by decide +kernel
theorem dX1_isAlike_8 : decode cX1_isAlike 8 = .ok (.istore_n 2, 1) := by decide +kernel
theorem dX1_isAlike_9 : decode cX1_isAlike 9 = .ok (.aload_n 0, 1) := by decide +kernel
theorem dX1_isAlike_10 : decode cX1_isAlike 10 = .ok (.getfield 43, 3) := by decide +kernel
theorem dX1_isAlike_13 : decode cX1_isAlike 13 = .ok (.iload_n 1, 1) := by decide +kernel
theorem dX1_isAlike_14 : decode cX1_isAlike 14 = .ok (.iconst 1, 1) := by decide +kernel
theorem dX1_isAlike_15 : decode cX1_isAlike 15 = .ok (.isub, 1) := by decide +kernel
theorem dX1_isAlike_16 : decode cX1_isAlike 16 = .ok (.invokevirtual 110, 3) := by decide +kernel
theorem dX1_isAlike_19 : decode cX1_isAlike 19 = .ok (.istore_n 3, 1) := by decide +kernel
theorem dX1_isAlike_20 : decode cX1_isAlike 20 = .ok (.iload_n 2, 1) := by decide +kernel
theorem dX1_isAlike_21 : decode cX1_isAlike 21 = .ok (.iconst (-1), 1) := by decide +kernel
theorem dX1_isAlike_22 : decode cX1_isAlike 22 = .ok (.if_icmp .eq 24, 3) := by decide +kernel
theorem dX1_isAlike_25 : decode cX1_isAlike 25 = .ok (.iload_n 3, 1) := by decide +kernel
theorem dX1_isAlike_26 : decode cX1_isAlike 26 = .ok (.iconst (-1), 1) := by decide +kernel
theorem dX1_isAlike_27 : decode cX1_isAlike 27 = .ok (.if_icmp .eq 19, 3) := by decide +kernel
theorem dX1_isAlike_30 : decode cX1_isAlike 30 = .ok (.aload_n 0, 1) := by decide +kernel
theorem dX1_isAlike_31 : decode cX1_isAlike 31 = .ok (.getfield 24, 3) := by decide +kernel
theorem dX1_isAlike_34 : decode cX1_isAlike 34 = .ok (.iload_n 2, 1) := by decide +kernel
theorem dX1_isAlike_35 : decode cX1_isAlike 35 = .ok (.iload_n 3, 1) := by decide +kernel
theorem dX1_isAlike_36 : decode cX1_isAlike 36 = .ok (.invokevirtual 114, 3) := by decide +kernel
theorem dX1_isAlike_39 : decode cX1_isAlike 39 = .ok (.ifCond .eq 7, 3) := by decide +kernel
theorem dX1_isAlike_42 : decode cX1_isAlike 42 = .ok (.iconst 1, 1) := by decide +kernel
theorem dX1_isAlike_43 : decode cX1_isAlike 43 = .ok (.goto 4, 3) := by decide +kernel
theorem dX1_isAlike_46 : decode cX1_isAlike 46 = .ok (.iconst 0, 1) := by decide +kernel
theorem dX1_isAlike_47 : decode cX1_isAlike 47 = .ok (.ireturn, 1) := by decide +kernel
theorem dX1_isEcho_0 : decode cX1_isEcho 0 = .ok (.iconst 0, 1) := by decide +kernel
theorem dX1_isEcho_1 : decode cX1_isEcho 1 = .ok (.istore_n 2, 1) := by decide +kernel
theorem dX1_isEcho_2 : decode cX1_isEcho 2 = .ok (.iload_n 2, 1) := by decide +kernel
theorem dX1_isEcho_3 : decode cX1_isEcho 3 = .ok (.aload_n 0, 1) := by decide +kernel
theorem dX1_isEcho_4 : decode cX1_isEcho 4 = .ok (.getfield 43, 3) := by decide +kernel
theorem dX1_isEcho_7 : decode cX1_isEcho 7 = .ok (.getfield 95, 3) := by decide +kernel
theorem dX1_isEcho_10 : decode cX1_isEcho 10 = .ok (.if_icmp .ge 42, 3) := by decide +kernel
theorem dX1_isEcho_13 : decode cX1_isEcho 13 = .ok (.aload_n 0, 1) := by decide +kernel
theorem dX1_isEcho_14 : decode cX1_isEcho 14 = .ok (.getfield 43, 3) := by decide +kernel
theorem dX1_isEcho_17 : decode cX1_isEcho 17 = .ok (.getfield 98, 3) := by decide +kernel
theorem dX1_isEcho_20 : decode cX1_isEcho 20 = .ok (.iload_n 2, 1) := by decide +kernel
theorem dX1_isEcho_21 : decode cX1_isEcho 21 = .ok (.iaload, 1) := by decide +kernel
theorem dX1_isEcho_22 : decode cX1_isEcho 22 = .ok (.iload_n 1, 1) := by decide +kernel
theorem dX1_isEcho_23 : decode cX1_isEcho 23 = .ok (.if_icmp .ne 23, 3) := by decide +kernel
theorem dX1_isEcho_26 : decode cX1_isEcho 26 = .ok (.aload_n 0, 1) := by decide +kernel
theorem dX1_isEcho_27 : decode cX1_isEcho 27 = .ok (.getfield 43, 3) := by decide +kernel
theorem dX1_isEcho_30 : decode cX1_isEcho 30 = .ok (.getfield 100, 3) := by decide +kernel
theorem dX1_isEcho_33 : decode cX1_isEcho 33 = .ok (.iload_n 2, 1) := by decide +kernel
theorem dX1_isEcho_34 : decode cX1_isEcho 34 = .ok (.iaload, 1) := by decide +kernel
theorem dX1_isEcho_35 : decode cX1_isEcho 35 = .ok (.aload_n 0, 1) := by decide +kernel
theorem dX1_isEcho_36 : decode cX1_isEcho 36 = .ok (.getfield 37, 3) := by decide +kernel
theorem dX1_isEcho_39 : decode cX1_isEcho 39 = .ok (.iload_n 1, 1) := by decide +kernel
theorem dX1_isEcho_40 : decode cX1_isEcho 40 = .ok (.iaload, 1) := by decide +kernel
theorem dX1_isEcho_41 : decode cX1_isEcho 41 = .ok (.if_icmp .ne 5, 3) := by decide +kernel
theorem dX1_isEcho_44 : decode cX1_isEcho 44 = .ok (.iconst 1, 1) := by decide +kernel
theorem dX1_isEcho_45 : decode cX1_isEcho 45 = .ok (.ireturn, 1) := by decide +kernel
theorem dX1_isEcho_46 : decode cX1_isEcho 46 = .ok (.iinc 2 1, 3) := by decide +kernel
theorem dX1_isEcho_49 : decode cX1_isEcho 49 = .ok (.goto (-47), 3) := by decide +kernel
theorem dX1_isEcho_52 : decode cX1_isEcho 52 = .ok (.iconst 0, 1) := by decide +kernel
theorem dX1_isEcho_53 : decode cX1_isEcho 53 = .ok (.ireturn, 1) := by decide +kernel
theorem dX1_mayStandFor_0 : decode cX1_mayStandFor 0 = .ok (.aload_n 0, 1) := by decide +kernel
theorem dX1_mayStandFor_1 : decode cX1_mayStandFor 1 = .ok (.getfield 43, 3) := by decide +kernel
theorem dX1_mayStandFor_4 : decode cX1_mayStandFor 4 = .ok (.getfield 100, 3) := by decide +kernel
theorem dX1_mayStandFor_7 : decode cX1_mayStandFor 7 = .ok (.iload_n 1, 1) := by decide +kernel
theorem dX1_mayStandFor_8 : decode cX1_mayStandFor 8 = .ok (.iaload, 1) := by decide +kernel
theorem dX1_mayStandFor_9 : decode cX1_mayStandFor 9 = .ok (.istore_n 3, 1) := by decide +kernel
theorem dX1_mayStandFor_10 : decode cX1_mayStandFor 10 = .ok (.iload_n 2, 1) := by decide +kernel
theorem dX1_mayStandFor_11 : decode cX1_mayStandFor 11 = .ok (.iload_n 3, 1) := by decide +kernel
theorem dX1_mayStandFor_12 : decode cX1_mayStandFor 12 = .ok (.if_icmp .eq 28, 3) := by decide +kernel
theorem dX1_mayStandFor_15 : decode cX1_mayStandFor 15 = .ok (.aload_n 0, 1) := by decide +kernel
theorem dX1_mayStandFor_16 : decode cX1_mayStandFor 16 = .ok (.getfield 24, 3) := by decide +kernel
theorem dX1_mayStandFor_19 : decode cX1_mayStandFor 19 = .ok (.getfield 118, 3) := by decide +kernel
theorem dX1_mayStandFor_22 : decode cX1_mayStandFor 22 = .ok (.iload_n 2, 1) := by decide +kernel
theorem dX1_mayStandFor_23 : decode cX1_mayStandFor 23 = .ok (.iaload, 1) := by decide +kernel
theorem dX1_mayStandFor_24 : decode cX1_mayStandFor 24 = .ok (.aload_n 0, 1) := by decide +kernel
theorem dX1_mayStandFor_25 : decode cX1_mayStandFor 25 = .ok (.getfield 24, 3) := by decide +kernel
theorem dX1_mayStandFor_28 : decode cX1_mayStandFor 28 = .ok (.getfield 118, 3) := by decide +kernel
theorem dX1_mayStandFor_31 : decode cX1_mayStandFor 31 = .ok (.iload_n 3, 1) := by decide +kernel
theorem dX1_mayStandFor_32 : decode cX1_mayStandFor 32 = .ok (.iaload, 1) := by decide +kernel
theorem dX1_mayStandFor_33 : decode cX1_mayStandFor 33 = .ok (.if_icmp .ne 7, 3) := by decide +kernel
theorem dX1_mayStandFor_36 : decode cX1_mayStandFor 36 = .ok (.iconst 1, 1) := by decide +kernel
theorem dX1_mayStandFor_37 : decode cX1_mayStandFor 37 = .ok (.goto 4, 3) := by decide +kernel
theorem dX1_mayStandFor_40 : decode cX1_mayStandFor 40 = .ok (.iconst 0, 1) := by decide +kernel
theorem dX1_mayStandFor_41 : decode cX1_mayStandFor 41 = .ok (.ireturn, 1) := by decide +kernel
theorem dX1_isAsSeen_0 : decode cX1_isAsSeen 0 = .ok (.aload_n 0, 1) := by decide +kernel
theorem dX1_isAsSeen_1 : decode cX1_isAsSeen 1 = .ok (.iload_n 2, 1) := by decide +kernel
theorem dX1_isAsSeen_2 : decode cX1_isAsSeen 2 = .ok (.aload_n 0, 1) := by decide +kernel
theorem dX1_isAsSeen_3 : decode cX1_isAsSeen 3 = .ok (.getfield 66, 3) := by decide +kernel
theorem dX1_isAsSeen_6 : decode cX1_isAsSeen 6 = .ok (.invokevirtual 102, 3) := by decide +kernel
theorem dX1_isAsSeen_9 : decode cX1_isAsSeen 9 = .ok (.aload_n 0, 1) := by decide +kernel
theorem dX1_isAsSeen_10 : decode cX1_isAsSeen 10 = .ok (.aload_n 0, 1) := by decide +kernel
theorem dX1_isAsSeen_11 : decode cX1_isAsSeen 11 = .ok (.getfield 43, 3) := by decide +kernel
theorem dX1_isAsSeen_14 : decode cX1_isAsSeen 14 = .ok (.getfield 100, 3) := by decide +kernel
theorem dX1_isAsSeen_17 : decode cX1_isAsSeen 17 = .ok (.iload_n 1, 1) := by decide +kernel
theorem dX1_isAsSeen_18 : decode cX1_isAsSeen 18 = .ok (.iaload, 1) := by decide +kernel
theorem dX1_isAsSeen_19 : decode cX1_isAsSeen 19 = .ok (.aload_n 0, 1) := by decide +kernel
theorem dX1_isAsSeen_20 : decode cX1_isAsSeen 20 = .ok (.getfield 66, 3) := by decide +kernel
theorem dX1_isAsSeen_23 : decode cX1_isAsSeen 23 = .ok (.invokevirtual 102, 3) := by decide +kernel
theorem dX1_isAsSeen_26 : decode cX1_isAsSeen 26 = .ok (.isub, 1) := by decide +kernel
theorem dX1_isAsSeen_27 : decode cX1_isAsSeen 27 = .ok (.istore_n 3, 1) := by decide +kernel
theorem dX1_isAsSeen_28 : decode cX1_isAsSeen 28 = .ok (.iconst 0, 1) := by decide +kernel
theorem dX1_isAsSeen_29 : decode cX1_isAsSeen 29 = .ok (.istore 4, 2) := by decide +kernel
theorem dX1_isAsSeen_31 : decode cX1_isAsSeen 31 = .ok (.iload 4, 2) := by decide +kernel
theorem dX1_isAsSeen_33 : decode cX1_isAsSeen 33 = .ok (.aload_n 0, 1) := by decide +kernel
theorem dX1_isAsSeen_34 : decode cX1_isAsSeen 34 = .ok (.getfield 78, 3) := by decide +kernel
theorem dX1_isAsSeen_37 : decode cX1_isAsSeen 37 = .ok (.if_icmp .ge 66, 3) := by decide +kernel
theorem dX1_isAsSeen_40 : decode cX1_isAsSeen 40 = .ok (.aload_n 0, 1) := by decide +kernel
theorem dX1_isAsSeen_41 : decode cX1_isAsSeen 41 = .ok (.getfield 47, 3) := by decide +kernel
theorem dX1_isAsSeen_44 : decode cX1_isAsSeen 44 = .ok (.iconst 2, 1) := by decide +kernel
theorem dX1_isAsSeen_45 : decode cX1_isAsSeen 45 = .ok (.iload 4, 2) := by decide +kernel
theorem dX1_isAsSeen_47 : decode cX1_isAsSeen 47 = .ok (.imul, 1) := by decide +kernel
theorem dX1_isAsSeen_48 : decode cX1_isAsSeen 48 = .ok (.iaload, 1) := by decide +kernel
theorem dX1_isAsSeen_49 : decode cX1_isAsSeen 49 = .ok (.istore 5, 2) := by decide +kernel
theorem dX1_isAsSeen_51 : decode cX1_isAsSeen 51 = .ok (.aload_n 0, 1) := by decide +kernel
theorem dX1_isAsSeen_52 : decode cX1_isAsSeen 52 = .ok (.iload 5, 2) := by decide +kernel
theorem dX1_isAsSeen_54 : decode cX1_isAsSeen 54 = .ok (.invokevirtual 121, 3) := by decide +kernel
theorem dX1_isAsSeen_57 : decode cX1_isAsSeen 57 = .ok (.iload 5, 2) := by decide +kernel
theorem dX1_isAsSeen_59 : decode cX1_isAsSeen 59 = .ok (.aload_n 0, 1) := by decide +kernel
theorem dX1_isAsSeen_60 : decode cX1_isAsSeen 60 = .ok (.getfield 43, 3) := by decide +kernel
theorem dX1_isAsSeen_63 : decode cX1_isAsSeen 63 = .ok (.getfield 98, 3) := by decide +kernel
theorem dX1_isAsSeen_66 : decode cX1_isAsSeen 66 = .ok (.iload_n 1, 1) := by decide +kernel
theorem dX1_isAsSeen_67 : decode cX1_isAsSeen 67 = .ok (.iaload, 1) := by decide +kernel
theorem dX1_isAsSeen_68 : decode cX1_isAsSeen 68 = .ok (.if_icmp .ne 7, 3) := by decide +kernel
theorem dX1_isAsSeen_71 : decode cX1_isAsSeen 71 = .ok (.iload_n 3, 1) := by decide +kernel
theorem dX1_isAsSeen_72 : decode cX1_isAsSeen 72 = .ok (.goto 4, 3) := by decide +kernel
theorem dX1_isAsSeen_75 : decode cX1_isAsSeen 75 = .ok (.iconst 0, 1) := by decide +kernel
theorem dX1_isAsSeen_76 : decode cX1_isAsSeen 76 = .ok (.iadd, 1) := by decide +kernel
theorem dX1_isAsSeen_77 : decode cX1_isAsSeen 77 = .ok (.istore 6, 2) := by decide +kernel
theorem dX1_isAsSeen_79 : decode cX1_isAsSeen 79 = .ok (.iload 6, 2) := by decide +kernel
theorem dX1_isAsSeen_81 : decode cX1_isAsSeen 81 = .ok (.aload_n 0, 1) := by decide +kernel
theorem dX1_isAsSeen_82 : decode cX1_isAsSeen 82 = .ok (.getfield 47, 3) := by decide +kernel
theorem dX1_isAsSeen_85 : decode cX1_isAsSeen 85 = .ok (.iconst 2, 1) := by decide +kernel
theorem dX1_isAsSeen_86 : decode cX1_isAsSeen 86 = .ok (.iload 4, 2) := by decide +kernel
theorem dX1_isAsSeen_88 : decode cX1_isAsSeen 88 = .ok (.imul, 1) := by decide +kernel
theorem dX1_isAsSeen_89 : decode cX1_isAsSeen 89 = .ok (.iconst 1, 1) := by decide +kernel
theorem dX1_isAsSeen_90 : decode cX1_isAsSeen 90 = .ok (.iadd, 1) := by decide +kernel
theorem dX1_isAsSeen_91 : decode cX1_isAsSeen 91 = .ok (.iaload, 1) := by decide +kernel
theorem dX1_isAsSeen_92 : decode cX1_isAsSeen 92 = .ok (.if_icmp .eq 5, 3) := by decide +kernel
theorem dX1_isAsSeen_95 : decode cX1_isAsSeen 95 = .ok (.iconst 0, 1) := by decide +kernel
theorem dX1_isAsSeen_96 : decode cX1_isAsSeen 96 = .ok (.ireturn, 1) := by decide +kernel
theorem dX1_isAsSeen_97 : decode cX1_isAsSeen 97 = .ok (.iinc 4 1, 3) := by decide +kernel
theorem dX1_isAsSeen_100 : decode cX1_isAsSeen 100 = .ok (.goto (-69), 3) := by decide +kernel
theorem dX1_isAsSeen_103 : decode cX1_isAsSeen 103 = .ok (.iconst 1, 1) := by decide +kernel
theorem dX1_isAsSeen_104 : decode cX1_isAsSeen 104 = .ok (.ireturn, 1) := by decide +kernel
theorem dX1_takeFrom_0 : decode cX1_takeFrom 0 = .ok (.aload_n 1, 1) := by decide +kernel
theorem dX1_takeFrom_1 : decode cX1_takeFrom 1 = .ok (.getfield 9, 3) := by decide +kernel
theorem dX1_takeFrom_4 : decode cX1_takeFrom 4 = .ok (.iconst 0, 1) := by decide +kernel
theorem dX1_takeFrom_5 : decode cX1_takeFrom 5 = .ok (.aload_n 0, 1) := by decide +kernel
theorem dX1_takeFrom_6 : decode cX1_takeFrom 6 = .ok (.getfield 9, 3) := by decide +kernel
theorem dX1_takeFrom_9 : decode cX1_takeFrom 9 = .ok (.iconst 0, 1) := by decide +kernel
theorem dX1_takeFrom_10 : decode cX1_takeFrom 10 = .ok (.bipush 27, 2) := by decide +kernel
theorem dX1_takeFrom_12 : decode cX1_takeFrom 12 = .ok (.invokestatic 124, 3) := by decide +kernel
theorem dX1_takeFrom_15 : decode cX1_takeFrom 15 = .ok (.aload_n 1, 1) := by decide +kernel
theorem dX1_takeFrom_16 : decode cX1_takeFrom 16 = .ok (.getfield 15, 3) := by decide +kernel
theorem dX1_takeFrom_19 : decode cX1_takeFrom 19 = .ok (.iconst 0, 1) := by decide +kernel
theorem dX1_takeFrom_20 : decode cX1_takeFrom 20 = .ok (.aload_n 0, 1) := by decide +kernel
theorem dX1_takeFrom_21 : decode cX1_takeFrom 21 = .ok (.getfield 15, 3) := by decide +kernel
theorem dX1_takeFrom_24 : decode cX1_takeFrom 24 = .ok (.iconst 0, 1) := by decide +kernel
theorem dX1_takeFrom_25 : decode cX1_takeFrom 25 = .ok (.bipush 8, 2) := by decide +kernel
theorem dX1_takeFrom_27 : decode cX1_takeFrom 27 = .ok (.invokestatic 124, 3) := by decide +kernel
theorem dX1_takeFrom_30 : decode cX1_takeFrom 30 = .ok (.aload_n 1, 1) := by decide +kernel
theorem dX1_takeFrom_31 : decode cX1_takeFrom 31 = .ok (.getfield 18, 3) := by decide +kernel
theorem dX1_takeFrom_34 : decode cX1_takeFrom 34 = .ok (.iconst 0, 1) := by decide +kernel
theorem dX1_takeFrom_35 : decode cX1_takeFrom 35 = .ok (.aload_n 0, 1) := by decide +kernel
theorem dX1_takeFrom_36 : decode cX1_takeFrom 36 = .ok (.getfield 18, 3) := by decide +kernel
theorem dX1_takeFrom_39 : decode cX1_takeFrom 39 = .ok (.iconst 0, 1) := by decide +kernel
theorem dX1_takeFrom_40 : decode cX1_takeFrom 40 = .ok (.iconst 2, 1) := by decide +kernel
theorem dX1_takeFrom_41 : decode cX1_takeFrom 41 = .ok (.invokestatic 124, 3) := by decide +kernel
theorem dX1_takeFrom_44 : decode cX1_takeFrom 44 = .ok (.aload_n 0, 1) := by decide +kernel
theorem dX1_takeFrom_45 : decode cX1_takeFrom 45 = .ok (.getfield 24, 3) := by decide +kernel
theorem dX1_takeFrom_48 : decode cX1_takeFrom 48 = .ok (.aload_n 1, 1) := by decide +kernel
theorem dX1_takeFrom_49 : decode cX1_takeFrom 49 = .ok (.getfield 24, 3) := by decide +kernel
theorem dX1_takeFrom_52 : decode cX1_takeFrom 52 = .ok (.invokevirtual 130, 3) := by decide +kernel
theorem dX1_takeFrom_55 : decode cX1_takeFrom 55 = .ok (.iconst 0, 1) := by decide +kernel
theorem dX1_takeFrom_56 : decode cX1_takeFrom 56 = .ok (.istore_n 2, 1) := by decide +kernel
theorem dX1_takeFrom_57 : decode cX1_takeFrom 57 = .ok (.iload_n 2, 1) := by decide +kernel
theorem dX1_takeFrom_58 : decode cX1_takeFrom 58 = .ok (.bipush 6, 2) := by decide +kernel
theorem dX1_takeFrom_60 : decode cX1_takeFrom 60 = .ok (.if_icmp .ge 21, 3) := by decide +kernel
theorem dX1_takeFrom_63 : decode cX1_takeFrom 63 = .ok (.aload_n 0, 1) := by decide +kernel
theorem dX1_takeFrom_64 : decode cX1_takeFrom 64 = .ok (.getfield 30, 3) := by decide +kernel
theorem dX1_takeFrom_67 : decode cX1_takeFrom 67 = .ok (.iload_n 2, 1) := by decide +kernel
theorem dX1_takeFrom_68 : decode cX1_takeFrom 68 = .ok (.aload_n 1, 1) := by decide +kernel
theorem dX1_takeFrom_69 : decode cX1_takeFrom 69 = .ok (.getfield 30, 3) := by decide +kernel
theorem dX1_takeFrom_72 : decode cX1_takeFrom 72 = .ok (.iload_n 2, 1) := by decide +kernel
theorem dX1_takeFrom_73 : decode cX1_takeFrom 73 = .ok (.aaload, 1) := by decide +kernel
theorem dX1_takeFrom_74 : decode cX1_takeFrom 74 = .ok (.aastore, 1) := by decide +kernel
theorem dX1_takeFrom_75 : decode cX1_takeFrom 75 = .ok (.iinc 2 1, 3) := by decide +kernel
theorem dX1_takeFrom_78 : decode cX1_takeFrom 78 = .ok (.goto (-21), 3) := by decide +kernel
theorem dX1_takeFrom_81 : decode cX1_takeFrom 81 = .ok (.aload_n 1, 1) := by decide +kernel
theorem dX1_takeFrom_82 : decode cX1_takeFrom 82 = .ok (.getfield 34, 3) := by decide +kernel
theorem dX1_takeFrom_85 : decode cX1_takeFrom 85 = .ok (.iconst 0, 1) := by decide +kernel
theorem dX1_takeFrom_86 : decode cX1_takeFrom 86 = .ok (.aload_n 0, 1) := by decide +kernel
theorem dX1_takeFrom_87 : decode cX1_takeFrom 87 = .ok (.getfield 34, 3) := by decide +kernel
theorem dX1_takeFrom_90 : decode cX1_takeFrom 90 = .ok (.iconst 0, 1) := by decide +kernel
theorem dX1_takeFrom_91 : decode cX1_takeFrom 91 = .ok (.bipush 6, 2) := by decide +kernel
theorem dX1_takeFrom_93 : decode cX1_takeFrom 93 = .ok (.invokestatic 124, 3) := by decide +kernel
theorem dX1_takeFrom_96 : decode cX1_takeFrom 96 = .ok (.aload_n 1, 1) := by decide +kernel
theorem dX1_takeFrom_97 : decode cX1_takeFrom 97 = .ok (.getfield 37, 3) := by decide +kernel
theorem dX1_takeFrom_100 : decode cX1_takeFrom 100 = .ok (.iconst 0, 1) := by decide +kernel
theorem dX1_takeFrom_101 : decode cX1_takeFrom 101 = .ok (.aload_n 0, 1) := by decide +kernel
theorem dX1_takeFrom_102 : decode cX1_takeFrom 102 = .ok (.getfield 37, 3) := by decide +kernel
theorem dX1_takeFrom_105 : decode cX1_takeFrom 105 = .ok (.iconst 0, 1) := by decide +kernel
theorem dX1_takeFrom_106 : decode cX1_takeFrom 106 = .ok (.iconst 4, 1) := by decide +kernel
theorem dX1_takeFrom_107 : decode cX1_takeFrom 107 = .ok (.invokestatic 124, 3) := by decide +kernel
theorem dX1_takeFrom_110 : decode cX1_takeFrom 110 = .ok (.aload_n 0, 1) := by decide +kernel
theorem dX1_takeFrom_111 : decode cX1_takeFrom 111 = .ok (.getfield 43, 3) := by decide +kernel
theorem dX1_takeFrom_114 : decode cX1_takeFrom 114 = .ok (.aload_n 1, 1) := by decide +kernel
theorem dX1_takeFrom_115 : decode cX1_takeFrom 115 = .ok (.getfield 43, 3) := by decide +kernel
theorem dX1_takeFrom_118 : decode cX1_takeFrom 118 = .ok (.invokevirtual 134, 3) := by decide +kernel
theorem dX1_takeFrom_121 : decode cX1_takeFrom 121 = .ok (.aload_n 1, 1) := by decide +kernel
theorem dX1_takeFrom_122 : decode cX1_takeFrom 122 = .ok (.getfield 47, 3) := by decide +kernel
theorem dX1_takeFrom_125 : decode cX1_takeFrom 125 = .ok (.iconst 0, 1) := by decide +kernel
theorem dX1_takeFrom_126 : decode cX1_takeFrom 126 = .ok (.aload_n 0, 1) := by decide +kernel
theorem dX1_takeFrom_127 : decode cX1_takeFrom 127 = .ok (.getfield 47, 3) := by decide +kernel
theorem dX1_takeFrom_130 : decode cX1_takeFrom 130 = .ok (.iconst 0, 1) := by decide +kernel
theorem dX1_takeFrom_131 : decode cX1_takeFrom 131 = .ok (.bipush 8, 2) := by decide +kernel
theorem dX1_takeFrom_133 : decode cX1_takeFrom 133 = .ok (.invokestatic 124, 3) := by decide +kernel
theorem dX1_takeFrom_136 : decode cX1_takeFrom 136 = .ok (.aload_n 1, 1) := by decide +kernel
theorem dX1_takeFrom_137 : decode cX1_takeFrom 137 = .ok (.getfield 50, 3) := by decide +kernel
theorem dX1_takeFrom_140 : decode cX1_takeFrom 140 = .ok (.iconst 0, 1) := by decide +kernel
theorem dX1_takeFrom_141 : decode cX1_takeFrom 141 = .ok (.aload_n 0, 1) := by decide +kernel
theorem dX1_takeFrom_142 : decode cX1_takeFrom 142 = .ok (.getfield 50, 3) := by decide +kernel
theorem dX1_takeFrom_145 : decode cX1_takeFrom 145 = .ok (.iconst 0, 1) := by decide +kernel
theorem dX1_takeFrom_146 : decode cX1_takeFrom 146 = .ok (.bipush 8, 2) := by decide +kernel
theorem dX1_takeFrom_148 : decode cX1_takeFrom 148 = .ok (.invokestatic 124, 3) := by decide +kernel
theorem dX1_takeFrom_151 : decode cX1_takeFrom 151 = .ok (.aload_n 1, 1) := by decide +kernel
theorem dX1_takeFrom_152 : decode cX1_takeFrom 152 = .ok (.getfield 53, 3) := by decide +kernel
theorem dX1_takeFrom_155 : decode cX1_takeFrom 155 = .ok (.iconst 0, 1) := by decide +kernel
theorem dX1_takeFrom_156 : decode cX1_takeFrom 156 = .ok (.aload_n 0, 1) := by decide +kernel
theorem dX1_takeFrom_157 : decode cX1_takeFrom 157 = .ok (.getfield 53, 3) := by decide +kernel
theorem dX1_takeFrom_160 : decode cX1_takeFrom 160 = .ok (.iconst 0, 1) := by decide +kernel
theorem dX1_takeFrom_161 : decode cX1_takeFrom 161 = .ok (.bipush 8, 2) := by decide +kernel
theorem dX1_takeFrom_163 : decode cX1_takeFrom 163 = .ok (.invokestatic 124, 3) := by decide +kernel
theorem dX1_takeFrom_166 : decode cX1_takeFrom 166 = .ok (.aload_n 1, 1) := by decide +kernel
theorem dX1_takeFrom_167 : decode cX1_takeFrom 167 = .ok (.getfield 56, 3) := by decide +kernel
theorem dX1_takeFrom_170 : decode cX1_takeFrom 170 = .ok (.iconst 0, 1) := by decide +kernel
theorem dX1_takeFrom_171 : decode cX1_takeFrom 171 = .ok (.aload_n 0, 1) := by decide +kernel
theorem dX1_takeFrom_172 : decode cX1_takeFrom 172 = .ok (.getfield 56, 3) := by decide +kernel
theorem dX1_takeFrom_175 : decode cX1_takeFrom 175 = .ok (.iconst 0, 1) := by decide +kernel
theorem dX1_takeFrom_176 : decode cX1_takeFrom 176 = .ok (.bipush 8, 2) := by decide +kernel
theorem dX1_takeFrom_178 : decode cX1_takeFrom 178 = .ok (.invokestatic 124, 3) := by decide +kernel
theorem dX1_takeFrom_181 : decode cX1_takeFrom 181 = .ok (.aload_n 0, 1) := by decide +kernel
theorem dX1_takeFrom_182 : decode cX1_takeFrom 182 = .ok (.aload_n 1, 1) := by decide +kernel
theorem dX1_takeFrom_183 : decode cX1_takeFrom 183 = .ok (.getfield 59, 3) := by decide +kernel
theorem dX1_takeFrom_186 : decode cX1_takeFrom 186 = .ok (.putfield 59, 3) := by decide +kernel
theorem dX1_takeFrom_189 : decode cX1_takeFrom 189 = .ok (.aload_n 0, 1) := by decide +kernel
theorem dX1_takeFrom_190 : decode cX1_takeFrom 190 = .ok (.aload_n 1, 1) := by decide +kernel
theorem dX1_takeFrom_191 : decode cX1_takeFrom 191 = .ok (.getfield 63, 3) := by decide +kernel
theorem dX1_takeFrom_194 : decode cX1_takeFrom 194 = .ok (.putfield 63, 3) := by decide +kernel
theorem dX1_takeFrom_197 : decode cX1_takeFrom 197 = .ok (.aload_n 0, 1) := by decide +kernel
theorem dX1_takeFrom_198 : decode cX1_takeFrom 198 = .ok (.aload_n 1, 1) := by decide +kernel
theorem dX1_takeFrom_199 : decode cX1_takeFrom 199 = .ok (.getfield 66, 3) := by decide +kernel
theorem dX1_takeFrom_202 : decode cX1_takeFrom 202 = .ok (.putfield 66, 3) := by decide +kernel
theorem dX1_takeFrom_205 : decode cX1_takeFrom 205 = .ok (.aload_n 0, 1) := by decide +kernel
theorem dX1_takeFrom_206 : decode cX1_takeFrom 206 = .ok (.aload_n 1, 1) := by decide +kernel
theorem dX1_takeFrom_207 : decode cX1_takeFrom 207 = .ok (.getfield 69, 3) := by decide +kernel
theorem dX1_takeFrom_210 : decode cX1_takeFrom 210 = .ok (.putfield 69, 3) := by decide +kernel
theorem dX1_takeFrom_213 : decode cX1_takeFrom 213 = .ok (.aload_n 0, 1) := by decide +kernel
theorem dX1_takeFrom_214 : decode cX1_takeFrom 214 = .ok (.aload_n 1, 1) := by decide +kernel
theorem dX1_takeFrom_215 : decode cX1_takeFrom 215 = .ok (.getfield 72, 3) := by decide +kernel
theorem dX1_takeFrom_218 : decode cX1_takeFrom 218 = .ok (.putfield 72, 3) := by decide +kernel
theorem dX1_takeFrom_221 : decode cX1_takeFrom 221 = .ok (.aload_n 0, 1) := by decide +kernel
theorem dX1_takeFrom_222 : decode cX1_takeFrom 222 = .ok (.aload_n 1, 1) := by decide +kernel
theorem dX1_takeFrom_223 : decode cX1_takeFrom 223 = .ok (.getfield 75, 3) := by decide +kernel
theorem dX1_takeFrom_226 : decode cX1_takeFrom 226 = .ok (.putfield 75, 3) := by decide +kernel
theorem dX1_takeFrom_229 : decode cX1_takeFrom 229 = .ok (.aload_n 0, 1) := by decide +kernel
theorem dX1_takeFrom_230 : decode cX1_takeFrom 230 = .ok (.aload_n 1, 1) := by decide +kernel
theorem dX1_takeFrom_231 : decode cX1_takeFrom 231 = .ok (.getfield 78, 3) := by decide +kernel
theorem dX1_takeFrom_234 : decode cX1_takeFrom 234 = .ok (.putfield 78, 3) := by decide +kernel
theorem dX1_takeFrom_237 : decode cX1_takeFrom 237 = .ok (.aload_n 0, 1) := by decide +kernel
theorem dX1_takeFrom_238 : decode cX1_takeFrom 238 = .ok (.aload_n 1, 1) := by decide +kernel
theorem dX1_takeFrom_239 : decode cX1_takeFrom 239 = .ok (.getfield 81, 3) := by decide +kernel
theorem dX1_takeFrom_242 : decode cX1_takeFrom 242 = .ok (.putfield 81, 3) := by decide +kernel
theorem dX1_takeFrom_245 : decode cX1_takeFrom 245 = .ok (.return_, 1) := by decide +kernel
theorem dX2_init_0 : decode cX2_init 0 = .ok (.aload_n 0, 1) := by decide +kernel
theorem dX2_init_1 : decode cX2_init 1 = .ok (.invokespecial 3, 3) := by decide +kernel
theorem dX2_init_4 : decode cX2_init 4 = .ok (.aload_n 0, 1) := by decide +kernel
theorem dX2_init_5 : decode cX2_init 5 = .ok (.bipush 8, 2) := by decide +kernel
theorem dX2_init_7 : decode cX2_init 7 = .ok (.newarray .int, 2) := by decide +kernel
theorem dX2_init_9 : decode cX2_init 9 = .ok (.putfield 9, 3) := by decide +kernel
theorem dX2_init_12 : decode cX2_init 12 = .ok (.aload_n 0, 1) := by decide +kernel
theorem dX2_init_13 : decode cX2_init 13 = .ok (.iconst 0, 1) := by decide +kernel
theorem dX2_init_14 : decode cX2_init 14 = .ok (.putfield 15, 3) := by decide +kernel
theorem dX2_init_17 : decode cX2_init 17 = .ok (.aload_n 0, 1) := by decide +kernel
theorem dX2_init_18 : decode cX2_init 18 = .ok (.iconst 0, 1) := by decide +kernel
theorem dX2_init_19 : decode cX2_init 19 = .ok (.putfield 19, 3) := by decide +kernel
theorem dX2_init_22 : decode cX2_init 22 = .ok (.aload_n 0, 1) := by decide +kernel
theorem dX2_init_23 : decode cX2_init 23 = .ok (.iconst 0, 1) := by decide +kernel
theorem dX2_init_24 : decode cX2_init 24 = .ok (.putfield 22, 3) := by decide +kernel
theorem dX2_init_27 : decode cX2_init 27 = .ok (.aload_n 0, 1) := by decide +kernel
theorem dX2_init_28 : decode cX2_init 28 = .ok (.iconst 0, 1) := by decide +kernel
theorem dX2_init_29 : decode cX2_init 29 = .ok (.putfield 25, 3) := by decide +kernel
theorem dX2_init_32 : decode cX2_init 32 = .ok (.return_, 1) := by decide +kernel
theorem dX2_choose_0 : decode cX2_choose 0 = .ok (.aload_n 0, 1) := by decide +kernel
theorem dX2_choose_1 : decode cX2_choose 1 = .ok (.aload_n 1, 1) := by decide +kernel
theorem dX2_choose_2 : decode cX2_choose 2 = .ok (.invokevirtual 28, 3) := by decide +kernel
theorem dX2_choose_5 : decode cX2_choose 5 = .ok (.aload_n 0, 1) := by decide +kernel
theorem dX2_choose_6 : decode cX2_choose 6 = .ok (.iconst 0, 1) := by decide +kernel
theorem dX2_choose_7 : decode cX2_choose 7 = .ok (.putfield 19, 3) := by decide +kernel
theorem dX2_choose_10 : decode cX2_choose 10 = .ok (.aload_n 0, 1) := by decide +kernel
theorem dX2_choose_11 : decode cX2_choose 11 = .ok (.iconst 0, 1) := by decide +kernel
theorem dX2_choose_12 : decode cX2_choose 12 = .ok (.putfield 22, 3) := by decide +kernel
theorem dX2_choose_15 : decode cX2_choose 15 = .ok (.aload_n 0, 1) := by decide +kernel
theorem dX2_choose_16 : decode cX2_choose 16 = .ok (.iconst 0, 1) := by decide +kernel
theorem dX2_choose_17 : decode cX2_choose 17 = .ok (.putfield 25, 3) := by decide +kernel
theorem dX2_choose_20 : decode cX2_choose 20 = .ok (.iconst 1, 1) := by decide +kernel
theorem dX2_choose_21 : decode cX2_choose 21 = .ok (.istore_n 2, 1) := by decide +kernel
theorem dX2_choose_22 : decode cX2_choose 22 = .ok (.iload_n 2, 1) := by decide +kernel
theorem dX2_choose_23 : decode cX2_choose 23 = .ok (.iconst 1, 1) := by decide +kernel
theorem dX2_choose_24 : decode cX2_choose 24 = .ok (.aload_n 0, 1) := by decide +kernel
theorem dX2_choose_25 : decode cX2_choose 25 = .ok (.getfield 15, 3) := by decide +kernel
theorem dX2_choose_28 : decode cX2_choose 28 = .ok (.ishl, 1) := by decide +kernel
theorem dX2_choose_29 : decode cX2_choose 29 = .ok (.if_icmp .ge 15, 3) := by decide +kernel
theorem dX2_choose_32 : decode cX2_choose 32 = .ok (.aload_n 0, 1) := by decide +kernel
theorem dX2_choose_33 : decode cX2_choose 33 = .ok (.aload_n 1, 1) := by decide +kernel
theorem dX2_choose_34 : decode cX2_choose 34 = .ok (.iload_n 2, 1) := by decide +kernel
theorem dX2_choose_35 : decode cX2_choose 35 = .ok (.invokevirtual 32, 3) := by decide +kernel
theorem dX2_choose_38 : decode cX2_choose 38 = .ok (.iinc 2 1, 3) := by decide +kernel
theorem dX2_choose_41 : decode cX2_choose 41 = .ok (.goto (-19), 3) := by decide +kernel
theorem dX2_choose_44 : decode cX2_choose 44 = .ok (.return_, 1) := by decide +kernel
theorem dX2_sort_0 : decode cX2_sort 0 = .ok (.aload_n 0, 1) := by decide +kernel
theorem dX2_sort_1 : decode cX2_sort 1 = .ok (.aload_n 1, 1) := by decide +kernel
theorem dX2_sort_2 : decode cX2_sort 2 = .ok (.getfield 36, 3) := by decide +kernel
theorem dX2_sort_5 : decode cX2_sort 5 = .ok (.putfield 15, 3) := by decide +kernel
theorem dX2_sort_8 : decode cX2_sort 8 = .ok (.iconst 0, 1) := by decide +kernel
theorem dX2_sort_9 : decode cX2_sort 9 = .ok (.istore_n 2, 1) := by decide +kernel
theorem dX2_sort_10 : decode cX2_sort 10 = .ok (.iload_n 2, 1) := by decide +kernel
theorem dX2_sort_11 : decode cX2_sort 11 = .ok (.aload_n 0, 1) := by decide +kernel
theorem dX2_sort_12 : decode cX2_sort 12 = .ok (.getfield 15, 3) := by decide +kernel
theorem dX2_sort_15 : decode cX2_sort 15 = .ok (.if_icmp .ge 64, 3) := by decide +kernel
theorem dX2_sort_18 : decode cX2_sort 18 = .ok (.iload_n 2, 1) := by decide +kernel
theorem dX2_sort_19 : decode cX2_sort 19 = .ok (.istore_n 3, 1) := by decide +kernel
theorem dX2_sort_20 : decode cX2_sort 20 = .ok (.iload_n 3, 1) := by decide +kernel
theorem dX2_sort_21 : decode cX2_sort 21 = .ok (.ifCond .le 45, 3) := by decide +kernel
theorem dX2_sort_24 : decode cX2_sort 24 = .ok (.aload_n 1, 1) := by decide +kernel
theorem dX2_sort_25 : decode cX2_sort 25 = .ok (.getfield 41, 3) := by decide +kernel
theorem dX2_sort_28 : decode cX2_sort 28 = .ok (.aload_n 0, 1) := by decide +kernel
theorem dX2_sort_29 : decode cX2_sort 29 = .ok (.getfield 9, 3) := by decide +kernel
theorem dX2_sort_32 : decode cX2_sort 32 = .ok (.iload_n 3, 1) := by decide +kernel
theorem dX2_sort_33 : decode cX2_sort 33 = .ok (.iconst 1, 1) := by decide +kernel
theorem dX2_sort_34 : decode cX2_sort 34 = .ok (.isub, 1) := by decide +kernel
theorem dX2_sort_35 : decode cX2_sort 35 = .ok (.iaload, 1) := by decide +kernel
theorem dX2_sort_36 : decode cX2_sort 36 = .ok (.iaload, 1) := by decide +kernel
theorem dX2_sort_37 : decode cX2_sort 37 = .ok (.aload_n 1, 1) := by decide +kernel
theorem dX2_sort_38 : decode cX2_sort 38 = .ok (.getfield 41, 3) := by decide +kernel
theorem dX2_sort_41 : decode cX2_sort 41 = .ok (.iload_n 2, 1) := by decide +kernel
theorem dX2_sort_42 : decode cX2_sort 42 = .ok (.iaload, 1) := by decide +kernel
theorem dX2_sort_43 : decode cX2_sort 43 = .ok (.if_icmp .le 23, 3) := by decide +kernel
theorem dX2_sort_46 : decode cX2_sort 46 = .ok (.aload_n 0, 1) := by decide +kernel
theorem dX2_sort_47 : decode cX2_sort 47 = .ok (.getfield 9, 3) := by decide +kernel
theorem dX2_sort_50 : decode cX2_sort 50 = .ok (.iload_n 3, 1) := by decide +kernel
theorem dX2_sort_51 : decode cX2_sort 51 = .ok (.aload_n 0, 1) := by decide +kernel
theorem dX2_sort_52 : decode cX2_sort 52 = .ok (.getfield 9, 3) := by decide +kernel
theorem dX2_sort_55 : decode cX2_sort 55 = .ok (.iload_n 3, 1) := by decide +kernel
theorem dX2_sort_56 : decode cX2_sort 56 = .ok (.iconst 1, 1) := by decide +kernel
theorem dX2_sort_57 : decode cX2_sort 57 = .ok (.isub, 1) := by decide +kernel
theorem dX2_sort_58 : decode cX2_sort 58 = .ok (.iaload, 1) := by decide +kernel
theorem dX2_sort_59 : decode cX2_sort 59 = .ok (.iastore, 1) := by decide +kernel
theorem dX2_sort_60 : decode cX2_sort 60 = .ok (.iinc 3 (-1), 3) := by decide +kernel
theorem dX2_sort_63 : decode cX2_sort 63 = .ok (.goto (-43), 3) := by decide +kernel
theorem dX2_sort_66 : decode cX2_sort 66 = .ok (.aload_n 0, 1) := by decide +kernel
theorem dX2_sort_67 : decode cX2_sort 67 = .ok (.getfield 9, 3) := by decide +kernel
theorem dX2_sort_70 : decode cX2_sort 70 = .ok (.iload_n 3, 1) := by decide +kernel
theorem dX2_sort_71 : decode cX2_sort 71 = .ok (.iload_n 2, 1) := by decide +kernel
theorem dX2_sort_72 : decode cX2_sort 72 = .ok (.iastore, 1) := by decide +kernel
theorem dX2_sort_73 : decode cX2_sort 73 = .ok (.iinc 2 1, 3) := by decide +kernel
theorem dX2_sort_76 : decode cX2_sort 76 = .ok (.goto (-66), 3) := by decide +kernel
theorem dX2_sort_79 : decode cX2_sort 79 = .ok (.return_, 1) := by decide +kernel
theorem dX2_weigh_0 : decode cX2_weigh 0 = .ok (.iconst 0, 1) := by decide +kernel
theorem dX2_weigh_1 : decode cX2_weigh 1 = .ok (.istore_n 3, 1) := by decide +kernel
theorem dX2_weigh_2 : decode cX2_weigh 2 = .ok (.iconst 0, 1) := by decide +kernel
theorem dX2_weigh_3 : decode cX2_weigh 3 = .ok (.istore 4, 2) := by decide +kernel
theorem dX2_weigh_5 : decode cX2_weigh 5 = .ok (.iconst 0, 1) := by decide +kernel
theorem dX2_weigh_6 : decode cX2_weigh 6 = .ok (.istore 5, 2) := by decide +kernel
theorem dX2_weigh_8 : decode cX2_weigh 8 = .ok (.iload 5, 2) := by decide +kernel
theorem dX2_weigh_10 : decode cX2_weigh 10 = .ok (.aload_n 0, 1) := by decide +kernel
theorem dX2_weigh_11 : decode cX2_weigh 11 = .ok (.getfield 15, 3) := by decide +kernel
theorem dX2_weigh_14 : decode cX2_weigh 14 = .ok (.if_icmp .ge 65, 3) := by decide +kernel
theorem dX2_weigh_17 : decode cX2_weigh 17 = .ok (.aload_n 0, 1) := by decide +kernel
theorem dX2_weigh_18 : decode cX2_weigh 18 = .ok (.getfield 9, 3) := by decide +kernel
theorem dX2_weigh_21 : decode cX2_weigh 21 = .ok (.iload 5, 2) := by decide +kernel
theorem dX2_weigh_23 : decode cX2_weigh 23 = .ok (.iaload, 1) := by decide +kernel
theorem dX2_weigh_24 : decode cX2_weigh 24 = .ok (.istore 6, 2) := by decide +kernel
theorem dX2_weigh_26 : decode cX2_weigh 26 = .ok (.iload_n 2, 1) := by decide +kernel
theorem dX2_weigh_27 : decode cX2_weigh 27 = .ok (.iload 6, 2) := by decide +kernel
theorem dX2_weigh_29 : decode cX2_weigh 29 = .ok (.ishr, 1) := by decide +kernel
theorem dX2_weigh_30 : decode cX2_weigh 30 = .ok (.iconst 1, 1) := by decide +kernel
theorem dX2_weigh_31 : decode cX2_weigh 31 = .ok (.iand, 1) := by decide +kernel
theorem dX2_weigh_32 : decode cX2_weigh 32 = .ok (.ifCond .ne 6, 3) := by decide +kernel
theorem dX2_weigh_35 : decode cX2_weigh 35 = .ok (.goto 38, 3) := by decide +kernel
theorem dX2_weigh_38 : decode cX2_weigh 38 = .ok (.iload 4, 2) := by decide +kernel
theorem dX2_weigh_40 : decode cX2_weigh 40 = .ok (.aload_n 1, 1) := by decide +kernel
theorem dX2_weigh_41 : decode cX2_weigh 41 = .ok (.getfield 44, 3) := by decide +kernel
theorem dX2_weigh_44 : decode cX2_weigh 44 = .ok (.iload 6, 2) := by decide +kernel
theorem dX2_weigh_46 : decode cX2_weigh 46 = .ok (.iaload, 1) := by decide +kernel
theorem dX2_weigh_47 : decode cX2_weigh 47 = .ok (.iadd, 1) := by decide +kernel
theorem dX2_weigh_48 : decode cX2_weigh 48 = .ok (.istore 4, 2) := by decide +kernel
theorem dX2_weigh_50 : decode cX2_weigh 50 = .ok (.iload 4, 2) := by decide +kernel
theorem dX2_weigh_52 : decode cX2_weigh 52 = .ok (.aload_n 1, 1) := by decide +kernel
theorem dX2_weigh_53 : decode cX2_weigh 53 = .ok (.getfield 41, 3) := by decide +kernel
theorem dX2_weigh_56 : decode cX2_weigh 56 = .ok (.iload 6, 2) := by decide +kernel
theorem dX2_weigh_58 : decode cX2_weigh 58 = .ok (.iaload, 1) := by decide +kernel
theorem dX2_weigh_59 : decode cX2_weigh 59 = .ok (.if_icmp .le 4, 3) := by decide +kernel
theorem dX2_weigh_62 : decode cX2_weigh 62 = .ok (.return_, 1) := by decide +kernel
theorem dX2_weigh_63 : decode cX2_weigh 63 = .ok (.iload_n 3, 1) := by decide +kernel
theorem dX2_weigh_64 : decode cX2_weigh 64 = .ok (.aload_n 1, 1) := by decide +kernel
theorem dX2_weigh_65 : decode cX2_weigh 65 = .ok (.getfield 46, 3) := by decide +kernel
theorem dX2_weigh_68 : decode cX2_weigh 68 = .ok (.iload 6, 2) := by decide +kernel
theorem dX2_weigh_70 : decode cX2_weigh 70 = .ok (.iaload, 1) := by decide +kernel
theorem dX2_weigh_71 : decode cX2_weigh 71 = .ok (.iadd, 1) := by decide +kernel
theorem dX2_weigh_72 : decode cX2_weigh 72 = .ok (.istore_n 3, 1) := by decide +kernel
theorem dX2_weigh_73 : decode cX2_weigh 73 = .ok (.iinc 5 1, 3) := by decide +kernel
theorem dX2_weigh_76 : decode cX2_weigh 76 = .ok (.goto (-68), 3) := by decide +kernel
theorem dX2_weigh_79 : decode cX2_weigh 79 = .ok (.iload_n 3, 1) := by decide +kernel
theorem dX2_weigh_80 : decode cX2_weigh 80 = .ok (.aload_n 0, 1) := by decide +kernel
theorem dX2_weigh_81 : decode cX2_weigh 81 = .ok (.getfield 19, 3) := by decide +kernel
theorem dX2_weigh_84 : decode cX2_weigh 84 = .ok (.if_icmp .gt 4, 3) := by decide +kernel
theorem dX2_weigh_87 : decode cX2_weigh 87 = .ok (.return_, 1) := by decide +kernel
theorem dX2_weigh_88 : decode cX2_weigh 88 = .ok (.aload_n 0, 1) := by decide +kernel
theorem dX2_weigh_89 : decode cX2_weigh 89 = .ok (.iload_n 3, 1) := by decide +kernel
theorem dX2_weigh_90 : decode cX2_weigh 90 = .ok (.putfield 19, 3) := by decide +kernel
theorem dX2_weigh_93 : decode cX2_weigh 93 = .ok (.aload_n 0, 1) := by decide +kernel
theorem dX2_weigh_94 : decode cX2_weigh 94 = .ok (.iload_n 2, 1) := by decide +kernel
theorem dX2_weigh_95 : decode cX2_weigh 95 = .ok (.putfield 22, 3) := by decide +kernel
theorem dX2_weigh_98 : decode cX2_weigh 98 = .ok (.aload_n 0, 1) := by decide +kernel
theorem dX2_weigh_99 : decode cX2_weigh 99 = .ok (.iload 4, 2) := by decide +kernel
theorem dX2_weigh_101 : decode cX2_weigh 101 = .ok (.putfield 25, 3) := by decide +kernel
theorem dX2_weigh_104 : decode cX2_weigh 104 = .ok (.return_, 1) := by decide +kernel
theorem dX2_inOrder_0 : decode cX2_inOrder 0 = .ok (.iconst 0, 1) := by decide +kernel
theorem dX2_inOrder_1 : decode cX2_inOrder 1 = .ok (.istore_n 2, 1) := by decide +kernel
theorem dX2_inOrder_2 : decode cX2_inOrder 2 = .ok (.iconst 0, 1) := by decide +kernel
theorem dX2_inOrder_3 : decode cX2_inOrder 3 = .ok (.istore_n 3, 1) := by decide +kernel
theorem dX2_inOrder_4 : decode cX2_inOrder 4 = .ok (.iload_n 3, 1) := by decide +kernel
theorem dX2_inOrder_5 : decode cX2_inOrder 5 = .ok (.aload_n 0, 1) := by decide +kernel
theorem dX2_inOrder_6 : decode cX2_inOrder 6 = .ok (.getfield 15, 3) := by decide +kernel
theorem dX2_inOrder_9 : decode cX2_inOrder 9 = .ok (.if_icmp .ge 43, 3) := by decide +kernel
theorem dX2_inOrder_12 : decode cX2_inOrder 12 = .ok (.aload_n 0, 1) := by decide +kernel
theorem dX2_inOrder_13 : decode cX2_inOrder 13 = .ok (.getfield 22, 3) := by decide +kernel
theorem dX2_inOrder_16 : decode cX2_inOrder 16 = .ok (.aload_n 0, 1) := by decide +kernel
theorem dX2_inOrder_17 : decode cX2_inOrder 17 = .ok (.getfield 9, 3) := by decide +kernel
theorem dX2_inOrder_20 : decode cX2_inOrder 20 = .ok (.iload_n 3, 1) := by decide +kernel
theorem dX2_inOrder_21 : decode cX2_inOrder 21 = .ok (.iaload, 1) := by decide +kernel
theorem dX2_inOrder_22 : decode cX2_inOrder 22 = .ok (.ishr, 1) := by decide +kernel
theorem dX2_inOrder_23 : decode cX2_inOrder 23 = .ok (.iconst 1, 1) := by decide +kernel
theorem dX2_inOrder_24 : decode cX2_inOrder 24 = .ok (.iand, 1) := by decide +kernel
theorem dX2_inOrder_25 : decode cX2_inOrder 25 = .ok (.ifCond .ne 6, 3) := by decide +kernel
theorem dX2_inOrder_28 : decode cX2_inOrder 28 = .ok (.goto 18, 3) := by decide +kernel
theorem dX2_inOrder_31 : decode cX2_inOrder 31 = .ok (.iload_n 2, 1) := by decide +kernel
theorem dX2_inOrder_32 : decode cX2_inOrder 32 = .ok (.iload_n 1, 1) := by decide +kernel
theorem dX2_inOrder_33 : decode cX2_inOrder 33 = .ok (.if_icmp .ne 10, 3) := by decide +kernel
theorem dX2_inOrder_36 : decode cX2_inOrder 36 = .ok (.aload_n 0, 1) := by decide +kernel
theorem dX2_inOrder_37 : decode cX2_inOrder 37 = .ok (.getfield 9, 3) := by decide +kernel
theorem dX2_inOrder_40 : decode cX2_inOrder 40 = .ok (.iload_n 3, 1) := by decide +kernel
theorem dX2_inOrder_41 : decode cX2_inOrder 41 = .ok (.iaload, 1) := by decide +kernel
theorem dX2_inOrder_42 : decode cX2_inOrder 42 = .ok (.ireturn, 1) := by decide +kernel
theorem dX2_inOrder_43 : decode cX2_inOrder 43 = .ok (.iinc 2 1, 3) := by decide +kernel
theorem dX2_inOrder_46 : decode cX2_inOrder 46 = .ok (.iinc 3 1, 3) := by decide +kernel
theorem dX2_inOrder_49 : decode cX2_inOrder 49 = .ok (.goto (-45), 3) := by decide +kernel
theorem dX2_inOrder_52 : decode cX2_inOrder 52 = .ok (.iconst (-1), 1) := by decide +kernel
theorem dX2_inOrder_53 : decode cX2_inOrder 53 = .ok (.ireturn, 1) := by decide +kernel
theorem dX3_init_0 : decode cX3_init 0 = .ok (.aload_n 0, 1) := by decide +kernel
theorem dX3_init_1 : decode cX3_init 1 = .ok (.invokespecial 3, 3) := by decide +kernel
theorem dX3_init_4 : decode cX3_init 4 = .ok (.aload_n 0, 1) := by decide +kernel
theorem dX3_init_5 : decode cX3_init 5 = .ok (.bipush 12, 2) := by decide +kernel
theorem dX3_init_7 : decode cX3_init 7 = .ok (.newarray .int, 2) := by decide +kernel
theorem dX3_init_9 : decode cX3_init 9 = .ok (.putfield 9, 3) := by decide +kernel
theorem dX3_init_12 : decode cX3_init 12 = .ok (.aload_n 0, 1) := by decide +kernel
theorem dX3_init_13 : decode cX3_init 13 = .ok (.bipush 12, 2) := by decide +kernel
theorem dX3_init_15 : decode cX3_init 15 = .ok (.newarray .int, 2) := by decide +kernel
theorem dX3_init_17 : decode cX3_init 17 = .ok (.putfield 15, 3) := by decide +kernel
theorem dX3_init_20 : decode cX3_init 20 = .ok (.aload_n 0, 1) := by decide +kernel
theorem dX3_init_21 : decode cX3_init 21 = .ok (.iconst 0, 1) := by decide +kernel
theorem dX3_init_22 : decode cX3_init 22 = .ok (.putfield 18, 3) := by decide +kernel
theorem dX3_init_25 : decode cX3_init 25 = .ok (.aload_n 0, 1) := by decide +kernel
theorem dX3_init_26 : decode cX3_init 26 = .ok (.iconst 0, 1) := by decide +kernel
theorem dX3_init_27 : decode cX3_init 27 = .ok (.putfield 22, 3) := by decide +kernel
theorem dX3_init_30 : decode cX3_init 30 = .ok (.return_, 1) := by decide +kernel
theorem dX3_add_0 : decode cX3_add 0 = .ok (.aload_n 0, 1) := by decide +kernel
theorem dX3_add_1 : decode cX3_add 1 = .ok (.getfield 18, 3) := by decide +kernel
theorem dX3_add_4 : decode cX3_add 4 = .ok (.bipush 12, 2) := by decide +kernel
theorem dX3_add_6 : decode cX3_add 6 = .ok (.if_icmp .lt 4, 3) := by decide +kernel
theorem dX3_add_9 : decode cX3_add 9 = .ok (.return_, 1) := by decide +kernel
theorem dX3_add_10 : decode cX3_add 10 = .ok (.aload_n 0, 1) := by decide +kernel
theorem dX3_add_11 : decode cX3_add 11 = .ok (.getfield 9, 3) := by decide +kernel
theorem dX3_add_14 : decode cX3_add 14 = .ok (.aload_n 0, 1) := by decide +kernel
theorem dX3_add_15 : decode cX3_add 15 = .ok (.getfield 18, 3) := by decide +kernel
theorem dX3_add_18 : decode cX3_add 18 = .ok (.iload_n 1, 1) := by decide +kernel
theorem dX3_add_19 : decode cX3_add 19 = .ok (.iastore, 1) := by decide +kernel
theorem dX3_add_20 : decode cX3_add 20 = .ok (.aload_n 0, 1) := by decide +kernel
theorem dX3_add_21 : decode cX3_add 21 = .ok (.getfield 15, 3) := by decide +kernel
theorem dX3_add_24 : decode cX3_add 24 = .ok (.aload_n 0, 1) := by decide +kernel
theorem dX3_add_25 : decode cX3_add 25 = .ok (.getfield 18, 3) := by decide +kernel
theorem dX3_add_28 : decode cX3_add 28 = .ok (.aload_n 0, 1) := by decide +kernel
theorem dX3_add_29 : decode cX3_add 29 = .ok (.getfield 22, 3) := by decide +kernel
theorem dX3_add_32 : decode cX3_add 32 = .ok (.iastore, 1) := by decide +kernel
theorem dX3_add_33 : decode cX3_add 33 = .ok (.aload_n 0, 1) := by decide +kernel
theorem dX3_add_34 : decode cX3_add 34 = .ok (.dup, 1) := by decide +kernel
theorem dX3_add_35 : decode cX3_add 35 = .ok (.getfield 18, 3) := by decide +kernel
theorem dX3_add_38 : decode cX3_add 38 = .ok (.iconst 1, 1) := by decide +kernel
theorem dX3_add_39 : decode cX3_add 39 = .ok (.iadd, 1) := by decide +kernel
theorem dX3_add_40 : decode cX3_add 40 = .ok (.putfield 18, 3) := by decide +kernel
theorem dX3_add_43 : decode cX3_add 43 = .ok (.return_, 1) := by decide +kernel
theorem dX3_manyIn_0 : decode cX3_manyIn 0 = .ok (.iconst 0, 1) := by decide +kernel
theorem dX3_manyIn_1 : decode cX3_manyIn 1 = .ok (.istore_n 2, 1) := by decide +kernel
theorem dX3_manyIn_2 : decode cX3_manyIn 2 = .ok (.iconst 0, 1) := by decide +kernel
theorem dX3_manyIn_3 : decode cX3_manyIn 3 = .ok (.istore_n 3, 1) := by decide +kernel
theorem dX3_manyIn_4 : decode cX3_manyIn 4 = .ok (.iload_n 3, 1) := by decide +kernel
theorem dX3_manyIn_5 : decode cX3_manyIn 5 = .ok (.aload_n 0, 1) := by decide +kernel
theorem dX3_manyIn_6 : decode cX3_manyIn 6 = .ok (.getfield 18, 3) := by decide +kernel
theorem dX3_manyIn_9 : decode cX3_manyIn 9 = .ok (.if_icmp .ge 22, 3) := by decide +kernel
theorem dX3_manyIn_12 : decode cX3_manyIn 12 = .ok (.aload_n 0, 1) := by decide +kernel
theorem dX3_manyIn_13 : decode cX3_manyIn 13 = .ok (.getfield 15, 3) := by decide +kernel
theorem dX3_manyIn_16 : decode cX3_manyIn 16 = .ok (.iload_n 3, 1) := by decide +kernel
theorem dX3_manyIn_17 : decode cX3_manyIn 17 = .ok (.iaload, 1) := by decide +kernel
theorem dX3_manyIn_18 : decode cX3_manyIn 18 = .ok (.iload_n 1, 1) := by decide +kernel
theorem dX3_manyIn_19 : decode cX3_manyIn 19 = .ok (.if_icmp .ne 6, 3) := by decide +kernel
theorem dX3_manyIn_22 : decode cX3_manyIn 22 = .ok (.iinc 2 1, 3) := by decide +kernel
theorem dX3_manyIn_25 : decode cX3_manyIn 25 = .ok (.iinc 3 1, 3) := by decide +kernel
theorem dX3_manyIn_28 : decode cX3_manyIn 28 = .ok (.goto (-24), 3) := by decide +kernel
theorem dX3_manyIn_31 : decode cX3_manyIn 31 = .ok (.iload_n 2, 1) := by decide +kernel
theorem dX3_manyIn_32 : decode cX3_manyIn 32 = .ok (.ireturn, 1) := by decide +kernel
theorem dX3_firstIn_0 : decode cX3_firstIn 0 = .ok (.iconst 0, 1) := by decide +kernel
theorem dX3_firstIn_1 : decode cX3_firstIn 1 = .ok (.istore_n 2, 1) := by decide +kernel
theorem dX3_firstIn_2 : decode cX3_firstIn 2 = .ok (.iload_n 2, 1) := by decide +kernel
theorem dX3_firstIn_3 : decode cX3_firstIn 3 = .ok (.aload_n 0, 1) := by decide +kernel
theorem dX3_firstIn_4 : decode cX3_firstIn 4 = .ok (.getfield 18, 3) := by decide +kernel
theorem dX3_firstIn_7 : decode cX3_firstIn 7 = .ok (.if_icmp .ge 26, 3) := by decide +kernel
theorem dX3_firstIn_10 : decode cX3_firstIn 10 = .ok (.aload_n 0, 1) := by decide +kernel
theorem dX3_firstIn_11 : decode cX3_firstIn 11 = .ok (.getfield 15, 3) := by decide +kernel
theorem dX3_firstIn_14 : decode cX3_firstIn 14 = .ok (.iload_n 2, 1) := by decide +kernel
theorem dX3_firstIn_15 : decode cX3_firstIn 15 = .ok (.iaload, 1) := by decide +kernel
theorem dX3_firstIn_16 : decode cX3_firstIn 16 = .ok (.iload_n 1, 1) := by decide +kernel
theorem dX3_firstIn_17 : decode cX3_firstIn 17 = .ok (.if_icmp .ne 10, 3) := by decide +kernel
theorem dX3_firstIn_20 : decode cX3_firstIn 20 = .ok (.aload_n 0, 1) := by decide +kernel
theorem dX3_firstIn_21 : decode cX3_firstIn 21 = .ok (.getfield 9, 3) := by decide +kernel
theorem dX3_firstIn_24 : decode cX3_firstIn 24 = .ok (.iload_n 2, 1) := by decide +kernel
theorem dX3_firstIn_25 : decode cX3_firstIn 25 = .ok (.iaload, 1) := by decide +kernel
theorem dX3_firstIn_26 : decode cX3_firstIn 26 = .ok (.ireturn, 1) := by decide +kernel
theorem dX3_firstIn_27 : decode cX3_firstIn 27 = .ok (.iinc 2 1, 3) := by decide +kernel
theorem dX3_firstIn_30 : decode cX3_firstIn 30 = .ok (.goto (-28), 3) := by decide +kernel
theorem dX3_firstIn_33 : decode cX3_firstIn 33 = .ok (.iconst (-1), 1) := by decide +kernel
theorem dX3_firstIn_34 : decode cX3_firstIn 34 = .ok (.ireturn, 1) := by decide +kernel
theorem dX3_takeFrom_0 : decode cX3_takeFrom 0 = .ok (.aload_n 1, 1) := by decide +kernel
theorem dX3_takeFrom_1 : decode cX3_takeFrom 1 = .ok (.getfield 9, 3) := by decide +kernel
theorem dX3_takeFrom_4 : decode cX3_takeFrom 4 = .ok (.iconst 0, 1) := by decide +kernel
theorem dX3_takeFrom_5 : decode cX3_takeFrom 5 = .ok (.aload_n 0, 1) := by decide +kernel
theorem dX3_takeFrom_6 : decode cX3_takeFrom 6 = .ok (.getfield 9, 3) := by decide +kernel
theorem dX3_takeFrom_9 : decode cX3_takeFrom 9 = .ok (.iconst 0, 1) := by decide +kernel
theorem dX3_takeFrom_10 : decode cX3_takeFrom 10 = .ok (.bipush 12, 2) := by decide +kernel
theorem dX3_takeFrom_12 : decode cX3_takeFrom 12 = .ok (.invokestatic 25, 3) := by decide +kernel
theorem dX3_takeFrom_15 : decode cX3_takeFrom 15 = .ok (.aload_n 1, 1) := by decide +kernel
theorem dX3_takeFrom_16 : decode cX3_takeFrom 16 = .ok (.getfield 15, 3) := by decide +kernel
theorem dX3_takeFrom_19 : decode cX3_takeFrom 19 = .ok (.iconst 0, 1) := by decide +kernel
theorem dX3_takeFrom_20 : decode cX3_takeFrom 20 = .ok (.aload_n 0, 1) := by decide +kernel
theorem dX3_takeFrom_21 : decode cX3_takeFrom 21 = .ok (.getfield 15, 3) := by decide +kernel
theorem dX3_takeFrom_24 : decode cX3_takeFrom 24 = .ok (.iconst 0, 1) := by decide +kernel
theorem dX3_takeFrom_25 : decode cX3_takeFrom 25 = .ok (.bipush 12, 2) := by decide +kernel
theorem dX3_takeFrom_27 : decode cX3_takeFrom 27 = .ok (.invokestatic 25, 3) := by decide +kernel
theorem dX3_takeFrom_30 : decode cX3_takeFrom 30 = .ok (.aload_n 0, 1) := by decide +kernel
theorem dX3_takeFrom_31 : decode cX3_takeFrom 31 = .ok (.aload_n 1, 1) := by decide +kernel
theorem dX3_takeFrom_32 : decode cX3_takeFrom 32 = .ok (.getfield 18, 3) := by decide +kernel
theorem dX3_takeFrom_35 : decode cX3_takeFrom 35 = .ok (.putfield 18, 3) := by decide +kernel
theorem dX3_takeFrom_38 : decode cX3_takeFrom 38 = .ok (.aload_n 0, 1) := by decide +kernel
theorem dX3_takeFrom_39 : decode cX3_takeFrom 39 = .ok (.aload_n 1, 1) := by decide +kernel
theorem dX3_takeFrom_40 : decode cX3_takeFrom 40 = .ok (.getfield 22, 3) := by decide +kernel
theorem dX3_takeFrom_43 : decode cX3_takeFrom 43 = .ok (.putfield 22, 3) := by decide +kernel
theorem dX3_takeFrom_46 : decode cX3_takeFrom 46 = .ok (.return_, 1) := by decide +kernel
theorem dX4_init_0 : decode cX4_init 0 = .ok (.aload_n 0, 1) := by decide +kernel
theorem dX4_init_1 : decode cX4_init 1 = .ok (.invokespecial 3, 3) := by decide +kernel
theorem dX4_init_4 : decode cX4_init 4 = .ok (.aload_n 0, 1) := by decide +kernel
theorem dX4_init_5 : decode cX4_init 5 = .ok (.aload_n 1, 1) := by decide +kernel
theorem dX4_init_6 : decode cX4_init 6 = .ok (.putfield 9, 3) := by decide +kernel
theorem dX4_init_9 : decode cX4_init 9 = .ok (.aload_n 0, 1) := by decide +kernel
theorem dX4_init_10 : decode cX4_init 10 = .ok (.aload_n 2, 1) := by decide +kernel
theorem dX4_init_11 : decode cX4_init 11 = .ok (.putfield 15, 3) := by decide +kernel
theorem dX4_init_14 : decode cX4_init 14 = .ok (.return_, 1) := by decide +kernel
theorem dX4_lossOf_0 : decode cX4_lossOf 0 = .ok (.aload_n 0, 1) := by decide +kernel
theorem dX4_lossOf_1 : decode cX4_lossOf 1 = .ok (.iload_n 1, 1) := by decide +kernel
theorem dX4_lossOf_2 : decode cX4_lossOf 2 = .ok (.iload_n 2, 1) := by decide +kernel
theorem dX4_lossOf_3 : decode cX4_lossOf 3 = .ok (.invokevirtual 19, 3) := by decide +kernel
theorem dX4_lossOf_6 : decode cX4_lossOf 6 = .ok (.aload_n 0, 1) := by decide +kernel
theorem dX4_lossOf_7 : decode cX4_lossOf 7 = .ok (.iconst 0, 1) := by decide +kernel
theorem dX4_lossOf_8 : decode cX4_lossOf 8 = .ok (.invokevirtual 23, 3) := by decide +kernel
theorem dX4_lossOf_11 : decode cX4_lossOf 11 = .ok (.ifCond .eq 16, 3) := by decide +kernel
theorem dX4_lossOf_14 : decode cX4_lossOf 14 = .ok (.aload_n 0, 1) := by decide +kernel
theorem dX4_lossOf_15 : decode cX4_lossOf 15 = .ok (.getfield 15, 3) := by decide +kernel
theorem dX4_lossOf_18 : decode cX4_lossOf 18 = .ok (.getfield 27, 3) := by decide +kernel
theorem dX4_lossOf_21 : decode cX4_lossOf 21 = .ok (.invokestatic 33, 3) := by decide +kernel
theorem dX4_lossOf_24 : decode cX4_lossOf 24 = .ok (.goto 15, 3) := by decide +kernel
theorem dX4_lossOf_27 : decode cX4_lossOf 27 = .ok (.aload_n 0, 1) := by decide +kernel
theorem dX4_lossOf_28 : decode cX4_lossOf 28 = .ok (.getfield 9, 3) := by decide +kernel
theorem dX4_lossOf_31 : decode cX4_lossOf 31 = .ok (.getfield 37, 3) := by decide +kernel
theorem dX4_lossOf_34 : decode cX4_lossOf 34 = .ok (.getfield 43, 3) := by decide +kernel
theorem dX4_lossOf_37 : decode cX4_lossOf 37 = .ok (.iload_n 1, 1) := by decide +kernel
theorem dX4_lossOf_38 : decode cX4_lossOf 38 = .ok (.iaload, 1) := by decide +kernel
theorem dX4_lossOf_39 : decode cX4_lossOf 39 = .ok (.ireturn, 1) := by decide +kernel
theorem dX4_isBarred_0 : decode cX4_isBarred 0 = .ok (.aload_n 0, 1) := by decide +kernel
theorem dX4_isBarred_1 : decode cX4_isBarred 1 = .ok (.iload_n 1, 1) := by decide +kernel
theorem dX4_isBarred_2 : decode cX4_isBarred 2 = .ok (.iload_n 2, 1) := by decide +kernel
theorem dX4_isBarred_3 : decode cX4_isBarred 3 = .ok (.invokevirtual 19, 3) := by decide +kernel
theorem dX4_isBarred_6 : decode cX4_isBarred 6 = .ok (.aload_n 0, 1) := by decide +kernel
theorem dX4_isBarred_7 : decode cX4_isBarred 7 = .ok (.iconst 2, 1) := by decide +kernel
theorem dX4_isBarred_8 : decode cX4_isBarred 8 = .ok (.invokevirtual 23, 3) := by decide +kernel
theorem dX4_isBarred_11 : decode cX4_isBarred 11 = .ok (.ireturn, 1) := by decide +kernel
theorem dX4_costOf_0 : decode cX4_costOf 0 = .ok (.aload_n 0, 1) := by decide +kernel
theorem dX4_costOf_1 : decode cX4_costOf 1 = .ok (.getfield 15, 3) := by decide +kernel
theorem dX4_costOf_4 : decode cX4_costOf 4 = .ok (.getfield 49, 3) := by decide +kernel
theorem dX4_costOf_7 : decode cX4_costOf 7 = .ok (.astore 6, 2) := by decide +kernel
theorem dX4_costOf_9 : decode cX4_costOf 9 = .ok (.iconst 0, 1) := by decide +kernel
theorem dX4_costOf_10 : decode cX4_costOf 10 = .ok (.istore 7, 2) := by decide +kernel
theorem dX4_costOf_12 : decode cX4_costOf 12 = .ok (.iload 7, 2) := by decide +kernel
theorem dX4_costOf_14 : decode cX4_costOf 14 = .ok (.iconst 4, 1) := by decide +kernel
theorem dX4_costOf_15 : decode cX4_costOf 15 = .ok (.if_icmp .gt 15, 3) := by decide +kernel
theorem dX4_costOf_18 : decode cX4_costOf 18 = .ok (.aload 6, 2) := by decide +kernel
theorem dX4_costOf_20 : decode cX4_costOf 20 = .ok (.iload 7, 2) := by decide +kernel
theorem dX4_costOf_22 : decode cX4_costOf 22 = .ok (.iconst (-1), 1) := by decide +kernel
theorem dX4_costOf_23 : decode cX4_costOf 23 = .ok (.iastore, 1) := by decide +kernel
theorem dX4_costOf_24 : decode cX4_costOf 24 = .ok (.iinc 7 1, 3) := by decide +kernel
theorem dX4_costOf_27 : decode cX4_costOf 27 = .ok (.goto (-15), 3) := by decide +kernel
theorem dX4_costOf_30 : decode cX4_costOf 30 = .ok (.aload 6, 2) := by decide +kernel
theorem dX4_costOf_32 : decode cX4_costOf 32 = .ok (.iconst 5, 1) := by decide +kernel
theorem dX4_costOf_33 : decode cX4_costOf 33 = .ok (.iload_n 1, 1) := by decide +kernel
theorem dX4_costOf_34 : decode cX4_costOf 34 = .ok (.iastore, 1) := by decide +kernel
theorem dX4_costOf_35 : decode cX4_costOf 35 = .ok (.aload 6, 2) := by decide +kernel
theorem dX4_costOf_37 : decode cX4_costOf 37 = .ok (.bipush 6, 2) := by decide +kernel
theorem dX4_costOf_39 : decode cX4_costOf 39 = .ok (.iload_n 2, 1) := by decide +kernel
theorem dX4_costOf_40 : decode cX4_costOf 40 = .ok (.iastore, 1) := by decide +kernel
theorem dX4_costOf_41 : decode cX4_costOf 41 = .ok (.aload 6, 2) := by decide +kernel
theorem dX4_costOf_43 : decode cX4_costOf 43 = .ok (.bipush 7, 2) := by decide +kernel
theorem dX4_costOf_45 : decode cX4_costOf 45 = .ok (.iload_n 3, 1) := by decide +kernel
theorem dX4_costOf_46 : decode cX4_costOf 46 = .ok (.iastore, 1) := by decide +kernel
theorem dX4_costOf_47 : decode cX4_costOf 47 = .ok (.aload 6, 2) := by decide +kernel
theorem dX4_costOf_49 : decode cX4_costOf 49 = .ok (.bipush 8, 2) := by decide +kernel
theorem dX4_costOf_51 : decode cX4_costOf 51 = .ok (.iload 4, 2) := by decide +kernel
theorem dX4_costOf_53 : decode cX4_costOf 53 = .ok (.ifCond .eq 7, 3) := by decide +kernel
theorem dX4_costOf_56 : decode cX4_costOf 56 = .ok (.iconst 1, 1) := by decide +kernel
theorem dX4_costOf_57 : decode cX4_costOf 57 = .ok (.goto 4, 3) := by decide +kernel
theorem dX4_costOf_60 : decode cX4_costOf 60 = .ok (.iconst 0, 1) := by decide +kernel
theorem dX4_costOf_61 : decode cX4_costOf 61 = .ok (.iastore, 1) := by decide +kernel
theorem dX4_costOf_62 : decode cX4_costOf 62 = .ok (.aload 6, 2) := by decide +kernel
theorem dX4_costOf_64 : decode cX4_costOf 64 = .ok (.bipush 9, 2) := by decide +kernel
theorem dX4_costOf_66 : decode cX4_costOf 66 = .ok (.iload 5, 2) := by decide +kernel
theorem dX4_costOf_68 : decode cX4_costOf 68 = .ok (.ifCond .eq 7, 3) := by decide +kernel
theorem dX4_costOf_71 : decode cX4_costOf 71 = .ok (.iconst 1, 1) := by decide +kernel
theorem dX4_costOf_72 : decode cX4_costOf 72 = .ok (.goto 4, 3) := by decide +kernel
theorem dX4_costOf_75 : decode cX4_costOf 75 = .ok (.iconst 0, 1) := by decide +kernel
theorem dX4_costOf_76 : decode cX4_costOf 76 = .ok (.iastore, 1) := by decide +kernel
theorem dX4_costOf_77 : decode cX4_costOf 77 = .ok (.aload_n 0, 1) := by decide +kernel
theorem dX4_costOf_78 : decode cX4_costOf 78 = .ok (.aload_n 0, 1) := by decide +kernel
theorem dX4_costOf_79 : decode cX4_costOf 79 = .ok (.getfield 9, 3) := by decide +kernel
theorem dX4_costOf_82 : decode cX4_costOf 82 = .ok (.getfield 52, 3) := by decide +kernel
theorem dX4_costOf_85 : decode cX4_costOf 85 = .ok (.invokevirtual 55, 3) := by decide +kernel
theorem dX4_costOf_88 : decode cX4_costOf 88 = .ok (.aload_n 0, 1) := by decide +kernel
theorem dX4_costOf_89 : decode cX4_costOf 89 = .ok (.iconst 1, 1) := by decide +kernel
theorem dX4_costOf_90 : decode cX4_costOf 90 = .ok (.invokevirtual 23, 3) := by decide +kernel
theorem dX4_costOf_93 : decode cX4_costOf 93 = .ok (.ifCond .eq 14, 3) := by decide +kernel
theorem dX4_costOf_96 : decode cX4_costOf 96 = .ok (.aload_n 0, 1) := by decide +kernel
theorem dX4_costOf_97 : decode cX4_costOf 97 = .ok (.getfield 15, 3) := by decide +kernel
theorem dX4_costOf_100 : decode cX4_costOf 100 = .ok (.getfield 27, 3) := by decide +kernel
theorem dX4_costOf_103 : decode cX4_costOf 103 = .ok (.invokestatic 33, 3) := by decide +kernel
theorem dX4_costOf_106 : decode cX4_costOf 106 = .ok (.ireturn, 1) := by decide +kernel
theorem dX4_costOf_107 : decode cX4_costOf 107 = .ok (.iconst 0, 1) := by decide +kernel
theorem dX4_costOf_108 : decode cX4_costOf 108 = .ok (.iload_n 2, 1) := by decide +kernel
theorem dX4_costOf_109 : decode cX4_costOf 109 = .ok (.invokestatic 59, 3) := by decide +kernel
theorem dX4_costOf_112 : decode cX4_costOf 112 = .ok (.iload 4, 2) := by decide +kernel
theorem dX4_costOf_114 : decode cX4_costOf 114 = .ok (.ifCond .eq 8, 3) := by decide +kernel
theorem dX4_costOf_117 : decode cX4_costOf 117 = .ok (.bipush 20, 2) := by decide +kernel
theorem dX4_costOf_119 : decode cX4_costOf 119 = .ok (.goto 4, 3) := by decide +kernel
theorem dX4_costOf_122 : decode cX4_costOf 122 = .ok (.iconst 0, 1) := by decide +kernel
theorem dX4_costOf_123 : decode cX4_costOf 123 = .ok (.iadd, 1) := by decide +kernel
theorem dX4_costOf_124 : decode cX4_costOf 124 = .ok (.ireturn, 1) := by decide +kernel
theorem dX4_headLineCost_0 : decode cX4_headLineCost 0 = .ok (.aload_n 0, 1) := by decide +kernel
theorem dX4_headLineCost_1 : decode cX4_headLineCost 1 = .ok (.getfield 9, 3) := by decide +kernel
theorem dX4_headLineCost_4 : decode cX4_headLineCost 4 = .ok (.getfield 65, 3) := by decide +kernel
theorem dX4_headLineCost_7 : decode cX4_headLineCost 7 = .ok (.iload_n 1, 1) := by decide +kernel
theorem dX4_headLineCost_8 : decode cX4_headLineCost 8 = .ok (.invokevirtual 69, 3) := by decide +kernel
theorem dX4_headLineCost_11 : decode cX4_headLineCost 11 = .ok (.istore_n 2, 1) := by decide +kernel
theorem dX4_headLineCost_12 : decode cX4_headLineCost 12 = .ok (.iload_n 2, 1) := by decide +kernel
theorem dX4_headLineCost_13 : decode cX4_headLineCost 13 = .ok (.ifCond .ne 5, 3) := by decide +kernel
theorem dX4_headLineCost_16 : decode cX4_headLineCost 16 = .ok (.iconst 0, 1) := by decide +kernel
theorem dX4_headLineCost_17 : decode cX4_headLineCost 17 = .ok (.ireturn, 1) := by decide +kernel
theorem dX4_headLineCost_18 : decode cX4_headLineCost 18 = .ok (.aload_n 0, 1) := by decide +kernel
theorem dX4_headLineCost_19 : decode cX4_headLineCost 19 = .ok (.getfield 9, 3) := by decide +kernel
theorem dX4_headLineCost_22 : decode cX4_headLineCost 22 = .ok (.getfield 74, 3) := by decide +kernel
theorem dX4_headLineCost_25 : decode cX4_headLineCost 25 = .ok (.aload_n 0, 1) := by decide +kernel
theorem dX4_headLineCost_26 : decode cX4_headLineCost 26 = .ok (.getfield 9, 3) := by decide +kernel
theorem dX4_headLineCost_29 : decode cX4_headLineCost 29 = .ok (.iload_n 1, 1) := by decide +kernel
theorem dX4_headLineCost_30 : decode cX4_headLineCost 30 = .ok (.invokevirtual 77, 3) := by decide +kernel
theorem dX4_headLineCost_33 : decode cX4_headLineCost 33 = .ok (.isub, 1) := by decide +kernel
theorem dX4_headLineCost_34 : decode cX4_headLineCost 34 = .ok (.istore_n 3, 1) := by decide +kernel
theorem dX4_headLineCost_35 : decode cX4_headLineCost 35 = .ok (.aload_n 0, 1) := by decide +kernel
theorem dX4_headLineCost_36 : decode cX4_headLineCost 36 = .ok (.iload_n 1, 1) := by decide +kernel
theorem dX4_headLineCost_37 : decode cX4_headLineCost 37 = .ok (.iload_n 3, 1) := by decide +kernel
theorem dX4_headLineCost_38 : decode cX4_headLineCost 38 = .ok (.iload_n 2, 1) := by decide +kernel
theorem dX4_headLineCost_39 : decode cX4_headLineCost 39 = .ok (.aload_n 0, 1) := by decide +kernel
theorem dX4_headLineCost_40 : decode cX4_headLineCost 40 = .ok (.getfield 9, 3) := by decide +kernel
theorem dX4_headLineCost_43 : decode cX4_headLineCost 43 = .ok (.iload_n 1, 1) := by decide +kernel
theorem dX4_headLineCost_44 : decode cX4_headLineCost 44 = .ok (.invokevirtual 80, 3) := by decide +kernel
theorem dX4_headLineCost_47 : decode cX4_headLineCost 47 = .ok (.aload_n 0, 1) := by decide +kernel
theorem dX4_headLineCost_48 : decode cX4_headLineCost 48 = .ok (.getfield 9, 3) := by decide +kernel
theorem dX4_headLineCost_51 : decode cX4_headLineCost 51 = .ok (.iload_n 1, 1) := by decide +kernel
theorem dX4_headLineCost_52 : decode cX4_headLineCost 52 = .ok (.invokevirtual 83, 3) := by decide +kernel
theorem dX4_headLineCost_55 : decode cX4_headLineCost 55 = .ok (.invokevirtual 86, 3) := by decide +kernel
theorem dX4_headLineCost_58 : decode cX4_headLineCost 58 = .ok (.ireturn, 1) := by decide +kernel
theorem dX4_nearestCost_0 : decode cX4_nearestCost 0 = .ok (.iconst 0, 1) := by decide +kernel
theorem dX4_nearestCost_1 : decode cX4_nearestCost 1 = .ok (.sipush 999, 3) := by decide +kernel
theorem dX4_nearestCost_4 : decode cX4_nearestCost 4 = .ok (.iload_n 0, 1) := by decide +kernel
theorem dX4_nearestCost_5 : decode cX4_nearestCost 5 = .ok (.invokestatic 90, 3) := by decide +kernel
theorem dX4_nearestCost_8 : decode cX4_nearestCost 8 = .ok (.invokestatic 59, 3) := by decide +kernel
theorem dX4_nearestCost_11 : decode cX4_nearestCost 11 = .ok (.ireturn, 1) := by decide +kernel
theorem dX4_tellWord_0 : decode cX4_tellWord 0 = .ok (.aload_n 0, 1) := by decide +kernel
theorem dX4_tellWord_1 : decode cX4_tellWord 1 = .ok (.getfield 15, 3) := by decide +kernel
theorem dX4_tellWord_4 : decode cX4_tellWord 4 = .ok (.getfield 49, 3) := by decide +kernel
theorem dX4_tellWord_7 : decode cX4_tellWord 7 = .ok (.astore_n 3, 1) := by decide +kernel
theorem dX4_tellWord_8 : decode cX4_tellWord 8 = .ok (.aload_n 3, 1) := by decide +kernel
theorem dX4_tellWord_9 : decode cX4_tellWord 9 = .ok (.iconst 0, 1) := by decide +kernel
theorem dX4_tellWord_10 : decode cX4_tellWord 10 = .ok (.iload_n 1, 1) := by decide +kernel
theorem dX4_tellWord_11 : decode cX4_tellWord 11 = .ok (.iastore, 1) := by decide +kernel
theorem dX4_tellWord_12 : decode cX4_tellWord 12 = .ok (.aload_n 3, 1) := by decide +kernel
theorem dX4_tellWord_13 : decode cX4_tellWord 13 = .ok (.iconst 1, 1) := by decide +kernel
theorem dX4_tellWord_14 : decode cX4_tellWord 14 = .ok (.aload_n 0, 1) := by decide +kernel
theorem dX4_tellWord_15 : decode cX4_tellWord 15 = .ok (.getfield 9, 3) := by decide +kernel
theorem dX4_tellWord_18 : decode cX4_tellWord 18 = .ok (.getfield 37, 3) := by decide +kernel
theorem dX4_tellWord_21 : decode cX4_tellWord 21 = .ok (.getfield 93, 3) := by decide +kernel
theorem dX4_tellWord_24 : decode cX4_tellWord 24 = .ok (.iload_n 1, 1) := by decide +kernel
theorem dX4_tellWord_25 : decode cX4_tellWord 25 = .ok (.iaload, 1) := by decide +kernel
theorem dX4_tellWord_26 : decode cX4_tellWord 26 = .ok (.iastore, 1) := by decide +kernel
theorem dX4_tellWord_27 : decode cX4_tellWord 27 = .ok (.aload_n 3, 1) := by decide +kernel
theorem dX4_tellWord_28 : decode cX4_tellWord 28 = .ok (.iconst 2, 1) := by decide +kernel
theorem dX4_tellWord_29 : decode cX4_tellWord 29 = .ok (.aload_n 0, 1) := by decide +kernel
theorem dX4_tellWord_30 : decode cX4_tellWord 30 = .ok (.getfield 9, 3) := by decide +kernel
theorem dX4_tellWord_33 : decode cX4_tellWord 33 = .ok (.getfield 37, 3) := by decide +kernel
theorem dX4_tellWord_36 : decode cX4_tellWord 36 = .ok (.getfield 43, 3) := by decide +kernel
theorem dX4_tellWord_39 : decode cX4_tellWord 39 = .ok (.iload_n 1, 1) := by decide +kernel
theorem dX4_tellWord_40 : decode cX4_tellWord 40 = .ok (.iaload, 1) := by decide +kernel
theorem dX4_tellWord_41 : decode cX4_tellWord 41 = .ok (.iastore, 1) := by decide +kernel
theorem dX4_tellWord_42 : decode cX4_tellWord 42 = .ok (.aload_n 3, 1) := by decide +kernel
theorem dX4_tellWord_43 : decode cX4_tellWord 43 = .ok (.iconst 3, 1) := by decide +kernel
theorem dX4_tellWord_44 : decode cX4_tellWord 44 = .ok (.aload_n 0, 1) := by decide +kernel
theorem dX4_tellWord_45 : decode cX4_tellWord 45 = .ok (.getfield 9, 3) := by decide +kernel
theorem dX4_tellWord_48 : decode cX4_tellWord 48 = .ok (.getfield 37, 3) := by decide +kernel
theorem dX4_tellWord_51 : decode cX4_tellWord 51 = .ok (.getfield 96, 3) := by decide +kernel
theorem dX4_tellWord_54 : decode cX4_tellWord 54 = .ok (.iload_n 1, 1) := by decide +kernel
theorem dX4_tellWord_55 : decode cX4_tellWord 55 = .ok (.iaload, 1) := by decide +kernel
theorem dX4_tellWord_56 : decode cX4_tellWord 56 = .ok (.iastore, 1) := by decide +kernel
theorem dX4_tellWord_57 : decode cX4_tellWord 57 = .ok (.aload_n 3, 1) := by decide +kernel
theorem dX4_tellWord_58 : decode cX4_tellWord 58 = .ok (.iconst 4, 1) := by decide +kernel
theorem dX4_tellWord_59 : decode cX4_tellWord 59 = .ok (.aload_n 0, 1) := by decide +kernel
theorem dX4_tellWord_60 : decode cX4_tellWord 60 = .ok (.getfield 9, 3) := by decide +kernel
theorem dX4_tellWord_63 : decode cX4_tellWord 63 = .ok (.getfield 37, 3) := by decide +kernel
theorem dX4_tellWord_66 : decode cX4_tellWord 66 = .ok (.getfield 99, 3) := by decide +kernel
theorem dX4_tellWord_69 : decode cX4_tellWord 69 = .ok (.iload_n 1, 1) := by decide +kernel
theorem dX4_tellWord_70 : decode cX4_tellWord 70 = .ok (.iaload, 1) := by decide +kernel
theorem dX4_tellWord_71 : decode cX4_tellWord 71 = .ok (.iastore, 1) := by decide +kernel
theorem dX4_tellWord_72 : decode cX4_tellWord 72 = .ok (.iconst 5, 1) := by decide +kernel
theorem dX4_tellWord_73 : decode cX4_tellWord 73 = .ok (.istore 4, 2) := by decide +kernel
theorem dX4_tellWord_75 : decode cX4_tellWord 75 = .ok (.iload 4, 2) := by decide +kernel
theorem dX4_tellWord_77 : decode cX4_tellWord 77 = .ok (.bipush 9, 2) := by decide +kernel
theorem dX4_tellWord_79 : decode cX4_tellWord 79 = .ok (.if_icmp .gt 14, 3) := by decide +kernel
theorem dX4_tellWord_82 : decode cX4_tellWord 82 = .ok (.aload_n 3, 1) := by decide +kernel
theorem dX4_tellWord_83 : decode cX4_tellWord 83 = .ok (.iload 4, 2) := by decide +kernel
theorem dX4_tellWord_85 : decode cX4_tellWord 85 = .ok (.iconst (-1), 1) := by decide +kernel
theorem dX4_tellWord_86 : decode cX4_tellWord 86 = .ok (.iastore, 1) := by decide +kernel
theorem dX4_tellWord_87 : decode cX4_tellWord 87 = .ok (.iinc 4 1, 3) := by decide +kernel
theorem dX4_tellWord_90 : decode cX4_tellWord 90 = .ok (.goto (-15), 3) := by decide +kernel
theorem dX4_tellWord_93 : decode cX4_tellWord 93 = .ok (.aload_n 0, 1) := by decide +kernel
theorem dX4_tellWord_94 : decode cX4_tellWord 94 = .ok (.iload_n 2, 1) := by decide +kernel
theorem dX4_tellWord_95 : decode cX4_tellWord 95 = .ok (.invokevirtual 55, 3) := by decide +kernel
theorem dX4_tellWord_98 : decode cX4_tellWord 98 = .ok (.return_, 1) := by decide +kernel
theorem dX4_tellAlways_0 : decode cX4_tellAlways 0 = .ok (.aload_n 0, 1) := by decide +kernel
theorem dX4_tellAlways_1 : decode cX4_tellAlways 1 = .ok (.getfield 15, 3) := by decide +kernel
theorem dX4_tellAlways_4 : decode cX4_tellAlways 4 = .ok (.getfield 49, 3) := by decide +kernel
theorem dX4_tellAlways_7 : decode cX4_tellAlways 7 = .ok (.bipush 10, 2) := by decide +kernel
theorem dX4_tellAlways_9 : decode cX4_tellAlways 9 = .ok (.iload_n 1, 1) := by decide +kernel
theorem dX4_tellAlways_10 : decode cX4_tellAlways 10 = .ok (.iastore, 1) := by decide +kernel
theorem dX4_tellAlways_11 : decode cX4_tellAlways 11 = .ok (.aload_n 0, 1) := by decide +kernel
theorem dX4_tellAlways_12 : decode cX4_tellAlways 12 = .ok (.getfield 15, 3) := by decide +kernel
theorem dX4_tellAlways_15 : decode cX4_tellAlways 15 = .ok (.getfield 49, 3) := by decide +kernel
theorem dX4_tellAlways_18 : decode cX4_tellAlways 18 = .ok (.bipush 11, 2) := by decide +kernel
theorem dX4_tellAlways_20 : decode cX4_tellAlways 20 = .ok (.aload_n 0, 1) := by decide +kernel
theorem dX4_tellAlways_21 : decode cX4_tellAlways 21 = .ok (.getfield 9, 3) := by decide +kernel
theorem dX4_tellAlways_24 : decode cX4_tellAlways 24 = .ok (.getfield 102, 3) := by decide +kernel
theorem dX4_tellAlways_27 : decode cX4_tellAlways 27 = .ok (.iconst 0, 1) := by decide +kernel
theorem dX4_tellAlways_28 : decode cX4_tellAlways 28 = .ok (.iaload, 1) := by decide +kernel
theorem dX4_tellAlways_29 : decode cX4_tellAlways 29 = .ok (.iastore, 1) := by decide +kernel
theorem dX4_tellAlways_30 : decode cX4_tellAlways 30 = .ok (.aload_n 0, 1) := by decide +kernel
theorem dX4_tellAlways_31 : decode cX4_tellAlways 31 = .ok (.getfield 15, 3) := by decide +kernel
theorem dX4_tellAlways_34 : decode cX4_tellAlways 34 = .ok (.getfield 49, 3) := by decide +kernel
theorem dX4_tellAlways_37 : decode cX4_tellAlways 37 = .ok (.bipush 12, 2) := by decide +kernel
theorem dX4_tellAlways_39 : decode cX4_tellAlways 39 = .ok (.aload_n 0, 1) := by decide +kernel
theorem dX4_tellAlways_40 : decode cX4_tellAlways 40 = .ok (.getfield 9, 3) := by decide +kernel
theorem dX4_tellAlways_43 : decode cX4_tellAlways 43 = .ok (.getfield 102, 3) := by decide +kernel
theorem dX4_tellAlways_46 : decode cX4_tellAlways 46 = .ok (.iconst 1, 1) := by decide +kernel
theorem dX4_tellAlways_47 : decode cX4_tellAlways 47 = .ok (.iaload, 1) := by decide +kernel
theorem dX4_tellAlways_48 : decode cX4_tellAlways 48 = .ok (.iastore, 1) := by decide +kernel
theorem dX4_tellAlways_49 : decode cX4_tellAlways 49 = .ok (.return_, 1) := by decide +kernel
theorem dX4_findHolding_0 : decode cX4_findHolding 0 = .ok (.aload_n 0, 1) := by decide +kernel
theorem dX4_findHolding_1 : decode cX4_findHolding 1 = .ok (.getfield 9, 3) := by decide +kernel
theorem dX4_findHolding_4 : decode cX4_findHolding 4 = .ok (.getfield 105, 3) := by decide +kernel
theorem dX4_findHolding_7 : decode cX4_findHolding 7 = .ok (.ifCond .lt 20, 3) := by decide +kernel
theorem dX4_findHolding_10 : decode cX4_findHolding 10 = .ok (.aload_n 0, 1) := by decide +kernel
theorem dX4_findHolding_11 : decode cX4_findHolding 11 = .ok (.getfield 9, 3) := by decide +kernel
theorem dX4_findHolding_14 : decode cX4_findHolding 14 = .ok (.getfield 105, 3) := by decide +kernel
theorem dX4_findHolding_17 : decode cX4_findHolding 17 = .ok (.aload_n 0, 1) := by decide +kernel
theorem dX4_findHolding_18 : decode cX4_findHolding 18 = .ok (.getfield 9, 3) := by decide +kernel
theorem dX4_findHolding_21 : decode cX4_findHolding 21 = .ok (.getfield 108, 3) := by decide +kernel
theorem dX4_findHolding_24 : decode cX4_findHolding 24 = .ok (.if_icmp .lt 5, 3) := by decide +kernel
theorem dX4_findHolding_27 : decode cX4_findHolding 27 = .ok (.iconst 0, 1) := by decide +kernel
theorem dX4_findHolding_28 : decode cX4_findHolding 28 = .ok (.ireturn, 1) := by decide +kernel
theorem dX4_findHolding_29 : decode cX4_findHolding 29 = .ok (.aload_n 0, 1) := by decide +kernel
theorem dX4_findHolding_30 : decode cX4_findHolding 30 = .ok (.getfield 9, 3) := by decide +kernel
theorem dX4_findHolding_33 : decode cX4_findHolding 33 = .ok (.getfield 111, 3) := by decide +kernel
theorem dX4_findHolding_36 : decode cX4_findHolding 36 = .ok (.aload_n 0, 1) := by decide +kernel
theorem dX4_findHolding_37 : decode cX4_findHolding 37 = .ok (.getfield 9, 3) := by decide +kernel
theorem dX4_findHolding_40 : decode cX4_findHolding 40 = .ok (.getfield 105, 3) := by decide +kernel
theorem dX4_findHolding_43 : decode cX4_findHolding 43 = .ok (.aaload, 1) := by decide +kernel
theorem dX4_findHolding_44 : decode cX4_findHolding 44 = .ok (.astore_n 2, 1) := by decide +kernel
theorem dX4_findHolding_45 : decode cX4_findHolding 45 = .ok (.aload_n 2, 1) := by decide +kernel
theorem dX4_findHolding_46 : decode cX4_findHolding 46 = .ok (.ifnonnull 5, 3) := by decide +kernel
theorem dX4_findHolding_49 : decode cX4_findHolding 49 = .ok (.iconst 0, 1) := by decide +kernel
theorem dX4_findHolding_50 : decode cX4_findHolding 50 = .ok (.ireturn, 1) := by decide +kernel
theorem dX4_findHolding_51 : decode cX4_findHolding 51 = .ok (.aload_n 2, 1) := by decide +kernel
theorem dX4_findHolding_52 : decode cX4_findHolding 52 = .ok (.getfield 115, 3) := by decide +kernel
theorem dX4_findHolding_55 : decode cX4_findHolding 55 = .ok (.iconst 1, 1) := by decide +kernel
theorem dX4_findHolding_56 : decode cX4_findHolding 56 = .ok (.isub, 1) := by decide +kernel
theorem dX4_findHolding_57 : decode cX4_findHolding 57 = .ok (.istore_n 3, 1) := by decide +kernel
theorem dX4_findHolding_58 : decode cX4_findHolding 58 = .ok (.iload_n 3, 1) := by decide +kernel
theorem dX4_findHolding_59 : decode cX4_findHolding 59 = .ok (.ifCond .lt 103, 3) := by decide +kernel
theorem dX4_findHolding_62 : decode cX4_findHolding 62 = .ok (.aload_n 2, 1) := by decide +kernel
theorem dX4_findHolding_63 : decode cX4_findHolding 63 = .ok (.getfield 120, 3) := by decide +kernel
theorem dX4_findHolding_66 : decode cX4_findHolding 66 = .ok (.iload_n 3, 1) := by decide +kernel
theorem dX4_findHolding_67 : decode cX4_findHolding 67 = .ok (.iaload, 1) := by decide +kernel
theorem dX4_findHolding_68 : decode cX4_findHolding 68 = .ok (.iload_n 1, 1) := by decide +kernel
theorem dX4_findHolding_69 : decode cX4_findHolding 69 = .ok (.if_icmp .eq 6, 3) := by decide +kernel
theorem dX4_findHolding_72 : decode cX4_findHolding 72 = .ok (.goto 84, 3) := by decide +kernel
theorem dX4_findHolding_75 : decode cX4_findHolding 75 = .ok (.aload_n 2, 1) := by decide +kernel
theorem dX4_findHolding_76 : decode cX4_findHolding 76 = .ok (.iload_n 3, 1) := by decide +kernel
theorem dX4_findHolding_77 : decode cX4_findHolding 77 = .ok (.invokevirtual 123, 3) := by decide +kernel
theorem dX4_findHolding_80 : decode cX4_findHolding 80 = .ok (.ifCond .eq 43, 3) := by decide +kernel
theorem dX4_findHolding_83 : decode cX4_findHolding 83 = .ok (.aload_n 0, 1) := by decide +kernel
theorem dX4_findHolding_84 : decode cX4_findHolding 84 = .ok (.getfield 15, 3) := by decide +kernel
theorem dX4_findHolding_87 : decode cX4_findHolding 87 = .ok (.aload_n 2, 1) := by decide +kernel
theorem dX4_findHolding_88 : decode cX4_findHolding 88 = .ok (.aload_n 2, 1) := by decide +kernel
theorem dX4_findHolding_89 : decode cX4_findHolding 89 = .ok (.getfield 126, 3) := by decide +kernel
theorem dX4_findHolding_92 : decode cX4_findHolding 92 = .ok (.iload_n 3, 1) := by decide +kernel
theorem dX4_findHolding_93 : decode cX4_findHolding 93 = .ok (.iaload, 1) := by decide +kernel
theorem dX4_findHolding_94 : decode cX4_findHolding 94 = .ok (.aload_n 2, 1) := by decide +kernel
theorem dX4_findHolding_95 : decode cX4_findHolding 95 = .ok (.getfield 129, 3) := by decide +kernel
theorem dX4_findHolding_98 : decode cX4_findHolding 98 = .ok (.iload_n 3, 1) := by decide +kernel
theorem dX4_findHolding_99 : decode cX4_findHolding 99 = .ok (.iaload, 1) := by decide +kernel
theorem dX4_findHolding_100 : decode cX4_findHolding 100 = .ok (.invokevirtual 132, 3) := by decide +kernel
theorem dX4_findHolding_103 : decode cX4_findHolding 103 = .ok (.istore 4, 2) := by decide +kernel
theorem dX4_findHolding_105 : decode cX4_findHolding 105 = .ok (.iload 4, 2) := by decide +kernel
theorem dX4_findHolding_107 : decode cX4_findHolding 107 = .ok (.ifCond .eq 49, 3) := by decide +kernel
theorem dX4_findHolding_110 : decode cX4_findHolding 110 = .ok (.aload_n 0, 1) := by decide +kernel
theorem dX4_findHolding_111 : decode cX4_findHolding 111 = .ok (.getfield 15, 3) := by decide +kernel
theorem dX4_findHolding_114 : decode cX4_findHolding 114 = .ok (.getfield 27, 3) := by decide +kernel
theorem dX4_findHolding_117 : decode cX4_findHolding 117 = .ok (.ifCond .ne 6, 3) := by decide +kernel
theorem dX4_findHolding_120 : decode cX4_findHolding 120 = .ok (.goto 36, 3) := by decide +kernel
theorem dX4_findHolding_123 : decode cX4_findHolding 123 = .ok (.aload_n 2, 1) := by decide +kernel
theorem dX4_findHolding_124 : decode cX4_findHolding 124 = .ok (.iload_n 3, 1) := by decide +kernel
theorem dX4_findHolding_125 : decode cX4_findHolding 125 = .ok (.invokevirtual 136, 3) := by decide +kernel
theorem dX4_findHolding_128 : decode cX4_findHolding 128 = .ok (.ifCond .eq 26, 3) := by decide +kernel
theorem dX4_findHolding_131 : decode cX4_findHolding 131 = .ok (.aload_n 0, 1) := by decide +kernel
theorem dX4_findHolding_132 : decode cX4_findHolding 132 = .ok (.getfield 15, 3) := by decide +kernel
theorem dX4_findHolding_135 : decode cX4_findHolding 135 = .ok (.aload_n 2, 1) := by decide +kernel
theorem dX4_findHolding_136 : decode cX4_findHolding 136 = .ok (.aload_n 2, 1) := by decide +kernel
theorem dX4_findHolding_137 : decode cX4_findHolding 137 = .ok (.getfield 139, 3) := by decide +kernel
theorem dX4_findHolding_140 : decode cX4_findHolding 140 = .ok (.iload_n 3, 1) := by decide +kernel
theorem dX4_findHolding_141 : decode cX4_findHolding 141 = .ok (.iaload, 1) := by decide +kernel
theorem dX4_findHolding_142 : decode cX4_findHolding 142 = .ok (.aload_n 2, 1) := by decide +kernel
theorem dX4_findHolding_143 : decode cX4_findHolding 143 = .ok (.getfield 126, 3) := by decide +kernel
theorem dX4_findHolding_146 : decode cX4_findHolding 146 = .ok (.iload_n 3, 1) := by decide +kernel
theorem dX4_findHolding_147 : decode cX4_findHolding 147 = .ok (.iaload, 1) := by decide +kernel
theorem dX4_findHolding_148 : decode cX4_findHolding 148 = .ok (.invokevirtual 132, 3) := by decide +kernel
theorem dX4_findHolding_151 : decode cX4_findHolding 151 = .ok (.ifCond .eq 5, 3) := by decide +kernel
theorem dX4_findHolding_154 : decode cX4_findHolding 154 = .ok (.iconst 1, 1) := by decide +kernel
theorem dX4_findHolding_155 : decode cX4_findHolding 155 = .ok (.ireturn, 1) := by decide +kernel
theorem dX4_findHolding_156 : decode cX4_findHolding 156 = .ok (.iinc 3 (-1), 3) := by decide +kernel
theorem dX4_findHolding_159 : decode cX4_findHolding 159 = .ok (.goto (-101), 3) := by decide +kernel
theorem dX4_findHolding_162 : decode cX4_findHolding 162 = .ok (.iconst 0, 1) := by decide +kernel
theorem dX4_findHolding_163 : decode cX4_findHolding 163 = .ok (.ireturn, 1) := by decide +kernel
theorem dX5_init_0 : decode cX5_init 0 = .ok (.aload_n 0, 1) := by decide +kernel
theorem dX5_init_1 : decode cX5_init 1 = .ok (.invokespecial 3, 3) := by decide +kernel
theorem dX5_init_4 : decode cX5_init 4 = .ok (.aload_n 0, 1) := by decide +kernel
theorem dX5_init_5 : decode cX5_init 5 = .ok (.new 9, 3) := by decide +kernel
theorem dX5_init_8 : decode cX5_init 8 = .ok (.dup, 1) := by decide +kernel
theorem dX5_init_9 : decode cX5_init 9 = .ok (.sipush 800, 3) := by decide +kernel
theorem dX5_init_12 : decode cX5_init 12 = .ok (.bipush 12, 2) := by decide +kernel
theorem dX5_init_14 : decode cX5_init 14 = .ok (.invokespecial 11, 3) := by decide +kernel
theorem dX5_init_17 : decode cX5_init 17 = .ok (.putfield 14, 3) := by decide +kernel
theorem dX5_init_20 : decode cX5_init 20 = .ok (.aload_n 0, 1) := by decide +kernel
theorem dX5_init_21 : decode cX5_init 21 = .ok (.iconst (-1), 1) := by decide +kernel
theorem dX5_init_22 : decode cX5_init 22 = .ok (.putfield 20, 3) := by decide +kernel
theorem dX5_init_25 : decode cX5_init 25 = .ok (.aload_n 0, 1) := by decide +kernel
theorem dX5_init_26 : decode cX5_init 26 = .ok (.iconst 0, 1) := by decide +kernel
theorem dX5_init_27 : decode cX5_init 27 = .ok (.newarray .byte, 2) := by decide +kernel
theorem dX5_init_29 : decode cX5_init 29 = .ok (.putfield 24, 3) := by decide +kernel
theorem dX5_init_32 : decode cX5_init 32 = .ok (.aload_n 0, 1) := by decide +kernel
theorem dX5_init_33 : decode cX5_init 33 = .ok (.iconst 0, 1) := by decide +kernel
theorem dX5_init_34 : decode cX5_init 34 = .ok (.putfield 28, 3) := by decide +kernel
theorem dX5_init_37 : decode cX5_init 37 = .ok (.aload_n 0, 1) := by decide +kernel
theorem dX5_init_38 : decode cX5_init 38 = .ok (.iconst 0, 1) := by decide +kernel
theorem dX5_init_39 : decode cX5_init 39 = .ok (.putfield 31, 3) := by decide +kernel
theorem dX5_init_42 : decode cX5_init 42 = .ok (.aload_n 0, 1) := by decide +kernel
theorem dX5_init_43 : decode cX5_init 43 = .ok (.iconst 0, 1) := by decide +kernel
theorem dX5_init_44 : decode cX5_init 44 = .ok (.putfield 35, 3) := by decide +kernel
theorem dX5_init_47 : decode cX5_init 47 = .ok (.aload_n 0, 1) := by decide +kernel
theorem dX5_init_48 : decode cX5_init 48 = .ok (.iconst 0, 1) := by decide +kernel
theorem dX5_init_49 : decode cX5_init 49 = .ok (.putfield 38, 3) := by decide +kernel
theorem dX5_init_52 : decode cX5_init 52 = .ok (.aload_n 0, 1) := by decide +kernel
theorem dX5_init_53 : decode cX5_init 53 = .ok (.iconst 0, 1) := by decide +kernel
theorem dX5_init_54 : decode cX5_init 54 = .ok (.putfield 41, 3) := by decide +kernel
theorem dX5_init_57 : decode cX5_init 57 = .ok (.aload_n 0, 1) := by decide +kernel
theorem dX5_init_58 : decode cX5_init 58 = .ok (.iconst 0, 1) := by decide +kernel
theorem dX5_init_59 : decode cX5_init 59 = .ok (.putfield 44, 3) := by decide +kernel
theorem dX5_init_62 : decode cX5_init 62 = .ok (.return_, 1) := by decide +kernel
theorem dX5_reads_0 : decode cX5_reads 0 = .ok (.aload_n 0, 1) := by decide +kernel
theorem dX5_reads_1 : decode cX5_reads 1 = .ok (.aload_n 1, 1) := by decide +kernel
theorem dX5_reads_2 : decode cX5_reads 2 = .ok (.putfield 24, 3) := by decide +kernel
theorem dX5_reads_5 : decode cX5_reads 5 = .ok (.aload_n 0, 1) := by decide +kernel
theorem dX5_reads_6 : decode cX5_reads 6 = .ok (.iload_n 2, 1) := by decide +kernel
theorem dX5_reads_7 : decode cX5_reads 7 = .ok (.aload_n 1, 1) := by decide +kernel
theorem dX5_reads_8 : decode cX5_reads 8 = .ok (.arraylength, 1) := by decide +kernel
theorem dX5_reads_9 : decode cX5_reads 9 = .ok (.invokestatic 47, 3) := by decide +kernel
theorem dX5_reads_12 : decode cX5_reads 12 = .ok (.putfield 28, 3) := by decide +kernel
theorem dX5_reads_15 : decode cX5_reads 15 = .ok (.aload_n 0, 1) := by decide +kernel
theorem dX5_reads_16 : decode cX5_reads 16 = .ok (.iload_n 3, 1) := by decide +kernel
theorem dX5_reads_17 : decode cX5_reads 17 = .ok (.putfield 31, 3) := by decide +kernel
theorem dX5_reads_20 : decode cX5_reads 20 = .ok (.aload_n 0, 1) := by decide +kernel
theorem dX5_reads_21 : decode cX5_reads 21 = .ok (.iconst 0, 1) := by decide +kernel
theorem dX5_reads_22 : decode cX5_reads 22 = .ok (.putfield 35, 3) := by decide +kernel
theorem dX5_reads_25 : decode cX5_reads 25 = .ok (.aload_n 0, 1) := by decide +kernel
theorem dX5_reads_26 : decode cX5_reads 26 = .ok (.iconst 0, 1) := by decide +kernel
theorem dX5_reads_27 : decode cX5_reads 27 = .ok (.putfield 44, 3) := by decide +kernel
theorem dX5_reads_30 : decode cX5_reads 30 = .ok (.aload_n 0, 1) := by decide +kernel
theorem dX5_reads_31 : decode cX5_reads 31 = .ok (.iconst (-1), 1) := by decide +kernel
theorem dX5_reads_32 : decode cX5_reads 32 = .ok (.putfield 20, 3) := by decide +kernel
theorem dX5_reads_35 : decode cX5_reads 35 = .ok (.aload_n 0, 1) := by decide +kernel
theorem dX5_reads_36 : decode cX5_reads 36 = .ok (.getfield 14, 3) := by decide +kernel
theorem dX5_reads_39 : decode cX5_reads 39 = .ok (.iconst 0, 1) := by decide +kernel
theorem dX5_reads_40 : decode cX5_reads 40 = .ok (.putfield 53, 3) := by decide +kernel
theorem dX5_reads_43 : decode cX5_reads 43 = .ok (.aload_n 0, 1) := by decide +kernel
theorem dX5_reads_44 : decode cX5_reads 44 = .ok (.getfield 14, 3) := by decide +kernel
theorem dX5_reads_47 : decode cX5_reads 47 = .ok (.iconst 0, 1) := by decide +kernel
theorem dX5_reads_48 : decode cX5_reads 48 = .ok (.putfield 56, 3) := by decide +kernel
theorem dX5_reads_51 : decode cX5_reads 51 = .ok (.iconst 0, 1) := by decide +kernel
theorem dX5_reads_52 : decode cX5_reads 52 = .ok (.istore 4, 2) := by decide +kernel
theorem dX5_reads_54 : decode cX5_reads 54 = .ok (.iload 4, 2) := by decide +kernel
theorem dX5_reads_56 : decode cX5_reads 56 = .ok (.bipush 12, 2) := by decide +kernel
theorem dX5_reads_58 : decode cX5_reads 58 = .ok (.if_icmp .ge 45, 3) := by decide +kernel
theorem dX5_reads_61 : decode cX5_reads 61 = .ok (.aload_n 0, 1) := by decide +kernel
theorem dX5_reads_62 : decode cX5_reads 62 = .ok (.invokevirtual 59, 3) := by decide +kernel
theorem dX5_reads_65 : decode cX5_reads 65 = .ok (.aload_n 0, 1) := by decide +kernel
theorem dX5_reads_66 : decode cX5_reads 66 = .ok (.invokevirtual 62, 3) := by decide +kernel
theorem dX5_reads_69 : decode cX5_reads 69 = .ok (.ifCond .ne 5, 3) := by decide +kernel
theorem dX5_reads_72 : decode cX5_reads 72 = .ok (.iconst 0, 1) := by decide +kernel
theorem dX5_reads_73 : decode cX5_reads 73 = .ok (.ireturn, 1) := by decide +kernel
theorem dX5_reads_74 : decode cX5_reads 74 = .ok (.aload_n 0, 1) := by decide +kernel
theorem dX5_reads_75 : decode cX5_reads 75 = .ok (.getfield 38, 3) := by decide +kernel
theorem dX5_reads_78 : decode cX5_reads 78 = .ok (.ifCond .ne 5, 3) := by decide +kernel
theorem dX5_reads_81 : decode cX5_reads 81 = .ok (.iconst 1, 1) := by decide +kernel
theorem dX5_reads_82 : decode cX5_reads 82 = .ok (.ireturn, 1) := by decide +kernel
theorem dX5_reads_83 : decode cX5_reads 83 = .ok (.aload_n 0, 1) := by decide +kernel
theorem dX5_reads_84 : decode cX5_reads 84 = .ok (.bipush 59, 2) := by decide +kernel
theorem dX5_reads_86 : decode cX5_reads 86 = .ok (.invokevirtual 66, 3) := by decide +kernel
theorem dX5_reads_89 : decode cX5_reads 89 = .ok (.ifCond .ne 8, 3) := by decide +kernel
theorem dX5_reads_92 : decode cX5_reads 92 = .ok (.aload_n 0, 1) := by decide +kernel
theorem dX5_reads_93 : decode cX5_reads 93 = .ok (.invokevirtual 70, 3) := by decide +kernel
theorem dX5_reads_96 : decode cX5_reads 96 = .ok (.ireturn, 1) := by decide +kernel
theorem dX5_reads_97 : decode cX5_reads 97 = .ok (.iinc 4 1, 3) := by decide +kernel
theorem dX5_reads_100 : decode cX5_reads 100 = .ok (.goto (-46), 3) := by decide +kernel
theorem dX5_reads_103 : decode cX5_reads 103 = .ok (.aload_n 0, 1) := by decide +kernel
theorem dX5_reads_104 : decode cX5_reads 104 = .ok (.invokevirtual 59, 3) := by decide +kernel
theorem dX5_reads_107 : decode cX5_reads 107 = .ok (.aload_n 0, 1) := by decide +kernel
theorem dX5_reads_108 : decode cX5_reads 108 = .ok (.invokevirtual 70, 3) := by decide +kernel
theorem dX5_reads_111 : decode cX5_reads 111 = .ok (.ireturn, 1) := by decide +kernel
theorem dX5_fails_0 : decode cX5_fails 0 = .ok (.aload_n 0, 1) := by decide +kernel
theorem dX5_fails_1 : decode cX5_fails 1 = .ok (.aload_n 0, 1) := by decide +kernel
theorem dX5_fails_2 : decode cX5_fails 2 = .ok (.getfield 41, 3) := by decide +kernel
theorem dX5_fails_5 : decode cX5_fails 5 = .ok (.putfield 20, 3) := by decide +kernel
theorem dX5_fails_8 : decode cX5_fails 8 = .ok (.iconst 0, 1) := by decide +kernel
theorem dX5_fails_9 : decode cX5_fails 9 = .ok (.ireturn, 1) := by decide +kernel
theorem dX5_advance_0 : decode cX5_advance 0 = .ok (.aload_n 0, 1) := by decide +kernel
theorem dX5_advance_1 : decode cX5_advance 1 = .ok (.getfield 44, 3) := by decide +kernel
theorem dX5_advance_4 : decode cX5_advance 4 = .ok (.istore_n 1, 1) := by decide +kernel
theorem dX5_advance_5 : decode cX5_advance 5 = .ok (.iload_n 1, 1) := by decide +kernel
theorem dX5_advance_6 : decode cX5_advance 6 = .ok (.aload_n 0, 1) := by decide +kernel
theorem dX5_advance_7 : decode cX5_advance 7 = .ok (.getfield 28, 3) := by decide +kernel
theorem dX5_advance_10 : decode cX5_advance 10 = .ok (.if_icmp .ge 20, 3) := by decide +kernel
theorem dX5_advance_13 : decode cX5_advance 13 = .ok (.aload_n 0, 1) := by decide +kernel
theorem dX5_advance_14 : decode cX5_advance 14 = .ok (.getfield 24, 3) := by decide +kernel
theorem dX5_advance_17 : decode cX5_advance 17 = .ok (.iload_n 1, 1) := by decide +kernel
theorem dX5_advance_18 : decode cX5_advance 18 = .ok (.baload, 1) := by decide +kernel
theorem dX5_advance_19 : decode cX5_advance 19 = .ok (.bipush 32, 2) := by decide +kernel
theorem dX5_advance_21 : decode cX5_advance 21 = .ok (.if_icmp .ne 9, 3) := by decide +kernel
theorem dX5_advance_24 : decode cX5_advance 24 = .ok (.iinc 1 1, 3) := by decide +kernel
theorem dX5_advance_27 : decode cX5_advance 27 = .ok (.goto (-22), 3) := by decide +kernel
theorem dX5_advance_30 : decode cX5_advance 30 = .ok (.aload_n 0, 1) := by decide +kernel
theorem dX5_advance_31 : decode cX5_advance 31 = .ok (.iload_n 1, 1) := by decide +kernel
theorem dX5_advance_32 : decode cX5_advance 32 = .ok (.putfield 41, 3) := by decide +kernel
theorem dX5_advance_35 : decode cX5_advance 35 = .ok (.aload_n 0, 1) := by decide +kernel
theorem dX5_advance_36 : decode cX5_advance 36 = .ok (.aload_n 0, 1) := by decide +kernel
theorem dX5_advance_37 : decode cX5_advance 37 = .ok (.iload_n 1, 1) := by decide +kernel
theorem dX5_advance_38 : decode cX5_advance 38 = .ok (.invokevirtual 73, 3) := by decide +kernel
theorem dX5_advance_41 : decode cX5_advance 41 = .ok (.putfield 38, 3) := by decide +kernel
theorem dX5_advance_44 : decode cX5_advance 44 = .ok (.iload_n 1, 1) := by decide +kernel
theorem dX5_advance_45 : decode cX5_advance 45 = .ok (.aload_n 0, 1) := by decide +kernel
theorem dX5_advance_46 : decode cX5_advance 46 = .ok (.getfield 28, 3) := by decide +kernel
theorem dX5_advance_49 : decode cX5_advance 49 = .ok (.if_icmp .ge 6, 3) := by decide +kernel
theorem dX5_advance_52 : decode cX5_advance 52 = .ok (.iinc 1 1, 3) := by decide +kernel
theorem dX5_advance_55 : decode cX5_advance 55 = .ok (.aload_n 0, 1) := by decide +kernel
theorem dX5_advance_56 : decode cX5_advance 56 = .ok (.getfield 38, 3) := by decide +kernel
theorem dX5_advance_59 : decode cX5_advance 59 = .ok (.iconst 1, 1) := by decide +kernel
theorem dX5_advance_60 : decode cX5_advance 60 = .ok (.if_icmp .eq 11, 3) := by decide +kernel
theorem dX5_advance_63 : decode cX5_advance 63 = .ok (.aload_n 0, 1) := by decide +kernel
theorem dX5_advance_64 : decode cX5_advance 64 = .ok (.getfield 38, 3) := by decide +kernel
theorem dX5_advance_67 : decode cX5_advance 67 = .ok (.iconst 2, 1) := by decide +kernel
theorem dX5_advance_68 : decode cX5_advance 68 = .ok (.if_icmp .ne 29, 3) := by decide +kernel
theorem dX5_advance_71 : decode cX5_advance 71 = .ok (.iload_n 1, 1) := by decide +kernel
theorem dX5_advance_72 : decode cX5_advance 72 = .ok (.aload_n 0, 1) := by decide +kernel
theorem dX5_advance_73 : decode cX5_advance 73 = .ok (.getfield 28, 3) := by decide +kernel
theorem dX5_advance_76 : decode cX5_advance 76 = .ok (.if_icmp .ge 21, 3) := by decide +kernel
theorem dX5_advance_79 : decode cX5_advance 79 = .ok (.aload_n 0, 1) := by decide +kernel
theorem dX5_advance_80 : decode cX5_advance 80 = .ok (.iload_n 1, 1) := by decide +kernel
theorem dX5_advance_81 : decode cX5_advance 81 = .ok (.invokevirtual 73, 3) := by decide +kernel
theorem dX5_advance_84 : decode cX5_advance 84 = .ok (.aload_n 0, 1) := by decide +kernel
theorem dX5_advance_85 : decode cX5_advance 85 = .ok (.getfield 38, 3) := by decide +kernel
theorem dX5_advance_88 : decode cX5_advance 88 = .ok (.if_icmp .ne 9, 3) := by decide +kernel
theorem dX5_advance_91 : decode cX5_advance 91 = .ok (.iinc 1 1, 3) := by decide +kernel
theorem dX5_advance_94 : decode cX5_advance 94 = .ok (.goto (-23), 3) := by decide +kernel
theorem dX5_advance_97 : decode cX5_advance 97 = .ok (.aload_n 0, 1) := by decide +kernel
theorem dX5_advance_98 : decode cX5_advance 98 = .ok (.iload_n 1, 1) := by decide +kernel
theorem dX5_advance_99 : decode cX5_advance 99 = .ok (.putfield 44, 3) := by decide +kernel
theorem dX5_advance_102 : decode cX5_advance 102 = .ok (.return_, 1) := by decide +kernel
theorem dX5_kindAt_0 : decode cX5_kindAt 0 = .ok (.iload_n 1, 1) := by decide +kernel
theorem dX5_kindAt_1 : decode cX5_kindAt 1 = .ok (.aload_n 0, 1) := by decide +kernel
theorem dX5_kindAt_2 : decode cX5_kindAt 2 = .ok (.getfield 28, 3) := by decide +kernel
theorem dX5_kindAt_5 : decode cX5_kindAt 5 = .ok (.if_icmp .lt 5, 3) := by decide +kernel
theorem dX5_kindAt_8 : decode cX5_kindAt 8 = .ok (.iconst 0, 1) := by decide +kernel
theorem dX5_kindAt_9 : decode cX5_kindAt 9 = .ok (.ireturn, 1) := by decide +kernel
theorem dX5_kindAt_10 : decode cX5_kindAt 10 = .ok (.aload_n 0, 1) := by decide +kernel
theorem dX5_kindAt_11 : decode cX5_kindAt 11 = .ok (.getfield 24, 3) := by decide +kernel
theorem dX5_kindAt_14 : decode cX5_kindAt 14 = .ok (.iload_n 1, 1) := by decide +kernel
theorem dX5_kindAt_15 : decode cX5_kindAt 15 = .ok (.baload, 1) := by decide +kernel
theorem dX5_kindAt_16 : decode cX5_kindAt 16 = .ok (.bipush 97, 2) := by decide +kernel
theorem dX5_kindAt_18 : decode cX5_kindAt 18 = .ok (.if_icmp .lt 16, 3) := by decide +kernel
theorem dX5_kindAt_21 : decode cX5_kindAt 21 = .ok (.aload_n 0, 1) := by decide +kernel
theorem dX5_kindAt_22 : decode cX5_kindAt 22 = .ok (.getfield 24, 3) := by decide +kernel
theorem dX5_kindAt_25 : decode cX5_kindAt 25 = .ok (.iload_n 1, 1) := by decide +kernel
theorem dX5_kindAt_26 : decode cX5_kindAt 26 = .ok (.baload, 1) := by decide +kernel
theorem dX5_kindAt_27 : decode cX5_kindAt 27 = .ok (.bipush 122, 2) := by decide +kernel
theorem dX5_kindAt_29 : decode cX5_kindAt 29 = .ok (.if_icmp .gt 5, 3) := by decide +kernel
theorem dX5_kindAt_32 : decode cX5_kindAt 32 = .ok (.iconst 1, 1) := by decide +kernel
theorem dX5_kindAt_33 : decode cX5_kindAt 33 = .ok (.ireturn, 1) := by decide +kernel
theorem dX5_kindAt_34 : decode cX5_kindAt 34 = .ok (.aload_n 0, 1) := by decide +kernel
theorem dX5_kindAt_35 : decode cX5_kindAt 35 = .ok (.getfield 24, 3) := by decide +kernel
theorem dX5_kindAt_38 : decode cX5_kindAt 38 = .ok (.iload_n 1, 1) := by decide +kernel
theorem dX5_kindAt_39 : decode cX5_kindAt 39 = .ok (.baload, 1) := by decide +kernel
theorem dX5_kindAt_40 : decode cX5_kindAt 40 = .ok (.bipush 48, 2) := by decide +kernel
theorem dX5_kindAt_42 : decode cX5_kindAt 42 = .ok (.if_icmp .lt 18, 3) := by decide +kernel
theorem dX5_kindAt_45 : decode cX5_kindAt 45 = .ok (.aload_n 0, 1) := by decide +kernel
theorem dX5_kindAt_46 : decode cX5_kindAt 46 = .ok (.getfield 24, 3) := by decide +kernel
theorem dX5_kindAt_49 : decode cX5_kindAt 49 = .ok (.iload_n 1, 1) := by decide +kernel
theorem dX5_kindAt_50 : decode cX5_kindAt 50 = .ok (.baload, 1) := by decide +kernel
theorem dX5_kindAt_51 : decode cX5_kindAt 51 = .ok (.bipush 57, 2) := by decide +kernel
theorem dX5_kindAt_53 : decode cX5_kindAt 53 = .ok (.if_icmp .gt 7, 3) := by decide +kernel
theorem dX5_kindAt_56 : decode cX5_kindAt 56 = .ok (.iconst 2, 1) := by decide +kernel
theorem dX5_kindAt_57 : decode cX5_kindAt 57 = .ok (.goto 4, 3) := by decide +kernel
theorem dX5_kindAt_60 : decode cX5_kindAt 60 = .ok (.iconst 3, 1) := by decide +kernel
theorem dX5_kindAt_61 : decode cX5_kindAt 61 = .ok (.ireturn, 1) := by decide +kernel
theorem dX5_isSign_0 : decode cX5_isSign 0 = .ok (.aload_n 0, 1) := by decide +kernel
theorem dX5_isSign_1 : decode cX5_isSign 1 = .ok (.getfield 38, 3) := by decide +kernel
theorem dX5_isSign_4 : decode cX5_isSign 4 = .ok (.iconst 3, 1) := by decide +kernel
theorem dX5_isSign_5 : decode cX5_isSign 5 = .ok (.if_icmp .ne 20, 3) := by decide +kernel
theorem dX5_isSign_8 : decode cX5_isSign 8 = .ok (.aload_n 0, 1) := by decide +kernel
theorem dX5_isSign_9 : decode cX5_isSign 9 = .ok (.getfield 24, 3) := by decide +kernel
theorem dX5_isSign_12 : decode cX5_isSign 12 = .ok (.aload_n 0, 1) := by decide +kernel
theorem dX5_isSign_13 : decode cX5_isSign 13 = .ok (.getfield 41, 3) := by decide +kernel
theorem dX5_isSign_16 : decode cX5_isSign 16 = .ok (.baload, 1) := by decide +kernel
theorem dX5_isSign_17 : decode cX5_isSign 17 = .ok (.iload_n 1, 1) := by decide +kernel
theorem dX5_isSign_18 : decode cX5_isSign 18 = .ok (.if_icmp .ne 7, 3) := by decide +kernel
theorem dX5_isSign_21 : decode cX5_isSign 21 = .ok (.iconst 1, 1) := by decide +kernel
theorem dX5_isSign_22 : decode cX5_isSign 22 = .ok (.goto 4, 3) := by decide +kernel
theorem dX5_isSign_25 : decode cX5_isSign 25 = .ok (.iconst 0, 1) := by decide +kernel
theorem dX5_isSign_26 : decode cX5_isSign 26 = .ok (.ireturn, 1) := by decide +kernel
theorem dX5_isWord_0 : decode cX5_isWord 0 = .ok (.aload_n 0, 1) := by decide +kernel
theorem dX5_isWord_1 : decode cX5_isWord 1 = .ok (.getfield 38, 3) := by decide +kernel
theorem dX5_isWord_4 : decode cX5_isWord 4 = .ok (.iconst 1, 1) := by decide +kernel
theorem dX5_isWord_5 : decode cX5_isWord 5 = .ok (.if_icmp .ne 20, 3) := by decide +kernel
theorem dX5_isWord_8 : decode cX5_isWord 8 = .ok (.aload_n 0, 1) := by decide +kernel
theorem dX5_isWord_9 : decode cX5_isWord 9 = .ok (.aload_n 1, 1) := by decide +kernel
theorem dX5_isWord_10 : decode cX5_isWord 10 = .ok (.iconst 0, 1) := by decide +kernel
theorem dX5_isWord_11 : decode cX5_isWord 11 = .ok (.aload_n 1, 1) := by decide +kernel
theorem dX5_isWord_12 : decode cX5_isWord 12 = .ok (.invokevirtual 77, 3) := by decide +kernel
theorem dX5_isWord_15 : decode cX5_isWord 15 = .ok (.invokevirtual 82, 3) := by decide +kernel
theorem dX5_isWord_18 : decode cX5_isWord 18 = .ok (.ifCond .eq 7, 3) := by decide +kernel
theorem dX5_isWord_21 : decode cX5_isWord 21 = .ok (.iconst 1, 1) := by decide +kernel
theorem dX5_isWord_22 : decode cX5_isWord 22 = .ok (.goto 4, 3) := by decide +kernel
theorem dX5_isWord_25 : decode cX5_isWord 25 = .ok (.iconst 0, 1) := by decide +kernel
theorem dX5_isWord_26 : decode cX5_isWord 26 = .ok (.ireturn, 1) := by decide +kernel
theorem dX5_isSpelt_0 : decode cX5_isSpelt 0 = .ok (.aload_n 0, 1) := by decide +kernel
theorem dX5_isSpelt_1 : decode cX5_isSpelt 1 = .ok (.getfield 44, 3) := by decide +kernel
theorem dX5_isSpelt_4 : decode cX5_isSpelt 4 = .ok (.aload_n 0, 1) := by decide +kernel
theorem dX5_isSpelt_5 : decode cX5_isSpelt 5 = .ok (.getfield 41, 3) := by decide +kernel
theorem dX5_isSpelt_8 : decode cX5_isSpelt 8 = .ok (.isub, 1) := by decide +kernel
theorem dX5_isSpelt_9 : decode cX5_isSpelt 9 = .ok (.iload_n 3, 1) := by decide +kernel
theorem dX5_isSpelt_10 : decode cX5_isSpelt 10 = .ok (.iload_n 2, 1) := by decide +kernel
theorem dX5_isSpelt_11 : decode cX5_isSpelt 11 = .ok (.isub, 1) := by decide +kernel
theorem dX5_isSpelt_12 : decode cX5_isSpelt 12 = .ok (.if_icmp .eq 5, 3) := by decide +kernel
theorem dX5_isSpelt_15 : decode cX5_isSpelt 15 = .ok (.iconst 0, 1) := by decide +kernel
theorem dX5_isSpelt_16 : decode cX5_isSpelt 16 = .ok (.ireturn, 1) := by decide +kernel
theorem dX5_isSpelt_17 : decode cX5_isSpelt 17 = .ok (.iload_n 2, 1) := by decide +kernel
theorem dX5_isSpelt_18 : decode cX5_isSpelt 18 = .ok (.istore 4, 2) := by decide +kernel
theorem dX5_isSpelt_20 : decode cX5_isSpelt 20 = .ok (.iload 4, 2) := by decide +kernel
theorem dX5_isSpelt_22 : decode cX5_isSpelt 22 = .ok (.iload_n 3, 1) := by decide +kernel
theorem dX5_isSpelt_23 : decode cX5_isSpelt 23 = .ok (.if_icmp .ge 34, 3) := by decide +kernel
theorem dX5_isSpelt_26 : decode cX5_isSpelt 26 = .ok (.aload_n 1, 1) := by decide +kernel
theorem dX5_isSpelt_27 : decode cX5_isSpelt 27 = .ok (.iload 4, 2) := by decide +kernel
theorem dX5_isSpelt_29 : decode cX5_isSpelt 29 = .ok (.invokevirtual 86, 3) := by decide +kernel
theorem dX5_isSpelt_32 : decode cX5_isSpelt 32 = .ok (.aload_n 0, 1) := by decide +kernel
theorem dX5_isSpelt_33 : decode cX5_isSpelt 33 = .ok (.getfield 24, 3) := by decide +kernel
theorem dX5_isSpelt_36 : decode cX5_isSpelt 36 = .ok (.aload_n 0, 1) := by decide +kernel
theorem dX5_isSpelt_37 : decode cX5_isSpelt 37 = .ok (.getfield 41, 3) := by decide +kernel
theorem dX5_isSpelt_40 : decode cX5_isSpelt 40 = .ok (.iload 4, 2) := by decide +kernel
theorem dX5_isSpelt_42 : decode cX5_isSpelt 42 = .ok (.iadd, 1) := by decide +kernel
theorem dX5_isSpelt_43 : decode cX5_isSpelt 43 = .ok (.iload_n 2, 1) := by decide +kernel
theorem dX5_isSpelt_44 : decode cX5_isSpelt 44 = .ok (.isub, 1) := by decide +kernel
theorem dX5_isSpelt_45 : decode cX5_isSpelt 45 = .ok (.baload, 1) := by decide +kernel
theorem dX5_isSpelt_46 : decode cX5_isSpelt 46 = .ok (.if_icmp .eq 5, 3) := by decide +kernel
theorem dX5_isSpelt_49 : decode cX5_isSpelt 49 = .ok (.iconst 0, 1) := by decide +kernel
theorem dX5_isSpelt_50 : decode cX5_isSpelt 50 = .ok (.ireturn, 1) := by decide +kernel
theorem dX5_isSpelt_51 : decode cX5_isSpelt 51 = .ok (.iinc 4 1, 3) := by decide +kernel
theorem dX5_isSpelt_54 : decode cX5_isSpelt 54 = .ok (.goto (-34), 3) := by decide +kernel
theorem dX5_isSpelt_57 : decode cX5_isSpelt 57 = .ok (.iconst 1, 1) := by decide +kernel
theorem dX5_isSpelt_58 : decode cX5_isSpelt 58 = .ok (.ireturn, 1) := by decide +kernel
theorem dX5_placeIn_0 : decode cX5_placeIn 0 = .ok (.aload_n 0, 1) := by decide +kernel
theorem dX5_placeIn_1 : decode cX5_placeIn 1 = .ok (.getfield 38, 3) := by decide +kernel
theorem dX5_placeIn_4 : decode cX5_placeIn 4 = .ok (.iconst 1, 1) := by decide +kernel
theorem dX5_placeIn_5 : decode cX5_placeIn 5 = .ok (.if_icmp .eq 5, 3) := by decide +kernel
theorem dX5_placeIn_8 : decode cX5_placeIn 8 = .ok (.iconst (-1), 1) := by decide +kernel
theorem dX5_placeIn_9 : decode cX5_placeIn 9 = .ok (.ireturn, 1) := by decide +kernel
theorem dX5_placeIn_10 : decode cX5_placeIn 10 = .ok (.iconst 0, 1) := by decide +kernel
theorem dX5_placeIn_11 : decode cX5_placeIn 11 = .ok (.istore_n 2, 1) := by decide +kernel
theorem dX5_placeIn_12 : decode cX5_placeIn 12 = .ok (.iconst 0, 1) := by decide +kernel
theorem dX5_placeIn_13 : decode cX5_placeIn 13 = .ok (.istore_n 3, 1) := by decide +kernel
theorem dX5_placeIn_14 : decode cX5_placeIn 14 = .ok (.iconst 0, 1) := by decide +kernel
theorem dX5_placeIn_15 : decode cX5_placeIn 15 = .ok (.istore 4, 2) := by decide +kernel
theorem dX5_placeIn_17 : decode cX5_placeIn 17 = .ok (.iload 4, 2) := by decide +kernel
theorem dX5_placeIn_19 : decode cX5_placeIn 19 = .ok (.aload_n 1, 1) := by decide +kernel
theorem dX5_placeIn_20 : decode cX5_placeIn 20 = .ok (.invokevirtual 77, 3) := by decide +kernel
theorem dX5_placeIn_23 : decode cX5_placeIn 23 = .ok (.if_icmp .gt 53, 3) := by decide +kernel
theorem dX5_placeIn_26 : decode cX5_placeIn 26 = .ok (.iload 4, 2) := by decide +kernel
theorem dX5_placeIn_28 : decode cX5_placeIn 28 = .ok (.aload_n 1, 1) := by decide +kernel
theorem dX5_placeIn_29 : decode cX5_placeIn 29 = .ok (.invokevirtual 77, 3) := by decide +kernel
theorem dX5_placeIn_32 : decode cX5_placeIn 32 = .ok (.if_icmp .ge 17, 3) := by decide +kernel
theorem dX5_placeIn_35 : decode cX5_placeIn 35 = .ok (.aload_n 1, 1) := by decide +kernel
theorem dX5_placeIn_36 : decode cX5_placeIn 36 = .ok (.iload 4, 2) := by decide +kernel
theorem dX5_placeIn_38 : decode cX5_placeIn 38 = .ok (.invokevirtual 86, 3) := by decide +kernel
theorem dX5_placeIn_41 : decode cX5_placeIn 41 = .ok (.bipush 32, 2) := by decide +kernel
theorem dX5_placeIn_43 : decode cX5_placeIn 43 = .ok (.if_icmp .eq 6, 3) := by decide +kernel
theorem dX5_placeIn_46 : decode cX5_placeIn 46 = .ok (.goto 24, 3) := by decide +kernel
theorem dX5_placeIn_49 : decode cX5_placeIn 49 = .ok (.aload_n 0, 1) := by decide +kernel
theorem dX5_placeIn_50 : decode cX5_placeIn 50 = .ok (.aload_n 1, 1) := by decide +kernel
theorem dX5_placeIn_51 : decode cX5_placeIn 51 = .ok (.iload_n 3, 1) := by decide +kernel
theorem dX5_placeIn_52 : decode cX5_placeIn 52 = .ok (.iload 4, 2) := by decide +kernel
theorem dX5_placeIn_54 : decode cX5_placeIn 54 = .ok (.invokevirtual 82, 3) := by decide +kernel
theorem dX5_placeIn_57 : decode cX5_placeIn 57 = .ok (.ifCond .eq 5, 3) := by decide +kernel
theorem dX5_placeIn_60 : decode cX5_placeIn 60 = .ok (.iload_n 2, 1) := by decide +kernel
theorem dX5_placeIn_61 : decode cX5_placeIn 61 = .ok (.ireturn, 1) := by decide +kernel
theorem dX5_placeIn_62 : decode cX5_placeIn 62 = .ok (.iinc 2 1, 3) := by decide +kernel
theorem dX5_placeIn_65 : decode cX5_placeIn 65 = .ok (.iload 4, 2) := by decide +kernel
theorem dX5_placeIn_67 : decode cX5_placeIn 67 = .ok (.iconst 1, 1) := by decide +kernel
theorem dX5_placeIn_68 : decode cX5_placeIn 68 = .ok (.iadd, 1) := by decide +kernel
theorem dX5_placeIn_69 : decode cX5_placeIn 69 = .ok (.istore_n 3, 1) := by decide +kernel
theorem dX5_placeIn_70 : decode cX5_placeIn 70 = .ok (.iinc 4 1, 3) := by decide +kernel
theorem dX5_placeIn_73 : decode cX5_placeIn 73 = .ok (.goto (-56), 3) := by decide +kernel
theorem dX5_placeIn_76 : decode cX5_placeIn 76 = .ok (.iconst (-1), 1) := by decide +kernel
theorem dX5_placeIn_77 : decode cX5_placeIn 77 = .ok (.ireturn, 1) := by decide +kernel
theorem dX5_numberTo_0 : decode cX5_numberTo 0 = .ok (.aload_n 0, 1) := by decide +kernel
theorem dX5_numberTo_1 : decode cX5_numberTo 1 = .ok (.getfield 38, 3) := by decide +kernel
theorem dX5_numberTo_4 : decode cX5_numberTo 4 = .ok (.iconst 2, 1) := by decide +kernel
theorem dX5_numberTo_5 : decode cX5_numberTo 5 = .ok (.if_icmp .eq 5, 3) := by decide +kernel
theorem dX5_numberTo_8 : decode cX5_numberTo 8 = .ok (.iconst (-1), 1) := by decide +kernel
theorem dX5_numberTo_9 : decode cX5_numberTo 9 = .ok (.ireturn, 1) := by decide +kernel
theorem dX5_numberTo_10 : decode cX5_numberTo 10 = .ok (.iconst 0, 1) := by decide +kernel
theorem dX5_numberTo_11 : decode cX5_numberTo 11 = .ok (.istore_n 2, 1) := by decide +kernel
theorem dX5_numberTo_12 : decode cX5_numberTo 12 = .ok (.aload_n 0, 1) := by decide +kernel
theorem dX5_numberTo_13 : decode cX5_numberTo 13 = .ok (.getfield 41, 3) := by decide +kernel
theorem dX5_numberTo_16 : decode cX5_numberTo 16 = .ok (.istore_n 3, 1) := by decide +kernel
theorem dX5_numberTo_17 : decode cX5_numberTo 17 = .ok (.iload_n 3, 1) := by decide +kernel
theorem dX5_numberTo_18 : decode cX5_numberTo 18 = .ok (.aload_n 0, 1) := by decide +kernel
theorem dX5_numberTo_19 : decode cX5_numberTo 19 = .ok (.getfield 44, 3) := by decide +kernel
theorem dX5_numberTo_22 : decode cX5_numberTo 22 = .ok (.if_icmp .ge 30, 3) := by decide +kernel
theorem dX5_numberTo_25 : decode cX5_numberTo 25 = .ok (.sipush 1001, 3) := by decide +kernel
theorem dX5_numberTo_28 : decode cX5_numberTo 28 = .ok (.bipush 10, 2) := by decide +kernel
theorem dX5_numberTo_30 : decode cX5_numberTo 30 = .ok (.iload_n 2, 1) := by decide +kernel
theorem dX5_numberTo_31 : decode cX5_numberTo 31 = .ok (.imul, 1) := by decide +kernel
theorem dX5_numberTo_32 : decode cX5_numberTo 32 = .ok (.aload_n 0, 1) := by decide +kernel
theorem dX5_numberTo_33 : decode cX5_numberTo 33 = .ok (.getfield 24, 3) := by decide +kernel
theorem dX5_numberTo_36 : decode cX5_numberTo 36 = .ok (.iload_n 3, 1) := by decide +kernel
theorem dX5_numberTo_37 : decode cX5_numberTo 37 = .ok (.baload, 1) := by decide +kernel
theorem dX5_numberTo_38 : decode cX5_numberTo 38 = .ok (.iadd, 1) := by decide +kernel
theorem dX5_numberTo_39 : decode cX5_numberTo 39 = .ok (.bipush 48, 2) := by decide +kernel
theorem dX5_numberTo_41 : decode cX5_numberTo 41 = .ok (.isub, 1) := by decide +kernel
theorem dX5_numberTo_42 : decode cX5_numberTo 42 = .ok (.invokestatic 47, 3) := by decide +kernel
theorem dX5_numberTo_45 : decode cX5_numberTo 45 = .ok (.istore_n 2, 1) := by decide +kernel
theorem dX5_numberTo_46 : decode cX5_numberTo 46 = .ok (.iinc 3 1, 3) := by decide +kernel
theorem dX5_numberTo_49 : decode cX5_numberTo 49 = .ok (.goto (-32), 3) := by decide +kernel
theorem dX5_numberTo_52 : decode cX5_numberTo 52 = .ok (.iload_n 2, 1) := by decide +kernel
theorem dX5_numberTo_53 : decode cX5_numberTo 53 = .ok (.iload_n 1, 1) := by decide +kernel
theorem dX5_numberTo_54 : decode cX5_numberTo 54 = .ok (.if_icmp .gt 7, 3) := by decide +kernel
theorem dX5_numberTo_57 : decode cX5_numberTo 57 = .ok (.iload_n 2, 1) := by decide +kernel
theorem dX5_numberTo_58 : decode cX5_numberTo 58 = .ok (.goto 4, 3) := by decide +kernel
theorem dX5_numberTo_61 : decode cX5_numberTo 61 = .ok (.iconst (-1), 1) := by decide +kernel
theorem dX5_numberTo_62 : decode cX5_numberTo 62 = .ok (.ireturn, 1) := by decide +kernel
theorem dX5_readClause_0 : decode cX5_readClause 0 = .ok (.aload_n 0, 1) := by decide +kernel
theorem dX5_readClause_1 : decode cX5_readClause 1 = .ok (.aload_n 0, 1) := by decide +kernel
theorem dX5_readClause_2 : decode cX5_readClause 2 = .ok (.getfield 31, 3) := by decide +kernel
theorem dX5_readClause_5 : decode cX5_readClause 5 = .ok (.ifCond .eq 8, 3) := by decide +kernel
theorem dX5_readClause_8 : decode cX5_readClause 8 = .ok (.ldc 90, 2) := by decide +kernel
theorem dX5_readClause_10 : decode cX5_readClause 10 = .ok (.goto 5, 3) := by decide +kernel
theorem dX5_readClause_13 : decode cX5_readClause 13 = .ok (.ldc 92, 2) := by decide +kernel
theorem dX5_readClause_15 : decode cX5_readClause 15 = .ok (.invokevirtual 94, 3) := by decide +kernel
theorem dX5_readClause_18 : decode cX5_readClause 18 = .ok (.istore_n 1, 1) := by decide +kernel
theorem dX5_readClause_19 : decode cX5_readClause 19 = .ok (.iload_n 1, 1) := by decide +kernel
theorem dX5_readClause_20 : decode cX5_readClause 20 = .ok (.iconst (-1), 1) := by decide +kernel
theorem dX5_readClause_21 : decode cX5_readClause 21 = .ok (.if_icmp .ne 8, 3) := by decide +kernel
theorem dX5_readClause_24 : decode cX5_readClause 24 = .ok (.aload_n 0, 1) := by decide +kernel
theorem dX5_readClause_25 : decode cX5_readClause 25 = .ok (.invokevirtual 70, 3) := by decide +kernel
theorem dX5_readClause_28 : decode cX5_readClause 28 = .ok (.ireturn, 1) := by decide +kernel
theorem dX5_readClause_29 : decode cX5_readClause 29 = .ok (.aload_n 0, 1) := by decide +kernel
theorem dX5_readClause_30 : decode cX5_readClause 30 = .ok (.invokevirtual 59, 3) := by decide +kernel
theorem dX5_readClause_33 : decode cX5_readClause 33 = .ok (.aload_n 0, 1) := by decide +kernel
theorem dX5_readClause_34 : decode cX5_readClause 34 = .ok (.getfield 14, 3) := by decide +kernel
theorem dX5_readClause_37 : decode cX5_readClause 37 = .ok (.getfield 53, 3) := by decide +kernel
theorem dX5_readClause_40 : decode cX5_readClause 40 = .ok (.istore_n 2, 1) := by decide +kernel
theorem dX5_readClause_41 : decode cX5_readClause 41 = .ok (.aload_n 0, 1) := by decide +kernel
theorem dX5_readClause_42 : decode cX5_readClause 42 = .ok (.getfield 31, 3) := by decide +kernel
theorem dX5_readClause_45 : decode cX5_readClause 45 = .ok (.ifCond .eq 16, 3) := by decide +kernel
theorem dX5_readClause_48 : decode cX5_readClause 48 = .ok (.iload_n 1, 1) := by decide +kernel
theorem dX5_readClause_49 : decode cX5_readClause 49 = .ok (.iconst 2, 1) := by decide +kernel
theorem dX5_readClause_50 : decode cX5_readClause 50 = .ok (.if_icmp .eq 7, 3) := by decide +kernel
theorem dX5_readClause_53 : decode cX5_readClause 53 = .ok (.iconst 1, 1) := by decide +kernel
theorem dX5_readClause_54 : decode cX5_readClause 54 = .ok (.goto 21, 3) := by decide +kernel
theorem dX5_readClause_57 : decode cX5_readClause 57 = .ok (.iconst 0, 1) := by decide +kernel
theorem dX5_readClause_58 : decode cX5_readClause 58 = .ok (.goto 17, 3) := by decide +kernel
theorem dX5_readClause_61 : decode cX5_readClause 61 = .ok (.iload_n 1, 1) := by decide +kernel
theorem dX5_readClause_62 : decode cX5_readClause 62 = .ok (.ifCond .eq 8, 3) := by decide +kernel
theorem dX5_readClause_65 : decode cX5_readClause 65 = .ok (.iload_n 1, 1) := by decide +kernel
theorem dX5_readClause_66 : decode cX5_readClause 66 = .ok (.iconst 3, 1) := by decide +kernel
theorem dX5_readClause_67 : decode cX5_readClause 67 = .ok (.if_icmp .ne 7, 3) := by decide +kernel
theorem dX5_readClause_70 : decode cX5_readClause 70 = .ok (.iconst 1, 1) := by decide +kernel
theorem dX5_readClause_71 : decode cX5_readClause 71 = .ok (.goto 4, 3) := by decide +kernel
theorem dX5_readClause_74 : decode cX5_readClause 74 = .ok (.iconst 0, 1) := by decide +kernel
theorem dX5_readClause_75 : decode cX5_readClause 75 = .ok (.istore_n 3, 1) := by decide +kernel
theorem dX5_readClause_76 : decode cX5_readClause 76 = .ok (.iload_n 3, 1) := by decide +kernel
theorem dX5_readClause_77 : decode cX5_readClause 77 = .ok (.ifCond .eq 13, 3) := by decide +kernel
theorem dX5_readClause_80 : decode cX5_readClause 80 = .ok (.aload_n 0, 1) := by decide +kernel
theorem dX5_readClause_81 : decode cX5_readClause 81 = .ok (.iconst 0, 1) := by decide +kernel
theorem dX5_readClause_82 : decode cX5_readClause 82 = .ok (.invokevirtual 98, 3) := by decide +kernel
theorem dX5_readClause_85 : decode cX5_readClause 85 = .ok (.ifCond .ne 5, 3) := by decide +kernel
theorem dX5_readClause_88 : decode cX5_readClause 88 = .ok (.iconst 0, 1) := by decide +kernel
theorem dX5_readClause_89 : decode cX5_readClause 89 = .ok (.ireturn, 1) := by decide +kernel
theorem dX5_readClause_90 : decode cX5_readClause 90 = .ok (.iconst 1, 1) := by decide +kernel
theorem dX5_readClause_91 : decode cX5_readClause 91 = .ok (.istore 4, 2) := by decide +kernel
theorem dX5_readClause_93 : decode cX5_readClause 93 = .ok (.aload_n 0, 1) := by decide +kernel
theorem dX5_readClause_94 : decode cX5_readClause 94 = .ok (.getfield 31, 3) := by decide +kernel
theorem dX5_readClause_97 : decode cX5_readClause 97 = .ok (.ifCond .ne 39, 3) := by decide +kernel
theorem dX5_readClause_100 : decode cX5_readClause 100 = .ok (.aload_n 0, 1) := by decide +kernel
theorem dX5_readClause_101 : decode cX5_readClause 101 = .ok (.ldc 102, 2) := by decide +kernel
theorem dX5_readClause_103 : decode cX5_readClause 103 = .ok (.invokevirtual 104, 3) := by decide +kernel
theorem dX5_readClause_106 : decode cX5_readClause 106 = .ok (.ifCond .eq 30, 3) := by decide +kernel
theorem dX5_readClause_109 : decode cX5_readClause 109 = .ok (.aload_n 0, 1) := by decide +kernel
theorem dX5_readClause_110 : decode cX5_readClause 110 = .ok (.invokevirtual 59, 3) := by decide +kernel
theorem dX5_readClause_113 : decode cX5_readClause 113 = .ok (.aload_n 0, 1) := by decide +kernel
theorem dX5_readClause_114 : decode cX5_readClause 114 = .ok (.bipush 20, 2) := by decide +kernel
theorem dX5_readClause_116 : decode cX5_readClause 116 = .ok (.invokevirtual 108, 3) := by decide +kernel
theorem dX5_readClause_119 : decode cX5_readClause 119 = .ok (.istore 4, 2) := by decide +kernel
theorem dX5_readClause_121 : decode cX5_readClause 121 = .ok (.iload 4, 2) := by decide +kernel
theorem dX5_readClause_123 : decode cX5_readClause 123 = .ok (.iconst 1, 1) := by decide +kernel
theorem dX5_readClause_124 : decode cX5_readClause 124 = .ok (.if_icmp .ge 8, 3) := by decide +kernel
theorem dX5_readClause_127 : decode cX5_readClause 127 = .ok (.aload_n 0, 1) := by decide +kernel
theorem dX5_readClause_128 : decode cX5_readClause 128 = .ok (.invokevirtual 70, 3) := by decide +kernel
theorem dX5_readClause_131 : decode cX5_readClause 131 = .ok (.ireturn, 1) := by decide +kernel
theorem dX5_readClause_132 : decode cX5_readClause 132 = .ok (.aload_n 0, 1) := by decide +kernel
theorem dX5_readClause_133 : decode cX5_readClause 133 = .ok (.invokevirtual 59, 3) := by decide +kernel
theorem dX5_readClause_136 : decode cX5_readClause 136 = .ok (.aload_n 0, 1) := by decide +kernel
theorem dX5_readClause_137 : decode cX5_readClause 137 = .ok (.getfield 14, 3) := by decide +kernel
theorem dX5_readClause_140 : decode cX5_readClause 140 = .ok (.getfield 53, 3) := by decide +kernel
theorem dX5_readClause_143 : decode cX5_readClause 143 = .ok (.istore 5, 2) := by decide +kernel
theorem dX5_readClause_145 : decode cX5_readClause 145 = .ok (.aload_n 0, 1) := by decide +kernel
theorem dX5_readClause_146 : decode cX5_readClause 146 = .ok (.ldc 111, 2) := by decide +kernel
theorem dX5_readClause_148 : decode cX5_readClause 148 = .ok (.invokevirtual 104, 3) := by decide +kernel
theorem dX5_readClause_151 : decode cX5_readClause 151 = .ok (.ifCond .eq 17, 3) := by decide +kernel
theorem dX5_readClause_154 : decode cX5_readClause 154 = .ok (.aload_n 0, 1) := by decide +kernel
theorem dX5_readClause_155 : decode cX5_readClause 155 = .ok (.invokevirtual 59, 3) := by decide +kernel
theorem dX5_readClause_158 : decode cX5_readClause 158 = .ok (.aload_n 0, 1) := by decide +kernel
theorem dX5_readClause_159 : decode cX5_readClause 159 = .ok (.iconst 0, 1) := by decide +kernel
theorem dX5_readClause_160 : decode cX5_readClause 160 = .ok (.invokevirtual 113, 3) := by decide +kernel
theorem dX5_readClause_163 : decode cX5_readClause 163 = .ok (.ifCond .ne 5, 3) := by decide +kernel
theorem dX5_readClause_166 : decode cX5_readClause 166 = .ok (.iconst 0, 1) := by decide +kernel
theorem dX5_readClause_167 : decode cX5_readClause 167 = .ok (.ireturn, 1) := by decide +kernel
theorem dX5_readClause_168 : decode cX5_readClause 168 = .ok (.aload_n 0, 1) := by decide +kernel
theorem dX5_readClause_169 : decode cX5_readClause 169 = .ok (.getfield 14, 3) := by decide +kernel
theorem dX5_readClause_172 : decode cX5_readClause 172 = .ok (.iload_n 1, 1) := by decide +kernel
theorem dX5_readClause_173 : decode cX5_readClause 173 = .ok (.iload_n 2, 1) := by decide +kernel
theorem dX5_readClause_174 : decode cX5_readClause 174 = .ok (.iload 5, 2) := by decide +kernel
theorem dX5_readClause_176 : decode cX5_readClause 176 = .ok (.iload 4, 2) := by decide +kernel
theorem dX5_readClause_178 : decode cX5_readClause 178 = .ok (.invokevirtual 116, 3) := by decide +kernel
theorem dX5_readClause_181 : decode cX5_readClause 181 = .ok (.ifCond .ne 10, 3) := by decide +kernel
theorem dX5_readClause_184 : decode cX5_readClause 184 = .ok (.aload_n 0, 1) := by decide +kernel
theorem dX5_readClause_185 : decode cX5_readClause 185 = .ok (.invokevirtual 70, 3) := by decide +kernel
theorem dX5_readClause_188 : decode cX5_readClause 188 = .ok (.ifCond .eq 7, 3) := by decide +kernel
theorem dX5_readClause_191 : decode cX5_readClause 191 = .ok (.iconst 1, 1) := by decide +kernel
theorem dX5_readClause_192 : decode cX5_readClause 192 = .ok (.goto 4, 3) := by decide +kernel
theorem dX5_readClause_195 : decode cX5_readClause 195 = .ok (.iconst 0, 1) := by decide +kernel
theorem dX5_readClause_196 : decode cX5_readClause 196 = .ok (.ireturn, 1) := by decide +kernel
theorem dX5_readTest_0 : decode cX5_readTest 0 = .ok (.aload_n 0, 1) := by decide +kernel
theorem dX5_readTest_1 : decode cX5_readTest 1 = .ok (.iload_n 1, 1) := by decide +kernel
theorem dX5_readTest_2 : decode cX5_readTest 2 = .ok (.invokevirtual 120, 3) := by decide +kernel
theorem dX5_readTest_5 : decode cX5_readTest 5 = .ok (.ifCond .ne 5, 3) := by decide +kernel
theorem dX5_readTest_8 : decode cX5_readTest 8 = .ok (.iconst 0, 1) := by decide +kernel
theorem dX5_readTest_9 : decode cX5_readTest 9 = .ok (.ireturn, 1) := by decide +kernel
theorem dX5_readTest_10 : decode cX5_readTest 10 = .ok (.iconst 0, 1) := by decide +kernel
theorem dX5_readTest_11 : decode cX5_readTest 11 = .ok (.istore_n 2, 1) := by decide +kernel
theorem dX5_readTest_12 : decode cX5_readTest 12 = .ok (.iload_n 2, 1) := by decide +kernel
theorem dX5_readTest_13 : decode cX5_readTest 13 = .ok (.sipush 400, 3) := by decide +kernel
theorem dX5_readTest_16 : decode cX5_readTest 16 = .ok (.if_icmp .ge 66, 3) := by decide +kernel
theorem dX5_readTest_19 : decode cX5_readTest 19 = .ok (.aload_n 0, 1) := by decide +kernel
theorem dX5_readTest_20 : decode cX5_readTest 20 = .ok (.ldc 123, 2) := by decide +kernel
theorem dX5_readTest_22 : decode cX5_readTest 22 = .ok (.invokevirtual 104, 3) := by decide +kernel
theorem dX5_readTest_25 : decode cX5_readTest 25 = .ok (.ifCond .eq 57, 3) := by decide +kernel
theorem dX5_readTest_28 : decode cX5_readTest 28 = .ok (.aload_n 0, 1) := by decide +kernel
theorem dX5_readTest_29 : decode cX5_readTest 29 = .ok (.getfield 14, 3) := by decide +kernel
theorem dX5_readTest_32 : decode cX5_readTest 32 = .ok (.getfield 53, 3) := by decide +kernel
theorem dX5_readTest_35 : decode cX5_readTest 35 = .ok (.istore_n 3, 1) := by decide +kernel
theorem dX5_readTest_36 : decode cX5_readTest 36 = .ok (.aload_n 0, 1) := by decide +kernel
theorem dX5_readTest_37 : decode cX5_readTest 37 = .ok (.getfield 14, 3) := by decide +kernel
theorem dX5_readTest_40 : decode cX5_readTest 40 = .ok (.bipush 11, 2) := by decide +kernel
theorem dX5_readTest_42 : decode cX5_readTest 42 = .ok (.iconst 0, 1) := by decide +kernel
theorem dX5_readTest_43 : decode cX5_readTest 43 = .ok (.invokevirtual 125, 3) := by decide +kernel
theorem dX5_readTest_46 : decode cX5_readTest 46 = .ok (.ifCond .ne 8, 3) := by decide +kernel
theorem dX5_readTest_49 : decode cX5_readTest 49 = .ok (.aload_n 0, 1) := by decide +kernel
theorem dX5_readTest_50 : decode cX5_readTest 50 = .ok (.invokevirtual 70, 3) := by decide +kernel
theorem dX5_readTest_53 : decode cX5_readTest 53 = .ok (.ireturn, 1) := by decide +kernel
theorem dX5_readTest_54 : decode cX5_readTest 54 = .ok (.aload_n 0, 1) := by decide +kernel
theorem dX5_readTest_55 : decode cX5_readTest 55 = .ok (.invokevirtual 59, 3) := by decide +kernel
theorem dX5_readTest_58 : decode cX5_readTest 58 = .ok (.aload_n 0, 1) := by decide +kernel
theorem dX5_readTest_59 : decode cX5_readTest 59 = .ok (.iload_n 1, 1) := by decide +kernel
theorem dX5_readTest_60 : decode cX5_readTest 60 = .ok (.invokevirtual 120, 3) := by decide +kernel
theorem dX5_readTest_63 : decode cX5_readTest 63 = .ok (.ifCond .ne 5, 3) := by decide +kernel
theorem dX5_readTest_66 : decode cX5_readTest 66 = .ok (.iconst 0, 1) := by decide +kernel
theorem dX5_readTest_67 : decode cX5_readTest 67 = .ok (.ireturn, 1) := by decide +kernel
theorem dX5_readTest_68 : decode cX5_readTest 68 = .ok (.aload_n 0, 1) := by decide +kernel
theorem dX5_readTest_69 : decode cX5_readTest 69 = .ok (.getfield 14, 3) := by decide +kernel
theorem dX5_readTest_72 : decode cX5_readTest 72 = .ok (.iload_n 3, 1) := by decide +kernel
theorem dX5_readTest_73 : decode cX5_readTest 73 = .ok (.invokevirtual 129, 3) := by decide +kernel
theorem dX5_readTest_76 : decode cX5_readTest 76 = .ok (.iinc 2 1, 3) := by decide +kernel
theorem dX5_readTest_79 : decode cX5_readTest 79 = .ok (.goto (-67), 3) := by decide +kernel
theorem dX5_readTest_82 : decode cX5_readTest 82 = .ok (.iconst 1, 1) := by decide +kernel
theorem dX5_readTest_83 : decode cX5_readTest 83 = .ok (.ireturn, 1) := by decide +kernel
theorem dX5_readBoth_0 : decode cX5_readBoth 0 = .ok (.aload_n 0, 1) := by decide +kernel
theorem dX5_readBoth_1 : decode cX5_readBoth 1 = .ok (.iload_n 1, 1) := by decide +kernel
theorem dX5_readBoth_2 : decode cX5_readBoth 2 = .ok (.invokevirtual 133, 3) := by decide +kernel
theorem dX5_readBoth_5 : decode cX5_readBoth 5 = .ok (.ifCond .ne 5, 3) := by decide +kernel
theorem dX5_readBoth_8 : decode cX5_readBoth 8 = .ok (.iconst 0, 1) := by decide +kernel
theorem dX5_readBoth_9 : decode cX5_readBoth 9 = .ok (.ireturn, 1) := by decide +kernel
theorem dX5_readBoth_10 : decode cX5_readBoth 10 = .ok (.iconst 0, 1) := by decide +kernel
theorem dX5_readBoth_11 : decode cX5_readBoth 11 = .ok (.istore_n 2, 1) := by decide +kernel
theorem dX5_readBoth_12 : decode cX5_readBoth 12 = .ok (.iload_n 2, 1) := by decide +kernel
theorem dX5_readBoth_13 : decode cX5_readBoth 13 = .ok (.sipush 400, 3) := by decide +kernel
theorem dX5_readBoth_16 : decode cX5_readBoth 16 = .ok (.if_icmp .ge 66, 3) := by decide +kernel
theorem dX5_readBoth_19 : decode cX5_readBoth 19 = .ok (.aload_n 0, 1) := by decide +kernel
theorem dX5_readBoth_20 : decode cX5_readBoth 20 = .ok (.ldc 136, 2) := by decide +kernel
theorem dX5_readBoth_22 : decode cX5_readBoth 22 = .ok (.invokevirtual 104, 3) := by decide +kernel
theorem dX5_readBoth_25 : decode cX5_readBoth 25 = .ok (.ifCond .eq 57, 3) := by decide +kernel
theorem dX5_readBoth_28 : decode cX5_readBoth 28 = .ok (.aload_n 0, 1) := by decide +kernel
theorem dX5_readBoth_29 : decode cX5_readBoth 29 = .ok (.getfield 14, 3) := by decide +kernel
theorem dX5_readBoth_32 : decode cX5_readBoth 32 = .ok (.getfield 53, 3) := by decide +kernel
theorem dX5_readBoth_35 : decode cX5_readBoth 35 = .ok (.istore_n 3, 1) := by decide +kernel
theorem dX5_readBoth_36 : decode cX5_readBoth 36 = .ok (.aload_n 0, 1) := by decide +kernel
theorem dX5_readBoth_37 : decode cX5_readBoth 37 = .ok (.getfield 14, 3) := by decide +kernel
theorem dX5_readBoth_40 : decode cX5_readBoth 40 = .ok (.bipush 12, 2) := by decide +kernel
theorem dX5_readBoth_42 : decode cX5_readBoth 42 = .ok (.iconst 0, 1) := by decide +kernel
theorem dX5_readBoth_43 : decode cX5_readBoth 43 = .ok (.invokevirtual 125, 3) := by decide +kernel
theorem dX5_readBoth_46 : decode cX5_readBoth 46 = .ok (.ifCond .ne 8, 3) := by decide +kernel
theorem dX5_readBoth_49 : decode cX5_readBoth 49 = .ok (.aload_n 0, 1) := by decide +kernel
theorem dX5_readBoth_50 : decode cX5_readBoth 50 = .ok (.invokevirtual 70, 3) := by decide +kernel
theorem dX5_readBoth_53 : decode cX5_readBoth 53 = .ok (.ireturn, 1) := by decide +kernel
theorem dX5_readBoth_54 : decode cX5_readBoth 54 = .ok (.aload_n 0, 1) := by decide +kernel
theorem dX5_readBoth_55 : decode cX5_readBoth 55 = .ok (.invokevirtual 59, 3) := by decide +kernel
theorem dX5_readBoth_58 : decode cX5_readBoth 58 = .ok (.aload_n 0, 1) := by decide +kernel
theorem dX5_readBoth_59 : decode cX5_readBoth 59 = .ok (.iload_n 1, 1) := by decide +kernel
theorem dX5_readBoth_60 : decode cX5_readBoth 60 = .ok (.invokevirtual 133, 3) := by decide +kernel
theorem dX5_readBoth_63 : decode cX5_readBoth 63 = .ok (.ifCond .ne 5, 3) := by decide +kernel
theorem dX5_readBoth_66 : decode cX5_readBoth 66 = .ok (.iconst 0, 1) := by decide +kernel
theorem dX5_readBoth_67 : decode cX5_readBoth 67 = .ok (.ireturn, 1) := by decide +kernel
theorem dX5_readBoth_68 : decode cX5_readBoth 68 = .ok (.aload_n 0, 1) := by decide +kernel
theorem dX5_readBoth_69 : decode cX5_readBoth 69 = .ok (.getfield 14, 3) := by decide +kernel
theorem dX5_readBoth_72 : decode cX5_readBoth 72 = .ok (.iload_n 3, 1) := by decide +kernel
theorem dX5_readBoth_73 : decode cX5_readBoth 73 = .ok (.invokevirtual 129, 3) := by decide +kernel
theorem dX5_readBoth_76 : decode cX5_readBoth 76 = .ok (.iinc 2 1, 3) := by decide +kernel
theorem dX5_readBoth_79 : decode cX5_readBoth 79 = .ok (.goto (-67), 3) := by decide +kernel
theorem dX5_readBoth_82 : decode cX5_readBoth 82 = .ok (.iconst 1, 1) := by decide +kernel
theorem dX5_readBoth_83 : decode cX5_readBoth 83 = .ok (.ireturn, 1) := by decide +kernel
theorem dX5_readPlain_0 : decode cX5_readPlain 0 = .ok (.iconst 0, 1) := by decide +kernel
theorem dX5_readPlain_1 : decode cX5_readPlain 1 = .ok (.istore_n 2, 1) := by decide +kernel
theorem dX5_readPlain_2 : decode cX5_readPlain 2 = .ok (.iconst 0, 1) := by decide +kernel
theorem dX5_readPlain_3 : decode cX5_readPlain 3 = .ok (.istore_n 3, 1) := by decide +kernel
theorem dX5_readPlain_4 : decode cX5_readPlain 4 = .ok (.iload_n 3, 1) := by decide +kernel
theorem dX5_readPlain_5 : decode cX5_readPlain 5 = .ok (.sipush 400, 3) := by decide +kernel
theorem dX5_readPlain_8 : decode cX5_readPlain 8 = .ok (.if_icmp .ge 32, 3) := by decide +kernel
theorem dX5_readPlain_11 : decode cX5_readPlain 11 = .ok (.aload_n 0, 1) := by decide +kernel
theorem dX5_readPlain_12 : decode cX5_readPlain 12 = .ok (.ldc 138, 2) := by decide +kernel
theorem dX5_readPlain_14 : decode cX5_readPlain 14 = .ok (.invokevirtual 104, 3) := by decide +kernel
theorem dX5_readPlain_17 : decode cX5_readPlain 17 = .ok (.ifCond .eq 23, 3) := by decide +kernel
theorem dX5_readPlain_20 : decode cX5_readPlain 20 = .ok (.iload_n 2, 1) := by decide +kernel
theorem dX5_readPlain_21 : decode cX5_readPlain 21 = .ok (.ifCond .ne 7, 3) := by decide +kernel
theorem dX5_readPlain_24 : decode cX5_readPlain 24 = .ok (.iconst 1, 1) := by decide +kernel
theorem dX5_readPlain_25 : decode cX5_readPlain 25 = .ok (.goto 4, 3) := by decide +kernel
theorem dX5_readPlain_28 : decode cX5_readPlain 28 = .ok (.iconst 0, 1) := by decide +kernel
theorem dX5_readPlain_29 : decode cX5_readPlain 29 = .ok (.istore_n 2, 1) := by decide +kernel
theorem dX5_readPlain_30 : decode cX5_readPlain 30 = .ok (.aload_n 0, 1) := by decide +kernel
theorem dX5_readPlain_31 : decode cX5_readPlain 31 = .ok (.invokevirtual 59, 3) := by decide +kernel
theorem dX5_readPlain_34 : decode cX5_readPlain 34 = .ok (.iinc 3 1, 3) := by decide +kernel
theorem dX5_readPlain_37 : decode cX5_readPlain 37 = .ok (.goto (-33), 3) := by decide +kernel
theorem dX5_readPlain_40 : decode cX5_readPlain 40 = .ok (.aload_n 0, 1) := by decide +kernel
theorem dX5_readPlain_41 : decode cX5_readPlain 41 = .ok (.bipush 40, 2) := by decide +kernel
theorem dX5_readPlain_43 : decode cX5_readPlain 43 = .ok (.invokevirtual 66, 3) := by decide +kernel
theorem dX5_readPlain_46 : decode cX5_readPlain 46 = .ok (.ifCond .eq 51, 3) := by decide +kernel
theorem dX5_readPlain_49 : decode cX5_readPlain 49 = .ok (.iload_n 1, 1) := by decide +kernel
theorem dX5_readPlain_50 : decode cX5_readPlain 50 = .ok (.bipush 8, 2) := by decide +kernel
theorem dX5_readPlain_52 : decode cX5_readPlain 52 = .ok (.if_icmp .lt 8, 3) := by decide +kernel
theorem dX5_readPlain_55 : decode cX5_readPlain 55 = .ok (.aload_n 0, 1) := by decide +kernel
theorem dX5_readPlain_56 : decode cX5_readPlain 56 = .ok (.invokevirtual 70, 3) := by decide +kernel
theorem dX5_readPlain_59 : decode cX5_readPlain 59 = .ok (.ireturn, 1) := by decide +kernel
theorem dX5_readPlain_60 : decode cX5_readPlain 60 = .ok (.aload_n 0, 1) := by decide +kernel
theorem dX5_readPlain_61 : decode cX5_readPlain 61 = .ok (.invokevirtual 59, 3) := by decide +kernel
theorem dX5_readPlain_64 : decode cX5_readPlain 64 = .ok (.aload_n 0, 1) := by decide +kernel
theorem dX5_readPlain_65 : decode cX5_readPlain 65 = .ok (.iload_n 1, 1) := by decide +kernel
theorem dX5_readPlain_66 : decode cX5_readPlain 66 = .ok (.iconst 1, 1) := by decide +kernel
theorem dX5_readPlain_67 : decode cX5_readPlain 67 = .ok (.iadd, 1) := by decide +kernel
theorem dX5_readPlain_68 : decode cX5_readPlain 68 = .ok (.invokevirtual 113, 3) := by decide +kernel
theorem dX5_readPlain_71 : decode cX5_readPlain 71 = .ok (.ifCond .ne 5, 3) := by decide +kernel
theorem dX5_readPlain_74 : decode cX5_readPlain 74 = .ok (.iconst 0, 1) := by decide +kernel
theorem dX5_readPlain_75 : decode cX5_readPlain 75 = .ok (.ireturn, 1) := by decide +kernel
theorem dX5_readPlain_76 : decode cX5_readPlain 76 = .ok (.aload_n 0, 1) := by decide +kernel
theorem dX5_readPlain_77 : decode cX5_readPlain 77 = .ok (.bipush 41, 2) := by decide +kernel
theorem dX5_readPlain_79 : decode cX5_readPlain 79 = .ok (.invokevirtual 66, 3) := by decide +kernel
theorem dX5_readPlain_82 : decode cX5_readPlain 82 = .ok (.ifCond .ne 8, 3) := by decide +kernel
theorem dX5_readPlain_85 : decode cX5_readPlain 85 = .ok (.aload_n 0, 1) := by decide +kernel
theorem dX5_readPlain_86 : decode cX5_readPlain 86 = .ok (.invokevirtual 70, 3) := by decide +kernel
theorem dX5_readPlain_89 : decode cX5_readPlain 89 = .ok (.ireturn, 1) := by decide +kernel
theorem dX5_readPlain_90 : decode cX5_readPlain 90 = .ok (.aload_n 0, 1) := by decide +kernel
theorem dX5_readPlain_91 : decode cX5_readPlain 91 = .ok (.invokevirtual 59, 3) := by decide +kernel
theorem dX5_readPlain_94 : decode cX5_readPlain 94 = .ok (.goto 63, 3) := by decide +kernel
theorem dX5_readPlain_97 : decode cX5_readPlain 97 = .ok (.aload_n 0, 1) := by decide +kernel
theorem dX5_readPlain_98 : decode cX5_readPlain 98 = .ok (.iload_n 1, 1) := by decide +kernel
theorem dX5_readPlain_99 : decode cX5_readPlain 99 = .ok (.invokevirtual 98, 3) := by decide +kernel
theorem dX5_readPlain_102 : decode cX5_readPlain 102 = .ok (.ifCond .ne 5, 3) := by decide +kernel
theorem dX5_readPlain_105 : decode cX5_readPlain 105 = .ok (.iconst 0, 1) := by decide +kernel
theorem dX5_readPlain_106 : decode cX5_readPlain 106 = .ok (.ireturn, 1) := by decide +kernel
theorem dX5_readPlain_107 : decode cX5_readPlain 107 = .ok (.aload_n 0, 1) := by decide +kernel
theorem dX5_readPlain_108 : decode cX5_readPlain 108 = .ok (.ldc 140, 2) := by decide +kernel
theorem dX5_readPlain_110 : decode cX5_readPlain 110 = .ok (.bipush 7, 2) := by decide +kernel
theorem dX5_readPlain_112 : decode cX5_readPlain 112 = .ok (.invokevirtual 142, 3) := by decide +kernel
theorem dX5_readPlain_115 : decode cX5_readPlain 115 = .ok (.istore_n 3, 1) := by decide +kernel
theorem dX5_readPlain_116 : decode cX5_readPlain 116 = .ok (.iload_n 3, 1) := by decide +kernel
theorem dX5_readPlain_117 : decode cX5_readPlain 117 = .ok (.iconst (-1), 1) := by decide +kernel
theorem dX5_readPlain_118 : decode cX5_readPlain 118 = .ok (.if_icmp .ne 8, 3) := by decide +kernel
theorem dX5_readPlain_121 : decode cX5_readPlain 121 = .ok (.aload_n 0, 1) := by decide +kernel
theorem dX5_readPlain_122 : decode cX5_readPlain 122 = .ok (.invokevirtual 70, 3) := by decide +kernel
theorem dX5_readPlain_125 : decode cX5_readPlain 125 = .ok (.ireturn, 1) := by decide +kernel
theorem dX5_readPlain_126 : decode cX5_readPlain 126 = .ok (.aload_n 0, 1) := by decide +kernel
theorem dX5_readPlain_127 : decode cX5_readPlain 127 = .ok (.invokevirtual 59, 3) := by decide +kernel
theorem dX5_readPlain_130 : decode cX5_readPlain 130 = .ok (.aload_n 0, 1) := by decide +kernel
theorem dX5_readPlain_131 : decode cX5_readPlain 131 = .ok (.iload_n 1, 1) := by decide +kernel
theorem dX5_readPlain_132 : decode cX5_readPlain 132 = .ok (.invokevirtual 98, 3) := by decide +kernel
theorem dX5_readPlain_135 : decode cX5_readPlain 135 = .ok (.ifCond .ne 5, 3) := by decide +kernel
theorem dX5_readPlain_138 : decode cX5_readPlain 138 = .ok (.iconst 0, 1) := by decide +kernel
theorem dX5_readPlain_139 : decode cX5_readPlain 139 = .ok (.ireturn, 1) := by decide +kernel
theorem dX5_readPlain_140 : decode cX5_readPlain 140 = .ok (.aload_n 0, 1) := by decide +kernel
theorem dX5_readPlain_141 : decode cX5_readPlain 141 = .ok (.getfield 14, 3) := by decide +kernel
theorem dX5_readPlain_144 : decode cX5_readPlain 144 = .ok (.iload_n 3, 1) := by decide +kernel
theorem dX5_readPlain_145 : decode cX5_readPlain 145 = .ok (.iconst 0, 1) := by decide +kernel
theorem dX5_readPlain_146 : decode cX5_readPlain 146 = .ok (.invokevirtual 125, 3) := by decide +kernel
theorem dX5_readPlain_149 : decode cX5_readPlain 149 = .ok (.ifCond .ne 8, 3) := by decide +kernel
theorem dX5_readPlain_152 : decode cX5_readPlain 152 = .ok (.aload_n 0, 1) := by decide +kernel
theorem dX5_readPlain_153 : decode cX5_readPlain 153 = .ok (.invokevirtual 70, 3) := by decide +kernel
theorem dX5_readPlain_156 : decode cX5_readPlain 156 = .ok (.ireturn, 1) := by decide +kernel
theorem dX5_readPlain_157 : decode cX5_readPlain 157 = .ok (.iload_n 2, 1) := by decide +kernel
theorem dX5_readPlain_158 : decode cX5_readPlain 158 = .ok (.ifCond .eq 23, 3) := by decide +kernel
theorem dX5_readPlain_161 : decode cX5_readPlain 161 = .ok (.aload_n 0, 1) := by decide +kernel
theorem dX5_readPlain_162 : decode cX5_readPlain 162 = .ok (.getfield 14, 3) := by decide +kernel
theorem dX5_readPlain_165 : decode cX5_readPlain 165 = .ok (.bipush 10, 2) := by decide +kernel
theorem dX5_readPlain_167 : decode cX5_readPlain 167 = .ok (.iconst 0, 1) := by decide +kernel
theorem dX5_readPlain_168 : decode cX5_readPlain 168 = .ok (.invokevirtual 125, 3) := by decide +kernel
theorem dX5_readPlain_171 : decode cX5_readPlain 171 = .ok (.ifCond .ne 10, 3) := by decide +kernel
theorem dX5_readPlain_174 : decode cX5_readPlain 174 = .ok (.aload_n 0, 1) := by decide +kernel
theorem dX5_readPlain_175 : decode cX5_readPlain 175 = .ok (.invokevirtual 70, 3) := by decide +kernel
theorem dX5_readPlain_178 : decode cX5_readPlain 178 = .ok (.ifCond .eq 7, 3) := by decide +kernel
theorem dX5_readPlain_181 : decode cX5_readPlain 181 = .ok (.iconst 1, 1) := by decide +kernel
theorem dX5_readPlain_182 : decode cX5_readPlain 182 = .ok (.goto 4, 3) := by decide +kernel
theorem dX5_readPlain_185 : decode cX5_readPlain 185 = .ok (.iconst 0, 1) := by decide +kernel
theorem dX5_readPlain_186 : decode cX5_readPlain 186 = .ok (.ireturn, 1) := by decide +kernel
theorem dX5_readSum_0 : decode cX5_readSum 0 = .ok (.aload_n 0, 1) := by decide +kernel
theorem dX5_readSum_1 : decode cX5_readSum 1 = .ok (.iload_n 1, 1) := by decide +kernel
theorem dX5_readSum_2 : decode cX5_readSum 2 = .ok (.invokevirtual 146, 3) := by decide +kernel
theorem dX5_readSum_5 : decode cX5_readSum 5 = .ok (.ifCond .ne 5, 3) := by decide +kernel
theorem dX5_readSum_8 : decode cX5_readSum 8 = .ok (.iconst 0, 1) := by decide +kernel
theorem dX5_readSum_9 : decode cX5_readSum 9 = .ok (.ireturn, 1) := by decide +kernel
theorem dX5_readSum_10 : decode cX5_readSum 10 = .ok (.aload_n 0, 1) := by decide +kernel
theorem dX5_readSum_11 : decode cX5_readSum 11 = .ok (.ldc 149, 2) := by decide +kernel
theorem dX5_readSum_13 : decode cX5_readSum 13 = .ok (.iconst 2, 1) := by decide +kernel
theorem dX5_readSum_14 : decode cX5_readSum 14 = .ok (.invokevirtual 142, 3) := by decide +kernel
theorem dX5_readSum_17 : decode cX5_readSum 17 = .ok (.istore_n 2, 1) := by decide +kernel
theorem dX5_readSum_18 : decode cX5_readSum 18 = .ok (.iconst 0, 1) := by decide +kernel
theorem dX5_readSum_19 : decode cX5_readSum 19 = .ok (.istore_n 3, 1) := by decide +kernel
theorem dX5_readSum_20 : decode cX5_readSum 20 = .ok (.iload_n 3, 1) := by decide +kernel
theorem dX5_readSum_21 : decode cX5_readSum 21 = .ok (.sipush 400, 3) := by decide +kernel
theorem dX5_readSum_24 : decode cX5_readSum 24 = .ok (.if_icmp .ge 53, 3) := by decide +kernel
theorem dX5_readSum_27 : decode cX5_readSum 27 = .ok (.iload_n 2, 1) := by decide +kernel
theorem dX5_readSum_28 : decode cX5_readSum 28 = .ok (.iconst (-1), 1) := by decide +kernel
theorem dX5_readSum_29 : decode cX5_readSum 29 = .ok (.if_icmp .eq 48, 3) := by decide +kernel
theorem dX5_readSum_32 : decode cX5_readSum 32 = .ok (.aload_n 0, 1) := by decide +kernel
theorem dX5_readSum_33 : decode cX5_readSum 33 = .ok (.invokevirtual 59, 3) := by decide +kernel
theorem dX5_readSum_36 : decode cX5_readSum 36 = .ok (.aload_n 0, 1) := by decide +kernel
theorem dX5_readSum_37 : decode cX5_readSum 37 = .ok (.iload_n 1, 1) := by decide +kernel
theorem dX5_readSum_38 : decode cX5_readSum 38 = .ok (.invokevirtual 146, 3) := by decide +kernel
theorem dX5_readSum_41 : decode cX5_readSum 41 = .ok (.ifCond .ne 5, 3) := by decide +kernel
theorem dX5_readSum_44 : decode cX5_readSum 44 = .ok (.iconst 0, 1) := by decide +kernel
theorem dX5_readSum_45 : decode cX5_readSum 45 = .ok (.ireturn, 1) := by decide +kernel
theorem dX5_readSum_46 : decode cX5_readSum 46 = .ok (.aload_n 0, 1) := by decide +kernel
theorem dX5_readSum_47 : decode cX5_readSum 47 = .ok (.getfield 14, 3) := by decide +kernel
theorem dX5_readSum_50 : decode cX5_readSum 50 = .ok (.iload_n 2, 1) := by decide +kernel
theorem dX5_readSum_51 : decode cX5_readSum 51 = .ok (.iconst 0, 1) := by decide +kernel
theorem dX5_readSum_52 : decode cX5_readSum 52 = .ok (.invokevirtual 125, 3) := by decide +kernel
theorem dX5_readSum_55 : decode cX5_readSum 55 = .ok (.ifCond .ne 8, 3) := by decide +kernel
theorem dX5_readSum_58 : decode cX5_readSum 58 = .ok (.aload_n 0, 1) := by decide +kernel
theorem dX5_readSum_59 : decode cX5_readSum 59 = .ok (.invokevirtual 70, 3) := by decide +kernel
theorem dX5_readSum_62 : decode cX5_readSum 62 = .ok (.ireturn, 1) := by decide +kernel
theorem dX5_readSum_63 : decode cX5_readSum 63 = .ok (.aload_n 0, 1) := by decide +kernel
theorem dX5_readSum_64 : decode cX5_readSum 64 = .ok (.ldc 149, 2) := by decide +kernel
theorem dX5_readSum_66 : decode cX5_readSum 66 = .ok (.iconst 2, 1) := by decide +kernel
theorem dX5_readSum_67 : decode cX5_readSum 67 = .ok (.invokevirtual 142, 3) := by decide +kernel
theorem dX5_readSum_70 : decode cX5_readSum 70 = .ok (.istore_n 2, 1) := by decide +kernel
theorem dX5_readSum_71 : decode cX5_readSum 71 = .ok (.iinc 3 1, 3) := by decide +kernel
theorem dX5_readSum_74 : decode cX5_readSum 74 = .ok (.goto (-54), 3) := by decide +kernel
theorem dX5_readSum_77 : decode cX5_readSum 77 = .ok (.iconst 1, 1) := by decide +kernel
theorem dX5_readSum_78 : decode cX5_readSum 78 = .ok (.ireturn, 1) := by decide +kernel
theorem dX5_readTerm_0 : decode cX5_readTerm 0 = .ok (.aload_n 0, 1) := by decide +kernel
theorem dX5_readTerm_1 : decode cX5_readTerm 1 = .ok (.iload_n 1, 1) := by decide +kernel
theorem dX5_readTerm_2 : decode cX5_readTerm 2 = .ok (.invokevirtual 151, 3) := by decide +kernel
theorem dX5_readTerm_5 : decode cX5_readTerm 5 = .ok (.ifCond .ne 5, 3) := by decide +kernel
theorem dX5_readTerm_8 : decode cX5_readTerm 8 = .ok (.iconst 0, 1) := by decide +kernel
theorem dX5_readTerm_9 : decode cX5_readTerm 9 = .ok (.ireturn, 1) := by decide +kernel
theorem dX5_readTerm_10 : decode cX5_readTerm 10 = .ok (.aload_n 0, 1) := by decide +kernel
theorem dX5_readTerm_11 : decode cX5_readTerm 11 = .ok (.ldc 154, 2) := by decide +kernel
theorem dX5_readTerm_13 : decode cX5_readTerm 13 = .ok (.iconst 4, 1) := by decide +kernel
theorem dX5_readTerm_14 : decode cX5_readTerm 14 = .ok (.invokevirtual 142, 3) := by decide +kernel
theorem dX5_readTerm_17 : decode cX5_readTerm 17 = .ok (.istore_n 2, 1) := by decide +kernel
theorem dX5_readTerm_18 : decode cX5_readTerm 18 = .ok (.iconst 0, 1) := by decide +kernel
theorem dX5_readTerm_19 : decode cX5_readTerm 19 = .ok (.istore_n 3, 1) := by decide +kernel
theorem dX5_readTerm_20 : decode cX5_readTerm 20 = .ok (.iload_n 3, 1) := by decide +kernel
theorem dX5_readTerm_21 : decode cX5_readTerm 21 = .ok (.sipush 400, 3) := by decide +kernel
theorem dX5_readTerm_24 : decode cX5_readTerm 24 = .ok (.if_icmp .ge 53, 3) := by decide +kernel
theorem dX5_readTerm_27 : decode cX5_readTerm 27 = .ok (.iload_n 2, 1) := by decide +kernel
theorem dX5_readTerm_28 : decode cX5_readTerm 28 = .ok (.iconst (-1), 1) := by decide +kernel
theorem dX5_readTerm_29 : decode cX5_readTerm 29 = .ok (.if_icmp .eq 48, 3) := by decide +kernel
theorem dX5_readTerm_32 : decode cX5_readTerm 32 = .ok (.aload_n 0, 1) := by decide +kernel
theorem dX5_readTerm_33 : decode cX5_readTerm 33 = .ok (.invokevirtual 59, 3) := by decide +kernel
theorem dX5_readTerm_36 : decode cX5_readTerm 36 = .ok (.aload_n 0, 1) := by decide +kernel
theorem dX5_readTerm_37 : decode cX5_readTerm 37 = .ok (.iload_n 1, 1) := by decide +kernel
theorem dX5_readTerm_38 : decode cX5_readTerm 38 = .ok (.invokevirtual 151, 3) := by decide +kernel
theorem dX5_readTerm_41 : decode cX5_readTerm 41 = .ok (.ifCond .ne 5, 3) := by decide +kernel
theorem dX5_readTerm_44 : decode cX5_readTerm 44 = .ok (.iconst 0, 1) := by decide +kernel
theorem dX5_readTerm_45 : decode cX5_readTerm 45 = .ok (.ireturn, 1) := by decide +kernel
theorem dX5_readTerm_46 : decode cX5_readTerm 46 = .ok (.aload_n 0, 1) := by decide +kernel
theorem dX5_readTerm_47 : decode cX5_readTerm 47 = .ok (.getfield 14, 3) := by decide +kernel
theorem dX5_readTerm_50 : decode cX5_readTerm 50 = .ok (.iload_n 2, 1) := by decide +kernel
theorem dX5_readTerm_51 : decode cX5_readTerm 51 = .ok (.iconst 0, 1) := by decide +kernel
theorem dX5_readTerm_52 : decode cX5_readTerm 52 = .ok (.invokevirtual 125, 3) := by decide +kernel
theorem dX5_readTerm_55 : decode cX5_readTerm 55 = .ok (.ifCond .ne 8, 3) := by decide +kernel
theorem dX5_readTerm_58 : decode cX5_readTerm 58 = .ok (.aload_n 0, 1) := by decide +kernel
theorem dX5_readTerm_59 : decode cX5_readTerm 59 = .ok (.invokevirtual 70, 3) := by decide +kernel
theorem dX5_readTerm_62 : decode cX5_readTerm 62 = .ok (.ireturn, 1) := by decide +kernel
theorem dX5_readTerm_63 : decode cX5_readTerm 63 = .ok (.aload_n 0, 1) := by decide +kernel
theorem dX5_readTerm_64 : decode cX5_readTerm 64 = .ok (.ldc 154, 2) := by decide +kernel
theorem dX5_readTerm_66 : decode cX5_readTerm 66 = .ok (.iconst 4, 1) := by decide +kernel
theorem dX5_readTerm_67 : decode cX5_readTerm 67 = .ok (.invokevirtual 142, 3) := by decide +kernel
theorem dX5_readTerm_70 : decode cX5_readTerm 70 = .ok (.istore_n 2, 1) := by decide +kernel
theorem dX5_readTerm_71 : decode cX5_readTerm 71 = .ok (.iinc 3 1, 3) := by decide +kernel
theorem dX5_readTerm_74 : decode cX5_readTerm 74 = .ok (.goto (-54), 3) := by decide +kernel
theorem dX5_readTerm_77 : decode cX5_readTerm 77 = .ok (.iconst 1, 1) := by decide +kernel
theorem dX5_readTerm_78 : decode cX5_readTerm 78 = .ok (.ireturn, 1) := by decide +kernel
theorem dX5_signStep_0 : decode cX5_signStep 0 = .ok (.aload_n 0, 1) := by decide +kernel
theorem dX5_signStep_1 : decode cX5_signStep 1 = .ok (.getfield 38, 3) := by decide +kernel
theorem dX5_signStep_4 : decode cX5_signStep 4 = .ok (.iconst 3, 1) := by decide +kernel
theorem dX5_signStep_5 : decode cX5_signStep 5 = .ok (.if_icmp .eq 5, 3) := by decide +kernel
theorem dX5_signStep_8 : decode cX5_signStep 8 = .ok (.iconst (-1), 1) := by decide +kernel
theorem dX5_signStep_9 : decode cX5_signStep 9 = .ok (.ireturn, 1) := by decide +kernel
theorem dX5_signStep_10 : decode cX5_signStep 10 = .ok (.iconst 0, 1) := by decide +kernel
theorem dX5_signStep_11 : decode cX5_signStep 11 = .ok (.istore_n 3, 1) := by decide +kernel
theorem dX5_signStep_12 : decode cX5_signStep 12 = .ok (.iload_n 3, 1) := by decide +kernel
theorem dX5_signStep_13 : decode cX5_signStep 13 = .ok (.aload_n 1, 1) := by decide +kernel
theorem dX5_signStep_14 : decode cX5_signStep 14 = .ok (.invokevirtual 77, 3) := by decide +kernel
theorem dX5_signStep_17 : decode cX5_signStep 17 = .ok (.if_icmp .ge 30, 3) := by decide +kernel
theorem dX5_signStep_20 : decode cX5_signStep 20 = .ok (.aload_n 0, 1) := by decide +kernel
theorem dX5_signStep_21 : decode cX5_signStep 21 = .ok (.getfield 24, 3) := by decide +kernel
theorem dX5_signStep_24 : decode cX5_signStep 24 = .ok (.aload_n 0, 1) := by decide +kernel
theorem dX5_signStep_25 : decode cX5_signStep 25 = .ok (.getfield 41, 3) := by decide +kernel
theorem dX5_signStep_28 : decode cX5_signStep 28 = .ok (.baload, 1) := by decide +kernel
theorem dX5_signStep_29 : decode cX5_signStep 29 = .ok (.aload_n 1, 1) := by decide +kernel
theorem dX5_signStep_30 : decode cX5_signStep 30 = .ok (.iload_n 3, 1) := by decide +kernel
theorem dX5_signStep_31 : decode cX5_signStep 31 = .ok (.invokevirtual 86, 3) := by decide +kernel
theorem dX5_signStep_34 : decode cX5_signStep 34 = .ok (.if_icmp .ne 7, 3) := by decide +kernel
theorem dX5_signStep_37 : decode cX5_signStep 37 = .ok (.iload_n 2, 1) := by decide +kernel
theorem dX5_signStep_38 : decode cX5_signStep 38 = .ok (.iload_n 3, 1) := by decide +kernel
theorem dX5_signStep_39 : decode cX5_signStep 39 = .ok (.iadd, 1) := by decide +kernel
theorem dX5_signStep_40 : decode cX5_signStep 40 = .ok (.ireturn, 1) := by decide +kernel
theorem dX5_signStep_41 : decode cX5_signStep 41 = .ok (.iinc 3 1, 3) := by decide +kernel
theorem dX5_signStep_44 : decode cX5_signStep 44 = .ok (.goto (-32), 3) := by decide +kernel
theorem dX5_signStep_47 : decode cX5_signStep 47 = .ok (.iconst (-1), 1) := by decide +kernel
theorem dX5_signStep_48 : decode cX5_signStep 48 = .ok (.ireturn, 1) := by decide +kernel
theorem dX5_readPart_0 : decode cX5_readPart 0 = .ok (.aload_n 0, 1) := by decide +kernel
theorem dX5_readPart_1 : decode cX5_readPart 1 = .ok (.bipush 91, 2) := by decide +kernel
theorem dX5_readPart_3 : decode cX5_readPart 3 = .ok (.invokevirtual 66, 3) := by decide +kernel
theorem dX5_readPart_6 : decode cX5_readPart 6 = .ok (.ifCond .eq 50, 3) := by decide +kernel
theorem dX5_readPart_9 : decode cX5_readPart 9 = .ok (.iload_n 1, 1) := by decide +kernel
theorem dX5_readPart_10 : decode cX5_readPart 10 = .ok (.bipush 8, 2) := by decide +kernel
theorem dX5_readPart_12 : decode cX5_readPart 12 = .ok (.if_icmp .lt 8, 3) := by decide +kernel
theorem dX5_readPart_15 : decode cX5_readPart 15 = .ok (.aload_n 0, 1) := by decide +kernel
theorem dX5_readPart_16 : decode cX5_readPart 16 = .ok (.invokevirtual 70, 3) := by decide +kernel
theorem dX5_readPart_19 : decode cX5_readPart 19 = .ok (.ireturn, 1) := by decide +kernel
theorem dX5_readPart_20 : decode cX5_readPart 20 = .ok (.aload_n 0, 1) := by decide +kernel
theorem dX5_readPart_21 : decode cX5_readPart 21 = .ok (.invokevirtual 59, 3) := by decide +kernel
theorem dX5_readPart_24 : decode cX5_readPart 24 = .ok (.aload_n 0, 1) := by decide +kernel
theorem dX5_readPart_25 : decode cX5_readPart 25 = .ok (.iload_n 1, 1) := by decide +kernel
theorem dX5_readPart_26 : decode cX5_readPart 26 = .ok (.iconst 1, 1) := by decide +kernel
theorem dX5_readPart_27 : decode cX5_readPart 27 = .ok (.iadd, 1) := by decide +kernel
theorem dX5_readPart_28 : decode cX5_readPart 28 = .ok (.invokevirtual 98, 3) := by decide +kernel
theorem dX5_readPart_31 : decode cX5_readPart 31 = .ok (.ifCond .ne 5, 3) := by decide +kernel
theorem dX5_readPart_34 : decode cX5_readPart 34 = .ok (.iconst 0, 1) := by decide +kernel
theorem dX5_readPart_35 : decode cX5_readPart 35 = .ok (.ireturn, 1) := by decide +kernel
theorem dX5_readPart_36 : decode cX5_readPart 36 = .ok (.aload_n 0, 1) := by decide +kernel
theorem dX5_readPart_37 : decode cX5_readPart 37 = .ok (.bipush 93, 2) := by decide +kernel
theorem dX5_readPart_39 : decode cX5_readPart 39 = .ok (.invokevirtual 66, 3) := by decide +kernel
theorem dX5_readPart_42 : decode cX5_readPart 42 = .ok (.ifCond .ne 8, 3) := by decide +kernel
theorem dX5_readPart_45 : decode cX5_readPart 45 = .ok (.aload_n 0, 1) := by decide +kernel
theorem dX5_readPart_46 : decode cX5_readPart 46 = .ok (.invokevirtual 70, 3) := by decide +kernel
theorem dX5_readPart_49 : decode cX5_readPart 49 = .ok (.ireturn, 1) := by decide +kernel
theorem dX5_readPart_50 : decode cX5_readPart 50 = .ok (.aload_n 0, 1) := by decide +kernel
theorem dX5_readPart_51 : decode cX5_readPart 51 = .ok (.invokevirtual 59, 3) := by decide +kernel
theorem dX5_readPart_54 : decode cX5_readPart 54 = .ok (.iconst 1, 1) := by decide +kernel
theorem dX5_readPart_55 : decode cX5_readPart 55 = .ok (.ireturn, 1) := by decide +kernel
theorem dX5_readPart_56 : decode cX5_readPart 56 = .ok (.aload_n 0, 1) := by decide +kernel
theorem dX5_readPart_57 : decode cX5_readPart 57 = .ok (.getfield 35, 3) := by decide +kernel
theorem dX5_readPart_60 : decode cX5_readPart 60 = .ok (.bipush 50, 2) := by decide +kernel
theorem dX5_readPart_62 : decode cX5_readPart 62 = .ok (.if_icmp .lt 8, 3) := by decide +kernel
theorem dX5_readPart_65 : decode cX5_readPart 65 = .ok (.aload_n 0, 1) := by decide +kernel
theorem dX5_readPart_66 : decode cX5_readPart 66 = .ok (.invokevirtual 70, 3) := by decide +kernel
theorem dX5_readPart_69 : decode cX5_readPart 69 = .ok (.ireturn, 1) := by decide +kernel
theorem dX5_readPart_70 : decode cX5_readPart 70 = .ok (.aload_n 0, 1) := by decide +kernel
theorem dX5_readPart_71 : decode cX5_readPart 71 = .ok (.dup, 1) := by decide +kernel
theorem dX5_readPart_72 : decode cX5_readPart 72 = .ok (.getfield 35, 3) := by decide +kernel
theorem dX5_readPart_75 : decode cX5_readPart 75 = .ok (.iconst 1, 1) := by decide +kernel
theorem dX5_readPart_76 : decode cX5_readPart 76 = .ok (.iadd, 1) := by decide +kernel
theorem dX5_readPart_77 : decode cX5_readPart 77 = .ok (.putfield 35, 3) := by decide +kernel
theorem dX5_readPart_80 : decode cX5_readPart 80 = .ok (.aload_n 0, 1) := by decide +kernel
theorem dX5_readPart_81 : decode cX5_readPart 81 = .ok (.sipush 1000, 3) := by decide +kernel
theorem dX5_readPart_84 : decode cX5_readPart 84 = .ok (.invokevirtual 108, 3) := by decide +kernel
theorem dX5_readPart_87 : decode cX5_readPart 87 = .ok (.istore_n 2, 1) := by decide +kernel
theorem dX5_readPart_88 : decode cX5_readPart 88 = .ok (.iload_n 2, 1) := by decide +kernel
theorem dX5_readPart_89 : decode cX5_readPart 89 = .ok (.iconst (-1), 1) := by decide +kernel
theorem dX5_readPart_90 : decode cX5_readPart 90 = .ok (.if_icmp .ne 8, 3) := by decide +kernel
theorem dX5_readPart_93 : decode cX5_readPart 93 = .ok (.aload_n 0, 1) := by decide +kernel
theorem dX5_readPart_94 : decode cX5_readPart 94 = .ok (.invokevirtual 156, 3) := by decide +kernel
theorem dX5_readPart_97 : decode cX5_readPart 97 = .ok (.ireturn, 1) := by decide +kernel
theorem dX5_readPart_98 : decode cX5_readPart 98 = .ok (.aload_n 0, 1) := by decide +kernel
theorem dX5_readPart_99 : decode cX5_readPart 99 = .ok (.invokevirtual 59, 3) := by decide +kernel
theorem dX5_readPart_102 : decode cX5_readPart 102 = .ok (.aload_n 0, 1) := by decide +kernel
theorem dX5_readPart_103 : decode cX5_readPart 103 = .ok (.getfield 14, 3) := by decide +kernel
theorem dX5_readPart_106 : decode cX5_readPart 106 = .ok (.iconst 0, 1) := by decide +kernel
theorem dX5_readPart_107 : decode cX5_readPart 107 = .ok (.iload_n 2, 1) := by decide +kernel
theorem dX5_readPart_108 : decode cX5_readPart 108 = .ok (.invokevirtual 125, 3) := by decide +kernel
theorem dX5_readPart_111 : decode cX5_readPart 111 = .ok (.ifCond .ne 10, 3) := by decide +kernel
theorem dX5_readPart_114 : decode cX5_readPart 114 = .ok (.aload_n 0, 1) := by decide +kernel
theorem dX5_readPart_115 : decode cX5_readPart 115 = .ok (.invokevirtual 70, 3) := by decide +kernel
theorem dX5_readPart_118 : decode cX5_readPart 118 = .ok (.ifCond .eq 7, 3) := by decide +kernel
theorem dX5_readPart_121 : decode cX5_readPart 121 = .ok (.iconst 1, 1) := by decide +kernel
theorem dX5_readPart_122 : decode cX5_readPart 122 = .ok (.goto 4, 3) := by decide +kernel
theorem dX5_readPart_125 : decode cX5_readPart 125 = .ok (.iconst 0, 1) := by decide +kernel
theorem dX5_readPart_126 : decode cX5_readPart 126 = .ok (.ireturn, 1) := by decide +kernel
theorem dX5_readFact_0 : decode cX5_readFact 0 = .ok (.aload_n 0, 1) := by decide +kernel
theorem dX5_readFact_1 : decode cX5_readFact 1 = .ok (.aload_n 0, 1) := by decide +kernel
theorem dX5_readFact_2 : decode cX5_readFact 2 = .ok (.getfield 31, 3) := by decide +kernel
theorem dX5_readFact_5 : decode cX5_readFact 5 = .ok (.ifCond .eq 8, 3) := by decide +kernel
theorem dX5_readFact_8 : decode cX5_readFact 8 = .ok (.ldc 159, 2) := by decide +kernel
theorem dX5_readFact_10 : decode cX5_readFact 10 = .ok (.goto 5, 3) := by decide +kernel
theorem dX5_readFact_13 : decode cX5_readFact 13 = .ok (.ldc 161, 2) := by decide +kernel
theorem dX5_readFact_15 : decode cX5_readFact 15 = .ok (.invokevirtual 94, 3) := by decide +kernel
theorem dX5_readFact_18 : decode cX5_readFact 18 = .ok (.istore_n 1, 1) := by decide +kernel
theorem dX5_readFact_19 : decode cX5_readFact 19 = .ok (.iload_n 1, 1) := by decide +kernel
theorem dX5_readFact_20 : decode cX5_readFact 20 = .ok (.iconst (-1), 1) := by decide +kernel
theorem dX5_readFact_21 : decode cX5_readFact 21 = .ok (.if_icmp .ne 8, 3) := by decide +kernel
theorem dX5_readFact_24 : decode cX5_readFact 24 = .ok (.aload_n 0, 1) := by decide +kernel
theorem dX5_readFact_25 : decode cX5_readFact 25 = .ok (.invokevirtual 70, 3) := by decide +kernel
theorem dX5_readFact_28 : decode cX5_readFact 28 = .ok (.ireturn, 1) := by decide +kernel
theorem dX5_readFact_29 : decode cX5_readFact 29 = .ok (.aload_n 0, 1) := by decide +kernel
theorem dX5_readFact_30 : decode cX5_readFact 30 = .ok (.invokevirtual 59, 3) := by decide +kernel
theorem dX5_readFact_33 : decode cX5_readFact 33 = .ok (.aload_n 0, 1) := by decide +kernel
theorem dX5_readFact_34 : decode cX5_readFact 34 = .ok (.getfield 31, 3) := by decide +kernel
theorem dX5_readFact_37 : decode cX5_readFact 37 = .ok (.ifCond .ne 43, 3) := by decide +kernel
theorem dX5_readFact_40 : decode cX5_readFact 40 = .ok (.iload_n 1, 1) := by decide +kernel
theorem dX5_readFact_41 : decode cX5_readFact 41 = .ok (.iconst 5, 1) := by decide +kernel
theorem dX5_readFact_42 : decode cX5_readFact 42 = .ok (.if_icmp .lt 38, 3) := by decide +kernel
theorem dX5_readFact_45 : decode cX5_readFact 45 = .ok (.aload_n 0, 1) := by decide +kernel
theorem dX5_readFact_46 : decode cX5_readFact 46 = .ok (.bipush 15, 2) := by decide +kernel
theorem dX5_readFact_48 : decode cX5_readFact 48 = .ok (.invokevirtual 108, 3) := by decide +kernel
theorem dX5_readFact_51 : decode cX5_readFact 51 = .ok (.istore_n 2, 1) := by decide +kernel
theorem dX5_readFact_52 : decode cX5_readFact 52 = .ok (.iload_n 2, 1) := by decide +kernel
theorem dX5_readFact_53 : decode cX5_readFact 53 = .ok (.iconst (-1), 1) := by decide +kernel
theorem dX5_readFact_54 : decode cX5_readFact 54 = .ok (.if_icmp .ne 8, 3) := by decide +kernel
theorem dX5_readFact_57 : decode cX5_readFact 57 = .ok (.aload_n 0, 1) := by decide +kernel
theorem dX5_readFact_58 : decode cX5_readFact 58 = .ok (.invokevirtual 70, 3) := by decide +kernel
theorem dX5_readFact_61 : decode cX5_readFact 61 = .ok (.ireturn, 1) := by decide +kernel
theorem dX5_readFact_62 : decode cX5_readFact 62 = .ok (.aload_n 0, 1) := by decide +kernel
theorem dX5_readFact_63 : decode cX5_readFact 63 = .ok (.invokevirtual 59, 3) := by decide +kernel
theorem dX5_readFact_66 : decode cX5_readFact 66 = .ok (.iload_n 1, 1) := by decide +kernel
theorem dX5_readFact_67 : decode cX5_readFact 67 = .ok (.iconst 5, 1) := by decide +kernel
theorem dX5_readFact_68 : decode cX5_readFact 68 = .ok (.if_icmp .ne 7, 3) := by decide +kernel
theorem dX5_readFact_71 : decode cX5_readFact 71 = .ok (.iconst 5, 1) := by decide +kernel
theorem dX5_readFact_72 : decode cX5_readFact 72 = .ok (.goto 5, 3) := by decide +kernel
theorem dX5_readFact_75 : decode cX5_readFact 75 = .ok (.bipush 21, 2) := by decide +kernel
theorem dX5_readFact_77 : decode cX5_readFact 77 = .ok (.iload_n 2, 1) := by decide +kernel
theorem dX5_readFact_78 : decode cX5_readFact 78 = .ok (.iadd, 1) := by decide +kernel
theorem dX5_readFact_79 : decode cX5_readFact 79 = .ok (.istore_n 1, 1) := by decide +kernel
theorem dX5_readFact_80 : decode cX5_readFact 80 = .ok (.aload_n 0, 1) := by decide +kernel
theorem dX5_readFact_81 : decode cX5_readFact 81 = .ok (.getfield 14, 3) := by decide +kernel
theorem dX5_readFact_84 : decode cX5_readFact 84 = .ok (.iconst 1, 1) := by decide +kernel
theorem dX5_readFact_85 : decode cX5_readFact 85 = .ok (.iload_n 1, 1) := by decide +kernel
theorem dX5_readFact_86 : decode cX5_readFact 86 = .ok (.invokevirtual 125, 3) := by decide +kernel
theorem dX5_readFact_89 : decode cX5_readFact 89 = .ok (.ifCond .ne 10, 3) := by decide +kernel
theorem dX5_readFact_92 : decode cX5_readFact 92 = .ok (.aload_n 0, 1) := by decide +kernel
theorem dX5_readFact_93 : decode cX5_readFact 93 = .ok (.invokevirtual 70, 3) := by decide +kernel
theorem dX5_readFact_96 : decode cX5_readFact 96 = .ok (.ifCond .eq 7, 3) := by decide +kernel
theorem dX5_readFact_99 : decode cX5_readFact 99 = .ok (.iconst 1, 1) := by decide +kernel
theorem dX5_readFact_100 : decode cX5_readFact 100 = .ok (.goto 4, 3) := by decide +kernel
theorem dX5_readFact_103 : decode cX5_readFact 103 = .ok (.iconst 0, 1) := by decide +kernel
theorem dX5_readFact_104 : decode cX5_readFact 104 = .ok (.ireturn, 1) := by decide +kernel
theorem dX6_init_0 : decode cX6_init 0 = .ok (.aload_n 0, 1) := by decide +kernel
theorem dX6_init_1 : decode cX6_init 1 = .ok (.invokespecial 3, 3) := by decide +kernel
theorem dX6_init_4 : decode cX6_init 4 = .ok (.aload_n 0, 1) := by decide +kernel
theorem dX6_init_5 : decode cX6_init 5 = .ok (.sipush 432, 3) := by decide +kernel
theorem dX6_init_8 : decode cX6_init 8 = .ok (.newarray .int, 2) := by decide +kernel
theorem dX6_init_10 : decode cX6_init 10 = .ok (.putfield 11, 3) := by decide +kernel
theorem dX6_init_13 : decode cX6_init 13 = .ok (.aload_n 0, 1) := by decide +kernel
theorem dX6_init_14 : decode cX6_init 14 = .ok (.iconst 0, 1) := by decide +kernel
theorem dX6_init_15 : decode cX6_init 15 = .ok (.putfield 15, 3) := by decide +kernel
theorem dX6_init_18 : decode cX6_init 18 = .ok (.aload_n 0, 1) := by decide +kernel
theorem dX6_init_19 : decode cX6_init 19 = .ok (.iconst 0, 1) := by decide +kernel
theorem dX6_init_20 : decode cX6_init 20 = .ok (.putfield 19, 3) := by decide +kernel
theorem dX6_init_23 : decode cX6_init 23 = .ok (.return_, 1) := by decide +kernel
theorem dX6_empty_0 : decode cX6_empty 0 = .ok (.aload_n 0, 1) := by decide +kernel
theorem dX6_empty_1 : decode cX6_empty 1 = .ok (.iconst 0, 1) := by decide +kernel
theorem dX6_empty_2 : decode cX6_empty 2 = .ok (.putfield 19, 3) := by decide +kernel
theorem dX6_empty_5 : decode cX6_empty 5 = .ok (.return_, 1) := by decide +kernel
theorem dX6_keep_0 : decode cX6_keep 0 = .ok (.aload_n 0, 1) := by decide +kernel
theorem dX6_keep_1 : decode cX6_keep 1 = .ok (.getfield 15, 3) := by decide +kernel
theorem dX6_keep_4 : decode cX6_keep 4 = .ok (.bipush 27, 2) := by decide +kernel
theorem dX6_keep_6 : decode cX6_keep 6 = .ok (.imul, 1) := by decide +kernel
theorem dX6_keep_7 : decode cX6_keep 7 = .ok (.istore_n 3, 1) := by decide +kernel
theorem dX6_keep_8 : decode cX6_keep 8 = .ok (.aload_n 2, 1) := by decide +kernel
theorem dX6_keep_9 : decode cX6_keep 9 = .ok (.getfield 22, 3) := by decide +kernel
theorem dX6_keep_12 : decode cX6_keep 12 = .ok (.iconst 0, 1) := by decide +kernel
theorem dX6_keep_13 : decode cX6_keep 13 = .ok (.aload_n 0, 1) := by decide +kernel
theorem dX6_keep_14 : decode cX6_keep 14 = .ok (.getfield 11, 3) := by decide +kernel
theorem dX6_keep_17 : decode cX6_keep 17 = .ok (.iload_n 3, 1) := by decide +kernel
theorem dX6_keep_18 : decode cX6_keep 18 = .ok (.bipush 12, 2) := by decide +kernel
theorem dX6_keep_20 : decode cX6_keep 20 = .ok (.invokestatic 27, 3) := by decide +kernel
theorem dX6_keep_23 : decode cX6_keep 23 = .ok (.aload_n 2, 1) := by decide +kernel
theorem dX6_keep_24 : decode cX6_keep 24 = .ok (.getfield 33, 3) := by decide +kernel
theorem dX6_keep_27 : decode cX6_keep 27 = .ok (.iconst 0, 1) := by decide +kernel
theorem dX6_keep_28 : decode cX6_keep 28 = .ok (.aload_n 0, 1) := by decide +kernel
theorem dX6_keep_29 : decode cX6_keep 29 = .ok (.getfield 11, 3) := by decide +kernel
theorem dX6_keep_32 : decode cX6_keep 32 = .ok (.iload_n 3, 1) := by decide +kernel
theorem dX6_keep_33 : decode cX6_keep 33 = .ok (.bipush 12, 2) := by decide +kernel
theorem dX6_keep_35 : decode cX6_keep 35 = .ok (.iadd, 1) := by decide +kernel
theorem dX6_keep_36 : decode cX6_keep 36 = .ok (.bipush 12, 2) := by decide +kernel
theorem dX6_keep_38 : decode cX6_keep 38 = .ok (.invokestatic 27, 3) := by decide +kernel
theorem dX6_keep_41 : decode cX6_keep 41 = .ok (.aload_n 0, 1) := by decide +kernel
theorem dX6_keep_42 : decode cX6_keep 42 = .ok (.getfield 11, 3) := by decide +kernel
theorem dX6_keep_45 : decode cX6_keep 45 = .ok (.iload_n 3, 1) := by decide +kernel
theorem dX6_keep_46 : decode cX6_keep 46 = .ok (.bipush 24, 2) := by decide +kernel
theorem dX6_keep_48 : decode cX6_keep 48 = .ok (.iadd, 1) := by decide +kernel
theorem dX6_keep_49 : decode cX6_keep 49 = .ok (.aload_n 2, 1) := by decide +kernel
theorem dX6_keep_50 : decode cX6_keep 50 = .ok (.getfield 36, 3) := by decide +kernel
theorem dX6_keep_53 : decode cX6_keep 53 = .ok (.iastore, 1) := by decide +kernel
theorem dX6_keep_54 : decode cX6_keep 54 = .ok (.aload_n 0, 1) := by decide +kernel
theorem dX6_keep_55 : decode cX6_keep 55 = .ok (.getfield 11, 3) := by decide +kernel
theorem dX6_keep_58 : decode cX6_keep 58 = .ok (.iload_n 3, 1) := by decide +kernel
theorem dX6_keep_59 : decode cX6_keep 59 = .ok (.bipush 24, 2) := by decide +kernel
theorem dX6_keep_61 : decode cX6_keep 61 = .ok (.iadd, 1) := by decide +kernel
theorem dX6_keep_62 : decode cX6_keep 62 = .ok (.iconst 1, 1) := by decide +kernel
theorem dX6_keep_63 : decode cX6_keep 63 = .ok (.iadd, 1) := by decide +kernel
theorem dX6_keep_64 : decode cX6_keep 64 = .ok (.aload_n 2, 1) := by decide +kernel
theorem dX6_keep_65 : decode cX6_keep 65 = .ok (.getfield 37, 3) := by decide +kernel
theorem dX6_keep_68 : decode cX6_keep 68 = .ok (.iastore, 1) := by decide +kernel
theorem dX6_keep_69 : decode cX6_keep 69 = .ok (.aload_n 0, 1) := by decide +kernel
theorem dX6_keep_70 : decode cX6_keep 70 = .ok (.getfield 11, 3) := by decide +kernel
theorem dX6_keep_73 : decode cX6_keep 73 = .ok (.iload_n 3, 1) := by decide +kernel
theorem dX6_keep_74 : decode cX6_keep 74 = .ok (.bipush 24, 2) := by decide +kernel
theorem dX6_keep_76 : decode cX6_keep 76 = .ok (.iadd, 1) := by decide +kernel
theorem dX6_keep_77 : decode cX6_keep 77 = .ok (.iconst 2, 1) := by decide +kernel
theorem dX6_keep_78 : decode cX6_keep 78 = .ok (.iadd, 1) := by decide +kernel
theorem dX6_keep_79 : decode cX6_keep 79 = .ok (.iload_n 1, 1) := by decide +kernel
theorem dX6_keep_80 : decode cX6_keep 80 = .ok (.iastore, 1) := by decide +kernel
theorem dX6_keep_81 : decode cX6_keep 81 = .ok (.aload_n 0, 1) := by decide +kernel
theorem dX6_keep_82 : decode cX6_keep 82 = .ok (.aload_n 0, 1) := by decide +kernel
theorem dX6_keep_83 : decode cX6_keep 83 = .ok (.getfield 15, 3) := by decide +kernel
theorem dX6_keep_86 : decode cX6_keep 86 = .ok (.iconst 1, 1) := by decide +kernel
theorem dX6_keep_87 : decode cX6_keep 87 = .ok (.iadd, 1) := by decide +kernel
theorem dX6_keep_88 : decode cX6_keep 88 = .ok (.bipush 16, 2) := by decide +kernel
theorem dX6_keep_90 : decode cX6_keep 90 = .ok (.irem, 1) := by decide +kernel
theorem dX6_keep_91 : decode cX6_keep 91 = .ok (.putfield 15, 3) := by decide +kernel
theorem dX6_keep_94 : decode cX6_keep 94 = .ok (.aload_n 0, 1) := by decide +kernel
theorem dX6_keep_95 : decode cX6_keep 95 = .ok (.bipush 16, 2) := by decide +kernel
theorem dX6_keep_97 : decode cX6_keep 97 = .ok (.aload_n 0, 1) := by decide +kernel
theorem dX6_keep_98 : decode cX6_keep 98 = .ok (.getfield 19, 3) := by decide +kernel
theorem dX6_keep_101 : decode cX6_keep 101 = .ok (.iconst 1, 1) := by decide +kernel
theorem dX6_keep_102 : decode cX6_keep 102 = .ok (.iadd, 1) := by decide +kernel
theorem dX6_keep_103 : decode cX6_keep 103 = .ok (.invokestatic 40, 3) := by decide +kernel
theorem dX6_keep_106 : decode cX6_keep 106 = .ok (.putfield 19, 3) := by decide +kernel
theorem dX6_keep_109 : decode cX6_keep 109 = .ok (.return_, 1) := by decide +kernel
theorem dX6_takeBack_0 : decode cX6_takeBack 0 = .ok (.aload_n 0, 1) := by decide +kernel
theorem dX6_takeBack_1 : decode cX6_takeBack 1 = .ok (.getfield 19, 3) := by decide +kernel
theorem dX6_takeBack_4 : decode cX6_takeBack 4 = .ok (.ifCond .ne 5, 3) := by decide +kernel
theorem dX6_takeBack_7 : decode cX6_takeBack 7 = .ok (.iconst (-1), 1) := by decide +kernel
theorem dX6_takeBack_8 : decode cX6_takeBack 8 = .ok (.ireturn, 1) := by decide +kernel
theorem dX6_takeBack_9 : decode cX6_takeBack 9 = .ok (.aload_n 0, 1) := by decide +kernel
theorem dX6_takeBack_10 : decode cX6_takeBack 10 = .ok (.aload_n 0, 1) := by decide +kernel
theorem dX6_takeBack_11 : decode cX6_takeBack 11 = .ok (.getfield 15, 3) := by decide +kernel
theorem dX6_takeBack_14 : decode cX6_takeBack 14 = .ok (.bipush 16, 2) := by decide +kernel
theorem dX6_takeBack_16 : decode cX6_takeBack 16 = .ok (.iadd, 1) := by decide +kernel
theorem dX6_takeBack_17 : decode cX6_takeBack 17 = .ok (.iconst 1, 1) := by decide +kernel
theorem dX6_takeBack_18 : decode cX6_takeBack 18 = .ok (.isub, 1) := by decide +kernel
theorem dX6_takeBack_19 : decode cX6_takeBack 19 = .ok (.bipush 16, 2) := by decide +kernel
theorem dX6_takeBack_21 : decode cX6_takeBack 21 = .ok (.irem, 1) := by decide +kernel
theorem dX6_takeBack_22 : decode cX6_takeBack 22 = .ok (.putfield 15, 3) := by decide +kernel
theorem dX6_takeBack_25 : decode cX6_takeBack 25 = .ok (.aload_n 0, 1) := by decide +kernel
theorem dX6_takeBack_26 : decode cX6_takeBack 26 = .ok (.dup, 1) := by decide +kernel
theorem dX6_takeBack_27 : decode cX6_takeBack 27 = .ok (.getfield 19, 3) := by decide +kernel
theorem dX6_takeBack_30 : decode cX6_takeBack 30 = .ok (.iconst 1, 1) := by decide +kernel
theorem dX6_takeBack_31 : decode cX6_takeBack 31 = .ok (.isub, 1) := by decide +kernel
theorem dX6_takeBack_32 : decode cX6_takeBack 32 = .ok (.putfield 19, 3) := by decide +kernel
theorem dX6_takeBack_35 : decode cX6_takeBack 35 = .ok (.aload_n 0, 1) := by decide +kernel
theorem dX6_takeBack_36 : decode cX6_takeBack 36 = .ok (.getfield 15, 3) := by decide +kernel
theorem dX6_takeBack_39 : decode cX6_takeBack 39 = .ok (.bipush 27, 2) := by decide +kernel
theorem dX6_takeBack_41 : decode cX6_takeBack 41 = .ok (.imul, 1) := by decide +kernel
theorem dX6_takeBack_42 : decode cX6_takeBack 42 = .ok (.istore_n 2, 1) := by decide +kernel
theorem dX6_takeBack_43 : decode cX6_takeBack 43 = .ok (.aload_n 0, 1) := by decide +kernel
theorem dX6_takeBack_44 : decode cX6_takeBack 44 = .ok (.getfield 11, 3) := by decide +kernel
theorem dX6_takeBack_47 : decode cX6_takeBack 47 = .ok (.iload_n 2, 1) := by decide +kernel
theorem dX6_takeBack_48 : decode cX6_takeBack 48 = .ok (.aload_n 1, 1) := by decide +kernel
theorem dX6_takeBack_49 : decode cX6_takeBack 49 = .ok (.getfield 22, 3) := by decide +kernel
theorem dX6_takeBack_52 : decode cX6_takeBack 52 = .ok (.iconst 0, 1) := by decide +kernel
theorem dX6_takeBack_53 : decode cX6_takeBack 53 = .ok (.bipush 12, 2) := by decide +kernel
theorem dX6_takeBack_55 : decode cX6_takeBack 55 = .ok (.invokestatic 27, 3) := by decide +kernel
theorem dX6_takeBack_58 : decode cX6_takeBack 58 = .ok (.aload_n 0, 1) := by decide +kernel
theorem dX6_takeBack_59 : decode cX6_takeBack 59 = .ok (.getfield 11, 3) := by decide +kernel
theorem dX6_takeBack_62 : decode cX6_takeBack 62 = .ok (.iload_n 2, 1) := by decide +kernel
theorem dX6_takeBack_63 : decode cX6_takeBack 63 = .ok (.bipush 12, 2) := by decide +kernel
theorem dX6_takeBack_65 : decode cX6_takeBack 65 = .ok (.iadd, 1) := by decide +kernel
theorem dX6_takeBack_66 : decode cX6_takeBack 66 = .ok (.aload_n 1, 1) := by decide +kernel
theorem dX6_takeBack_67 : decode cX6_takeBack 67 = .ok (.getfield 33, 3) := by decide +kernel
theorem dX6_takeBack_70 : decode cX6_takeBack 70 = .ok (.iconst 0, 1) := by decide +kernel
theorem dX6_takeBack_71 : decode cX6_takeBack 71 = .ok (.bipush 12, 2) := by decide +kernel
theorem dX6_takeBack_73 : decode cX6_takeBack 73 = .ok (.invokestatic 27, 3) := by decide +kernel
theorem dX6_takeBack_76 : decode cX6_takeBack 76 = .ok (.aload_n 1, 1) := by decide +kernel
theorem dX6_takeBack_77 : decode cX6_takeBack 77 = .ok (.aload_n 0, 1) := by decide +kernel
theorem dX6_takeBack_78 : decode cX6_takeBack 78 = .ok (.getfield 11, 3) := by decide +kernel
theorem dX6_takeBack_81 : decode cX6_takeBack 81 = .ok (.iload_n 2, 1) := by decide +kernel
theorem dX6_takeBack_82 : decode cX6_takeBack 82 = .ok (.bipush 24, 2) := by decide +kernel
theorem dX6_takeBack_84 : decode cX6_takeBack 84 = .ok (.iadd, 1) := by decide +kernel
theorem dX6_takeBack_85 : decode cX6_takeBack 85 = .ok (.iaload, 1) := by decide +kernel
theorem dX6_takeBack_86 : decode cX6_takeBack 86 = .ok (.putfield 36, 3) := by decide +kernel
theorem dX6_takeBack_89 : decode cX6_takeBack 89 = .ok (.aload_n 1, 1) := by decide +kernel
theorem dX6_takeBack_90 : decode cX6_takeBack 90 = .ok (.aload_n 0, 1) := by decide +kernel
theorem dX6_takeBack_91 : decode cX6_takeBack 91 = .ok (.getfield 11, 3) := by decide +kernel
theorem dX6_takeBack_94 : decode cX6_takeBack 94 = .ok (.iload_n 2, 1) := by decide +kernel
theorem dX6_takeBack_95 : decode cX6_takeBack 95 = .ok (.bipush 24, 2) := by decide +kernel
theorem dX6_takeBack_97 : decode cX6_takeBack 97 = .ok (.iadd, 1) := by decide +kernel
theorem dX6_takeBack_98 : decode cX6_takeBack 98 = .ok (.iconst 1, 1) := by decide +kernel
theorem dX6_takeBack_99 : decode cX6_takeBack 99 = .ok (.iadd, 1) := by decide +kernel
theorem dX6_takeBack_100 : decode cX6_takeBack 100 = .ok (.iaload, 1) := by decide +kernel
theorem dX6_takeBack_101 : decode cX6_takeBack 101 = .ok (.putfield 37, 3) := by decide +kernel
theorem dX6_takeBack_104 : decode cX6_takeBack 104 = .ok (.aload_n 0, 1) := by decide +kernel
theorem dX6_takeBack_105 : decode cX6_takeBack 105 = .ok (.getfield 11, 3) := by decide +kernel
theorem dX6_takeBack_108 : decode cX6_takeBack 108 = .ok (.iload_n 2, 1) := by decide +kernel
theorem dX6_takeBack_109 : decode cX6_takeBack 109 = .ok (.bipush 24, 2) := by decide +kernel
theorem dX6_takeBack_111 : decode cX6_takeBack 111 = .ok (.iadd, 1) := by decide +kernel
theorem dX6_takeBack_112 : decode cX6_takeBack 112 = .ok (.iconst 2, 1) := by decide +kernel
theorem dX6_takeBack_113 : decode cX6_takeBack 113 = .ok (.iadd, 1) := by decide +kernel
theorem dX6_takeBack_114 : decode cX6_takeBack 114 = .ok (.iaload, 1) := by decide +kernel
theorem dX6_takeBack_115 : decode cX6_takeBack 115 = .ok (.ireturn, 1) := by decide +kernel
theorem dX6_takeFrom_0 : decode cX6_takeFrom 0 = .ok (.aload_n 1, 1) := by decide +kernel
theorem dX6_takeFrom_1 : decode cX6_takeFrom 1 = .ok (.getfield 11, 3) := by decide +kernel
theorem dX6_takeFrom_4 : decode cX6_takeFrom 4 = .ok (.iconst 0, 1) := by decide +kernel
theorem dX6_takeFrom_5 : decode cX6_takeFrom 5 = .ok (.aload_n 0, 1) := by decide +kernel
theorem dX6_takeFrom_6 : decode cX6_takeFrom 6 = .ok (.getfield 11, 3) := by decide +kernel
theorem dX6_takeFrom_9 : decode cX6_takeFrom 9 = .ok (.iconst 0, 1) := by decide +kernel
theorem dX6_takeFrom_10 : decode cX6_takeFrom 10 = .ok (.sipush 432, 3) := by decide +kernel
theorem dX6_takeFrom_13 : decode cX6_takeFrom 13 = .ok (.invokestatic 27, 3) := by decide +kernel
theorem dX6_takeFrom_16 : decode cX6_takeFrom 16 = .ok (.aload_n 0, 1) := by decide +kernel
theorem dX6_takeFrom_17 : decode cX6_takeFrom 17 = .ok (.aload_n 1, 1) := by decide +kernel
theorem dX6_takeFrom_18 : decode cX6_takeFrom 18 = .ok (.getfield 15, 3) := by decide +kernel
theorem dX6_takeFrom_21 : decode cX6_takeFrom 21 = .ok (.putfield 15, 3) := by decide +kernel
theorem dX6_takeFrom_24 : decode cX6_takeFrom 24 = .ok (.aload_n 0, 1) := by decide +kernel
theorem dX6_takeFrom_25 : decode cX6_takeFrom 25 = .ok (.aload_n 1, 1) := by decide +kernel
theorem dX6_takeFrom_26 : decode cX6_takeFrom 26 = .ok (.getfield 19, 3) := by decide +kernel
theorem dX6_takeFrom_29 : decode cX6_takeFrom 29 = .ok (.putfield 19, 3) := by decide +kernel
theorem dX6_takeFrom_32 : decode cX6_takeFrom 32 = .ok (.return_, 1) := by decide +kernel
theorem dX7_init_0 : decode cX7_init 0 = .ok (.aload_n 0, 1) := by decide +kernel
theorem dX7_init_1 : decode cX7_init 1 = .ok (.invokespecial 3, 3) := by decide +kernel
theorem dX7_init_4 : decode cX7_init 4 = .ok (.aload_n 0, 1) := by decide +kernel
theorem dX7_init_5 : decode cX7_init 5 = .ok (.bipush 37, 2) := by decide +kernel
theorem dX7_init_7 : decode cX7_init 7 = .ok (.newarray .int, 2) := by decide +kernel
theorem dX7_init_9 : decode cX7_init 9 = .ok (.putfield 9, 3) := by decide +kernel
theorem dX7_init_12 : decode cX7_init 12 = .ok (.aload_n 0, 1) := by decide +kernel
theorem dX7_init_13 : decode cX7_init 13 = .ok (.bipush 52, 2) := by decide +kernel
theorem dX7_init_15 : decode cX7_init 15 = .ok (.newarray .int, 2) := by decide +kernel
theorem dX7_init_17 : decode cX7_init 17 = .ok (.putfield 15, 3) := by decide +kernel
theorem dX7_init_20 : decode cX7_init 20 = .ok (.aload_n 0, 1) := by decide +kernel
theorem dX7_init_21 : decode cX7_init 21 = .ok (.iconst 0, 1) := by decide +kernel
theorem dX7_init_22 : decode cX7_init 22 = .ok (.putfield 18, 3) := by decide +kernel
theorem dX7_init_25 : decode cX7_init 25 = .ok (.return_, 1) := by decide +kernel
theorem dX7_reckon_0 : decode cX7_reckon 0 = .ok (.iconst 0, 1) := by decide +kernel
theorem dX7_reckon_1 : decode cX7_reckon 1 = .ok (.istore 4, 2) := by decide +kernel
theorem dX7_reckon_3 : decode cX7_reckon 3 = .ok (.iload_n 3, 1) := by decide +kernel
theorem dX7_reckon_4 : decode cX7_reckon 4 = .ok (.aload_n 1, 1) := by decide +kernel
theorem dX7_reckon_5 : decode cX7_reckon 5 = .ok (.getfield 22, 3) := by decide +kernel
theorem dX7_reckon_8 : decode cX7_reckon 8 = .ok (.invokestatic 27, 3) := by decide +kernel
theorem dX7_reckon_11 : decode cX7_reckon 11 = .ok (.istore 5, 2) := by decide +kernel
theorem dX7_reckon_13 : decode cX7_reckon 13 = .ok (.iconst 0, 1) := by decide +kernel
theorem dX7_reckon_14 : decode cX7_reckon 14 = .ok (.iload_n 2, 1) := by decide +kernel
theorem dX7_reckon_15 : decode cX7_reckon 15 = .ok (.invokestatic 33, 3) := by decide +kernel
theorem dX7_reckon_18 : decode cX7_reckon 18 = .ok (.istore 6, 2) := by decide +kernel
theorem dX7_reckon_20 : decode cX7_reckon 20 = .ok (.iload 6, 2) := by decide +kernel
theorem dX7_reckon_22 : decode cX7_reckon 22 = .ok (.iconst 1, 1) := by decide +kernel
theorem dX7_reckon_23 : decode cX7_reckon 23 = .ok (.iadd, 1) := by decide +kernel
theorem dX7_reckon_24 : decode cX7_reckon 24 = .ok (.iload 5, 2) := by decide +kernel
theorem dX7_reckon_26 : decode cX7_reckon 26 = .ok (.if_icmp .ge 247, 3) := by decide +kernel
theorem dX7_reckon_29 : decode cX7_reckon 29 = .ok (.aload_n 1, 1) := by decide +kernel
theorem dX7_reckon_30 : decode cX7_reckon 30 = .ok (.getfield 36, 3) := by decide +kernel
theorem dX7_reckon_33 : decode cX7_reckon 33 = .ok (.iload 6, 2) := by decide +kernel
theorem dX7_reckon_35 : decode cX7_reckon 35 = .ok (.iaload, 1) := by decide +kernel
theorem dX7_reckon_36 : decode cX7_reckon 36 = .ok (.istore 7, 2) := by decide +kernel
theorem dX7_reckon_38 : decode cX7_reckon 38 = .ok (.aload_n 1, 1) := by decide +kernel
theorem dX7_reckon_39 : decode cX7_reckon 39 = .ok (.getfield 36, 3) := by decide +kernel
theorem dX7_reckon_42 : decode cX7_reckon 42 = .ok (.iload 6, 2) := by decide +kernel
theorem dX7_reckon_44 : decode cX7_reckon 44 = .ok (.iconst 1, 1) := by decide +kernel
theorem dX7_reckon_45 : decode cX7_reckon 45 = .ok (.iadd, 1) := by decide +kernel
theorem dX7_reckon_46 : decode cX7_reckon 46 = .ok (.iaload, 1) := by decide +kernel
theorem dX7_reckon_47 : decode cX7_reckon 47 = .ok (.istore 8, 2) := by decide +kernel
theorem dX7_reckon_49 : decode cX7_reckon 49 = .ok (.iload 7, 2) := by decide +kernel
theorem dX7_reckon_51 : decode cX7_reckon 51 = .ok (.iconst 1, 1) := by decide +kernel
theorem dX7_reckon_52 : decode cX7_reckon 52 = .ok (.if_icmp .gt 45, 3) := by decide +kernel
theorem dX7_reckon_55 : decode cX7_reckon 55 = .ok (.iload 4, 2) := by decide +kernel
theorem dX7_reckon_57 : decode cX7_reckon 57 = .ok (.aload_n 0, 1) := by decide +kernel
theorem dX7_reckon_58 : decode cX7_reckon 58 = .ok (.getfield 15, 3) := by decide +kernel
theorem dX7_reckon_61 : decode cX7_reckon 61 = .ok (.arraylength, 1) := by decide +kernel
theorem dX7_reckon_62 : decode cX7_reckon 62 = .ok (.if_icmp .lt 5, 3) := by decide +kernel
theorem dX7_reckon_65 : decode cX7_reckon 65 = .ok (.iconst 0, 1) := by decide +kernel
theorem dX7_reckon_66 : decode cX7_reckon 66 = .ok (.ireturn, 1) := by decide +kernel
theorem dX7_reckon_67 : decode cX7_reckon 67 = .ok (.aload_n 0, 1) := by decide +kernel
theorem dX7_reckon_68 : decode cX7_reckon 68 = .ok (.getfield 15, 3) := by decide +kernel
theorem dX7_reckon_71 : decode cX7_reckon 71 = .ok (.iload 4, 2) := by decide +kernel
theorem dX7_reckon_73 : decode cX7_reckon 73 = .ok (.iload 7, 2) := by decide +kernel
theorem dX7_reckon_75 : decode cX7_reckon 75 = .ok (.iconst 1, 1) := by decide +kernel
theorem dX7_reckon_76 : decode cX7_reckon 76 = .ok (.if_icmp .ne 12, 3) := by decide +kernel
theorem dX7_reckon_79 : decode cX7_reckon 79 = .ok (.aload_n 0, 1) := by decide +kernel
theorem dX7_reckon_80 : decode cX7_reckon 80 = .ok (.iload 8, 2) := by decide +kernel
theorem dX7_reckon_82 : decode cX7_reckon 82 = .ok (.invokevirtual 39, 3) := by decide +kernel
theorem dX7_reckon_85 : decode cX7_reckon 85 = .ok (.goto 5, 3) := by decide +kernel
theorem dX7_reckon_88 : decode cX7_reckon 88 = .ok (.iload 8, 2) := by decide +kernel
theorem dX7_reckon_90 : decode cX7_reckon 90 = .ok (.iastore, 1) := by decide +kernel
theorem dX7_reckon_91 : decode cX7_reckon 91 = .ok (.iinc 4 1, 3) := by decide +kernel
theorem dX7_reckon_94 : decode cX7_reckon 94 = .ok (.goto 173, 3) := by decide +kernel
theorem dX7_reckon_97 : decode cX7_reckon 97 = .ok (.iload 7, 2) := by decide +kernel
theorem dX7_reckon_99 : decode cX7_reckon 99 = .ok (.bipush 9, 2) := by decide +kernel
theorem dX7_reckon_101 : decode cX7_reckon 101 = .ok (.if_icmp .gt 76, 3) := by decide +kernel
theorem dX7_reckon_104 : decode cX7_reckon 104 = .ok (.iload 4, 2) := by decide +kernel
theorem dX7_reckon_106 : decode cX7_reckon 106 = .ok (.iconst 2, 1) := by decide +kernel
theorem dX7_reckon_107 : decode cX7_reckon 107 = .ok (.if_icmp .ge 5, 3) := by decide +kernel
theorem dX7_reckon_110 : decode cX7_reckon 110 = .ok (.iconst 0, 1) := by decide +kernel
theorem dX7_reckon_111 : decode cX7_reckon 111 = .ok (.ireturn, 1) := by decide +kernel
theorem dX7_reckon_112 : decode cX7_reckon 112 = .ok (.iload 7, 2) := by decide +kernel
theorem dX7_reckon_114 : decode cX7_reckon 114 = .ok (.aload_n 0, 1) := by decide +kernel
theorem dX7_reckon_115 : decode cX7_reckon 115 = .ok (.getfield 15, 3) := by decide +kernel
theorem dX7_reckon_118 : decode cX7_reckon 118 = .ok (.iload 4, 2) := by decide +kernel
theorem dX7_reckon_120 : decode cX7_reckon 120 = .ok (.iconst 2, 1) := by decide +kernel
theorem dX7_reckon_121 : decode cX7_reckon 121 = .ok (.isub, 1) := by decide +kernel
theorem dX7_reckon_122 : decode cX7_reckon 122 = .ok (.iaload, 1) := by decide +kernel
theorem dX7_reckon_123 : decode cX7_reckon 123 = .ok (.i2l, 1) := by decide +kernel
theorem dX7_reckon_124 : decode cX7_reckon 124 = .ok (.aload_n 0, 1) := by decide +kernel
theorem dX7_reckon_125 : decode cX7_reckon 125 = .ok (.getfield 15, 3) := by decide +kernel
theorem dX7_reckon_128 : decode cX7_reckon 128 = .ok (.iload 4, 2) := by decide +kernel
theorem dX7_reckon_130 : decode cX7_reckon 130 = .ok (.iconst 1, 1) := by decide +kernel
theorem dX7_reckon_131 : decode cX7_reckon 131 = .ok (.isub, 1) := by decide +kernel
theorem dX7_reckon_132 : decode cX7_reckon 132 = .ok (.iaload, 1) := by decide +kernel
theorem dX7_reckon_133 : decode cX7_reckon 133 = .ok (.i2l, 1) := by decide +kernel
theorem dX7_reckon_134 : decode cX7_reckon 134 = .ok (.invokestatic 43, 3) := by decide +kernel
theorem dX7_reckon_137 : decode cX7_reckon 137 = .ok (.lstore 9, 2) := by decide +kernel
theorem dX7_reckon_139 : decode cX7_reckon 139 = .ok (.lload 9, 2) := by decide +kernel
theorem dX7_reckon_141 : decode cX7_reckon 141 = .ok (.ldc2_w 47, 3) := by decide +kernel
theorem dX7_reckon_144 : decode cX7_reckon 144 = .ok (.lcmp, 1) := by decide +kernel
theorem dX7_reckon_145 : decode cX7_reckon 145 = .ok (.ifCond .gt 12, 3) := by decide +kernel
theorem dX7_reckon_148 : decode cX7_reckon 148 = .ok (.lload 9, 2) := by decide +kernel
theorem dX7_reckon_150 : decode cX7_reckon 150 = .ok (.ldc2_w 49, 3) := by decide +kernel
theorem dX7_reckon_153 : decode cX7_reckon 153 = .ok (.lcmp, 1) := by decide +kernel
theorem dX7_reckon_154 : decode cX7_reckon 154 = .ok (.ifCond .ge 5, 3) := by decide +kernel
theorem dX7_reckon_157 : decode cX7_reckon 157 = .ok (.iconst 0, 1) := by decide +kernel
theorem dX7_reckon_158 : decode cX7_reckon 158 = .ok (.ireturn, 1) := by decide +kernel
theorem dX7_reckon_159 : decode cX7_reckon 159 = .ok (.iinc 4 (-1), 3) := by decide +kernel
theorem dX7_reckon_162 : decode cX7_reckon 162 = .ok (.aload_n 0, 1) := by decide +kernel
theorem dX7_reckon_163 : decode cX7_reckon 163 = .ok (.getfield 15, 3) := by decide +kernel
theorem dX7_reckon_166 : decode cX7_reckon 166 = .ok (.iload 4, 2) := by decide +kernel
theorem dX7_reckon_168 : decode cX7_reckon 168 = .ok (.iconst 1, 1) := by decide +kernel
theorem dX7_reckon_169 : decode cX7_reckon 169 = .ok (.isub, 1) := by decide +kernel
theorem dX7_reckon_170 : decode cX7_reckon 170 = .ok (.lload 9, 2) := by decide +kernel
theorem dX7_reckon_172 : decode cX7_reckon 172 = .ok (.l2i, 1) := by decide +kernel
theorem dX7_reckon_173 : decode cX7_reckon 173 = .ok (.iastore, 1) := by decide +kernel
theorem dX7_reckon_174 : decode cX7_reckon 174 = .ok (.goto 93, 3) := by decide +kernel
theorem dX7_reckon_177 : decode cX7_reckon 177 = .ok (.iload 4, 2) := by decide +kernel
theorem dX7_reckon_179 : decode cX7_reckon 179 = .ok (.iconst 1, 1) := by decide +kernel
theorem dX7_reckon_180 : decode cX7_reckon 180 = .ok (.if_icmp .ge 5, 3) := by decide +kernel
theorem dX7_reckon_183 : decode cX7_reckon 183 = .ok (.iconst 0, 1) := by decide +kernel
theorem dX7_reckon_184 : decode cX7_reckon 184 = .ok (.ireturn, 1) := by decide +kernel
theorem dX7_reckon_185 : decode cX7_reckon 185 = .ok (.aload_n 0, 1) := by decide +kernel
theorem dX7_reckon_186 : decode cX7_reckon 186 = .ok (.getfield 15, 3) := by decide +kernel
theorem dX7_reckon_189 : decode cX7_reckon 189 = .ok (.iload 4, 2) := by decide +kernel
theorem dX7_reckon_191 : decode cX7_reckon 191 = .ok (.iconst 1, 1) := by decide +kernel
theorem dX7_reckon_192 : decode cX7_reckon 192 = .ok (.isub, 1) := by decide +kernel
theorem dX7_reckon_193 : decode cX7_reckon 193 = .ok (.iaload, 1) := by decide +kernel
theorem dX7_reckon_194 : decode cX7_reckon 194 = .ok (.ifCond .eq 7, 3) := by decide +kernel
theorem dX7_reckon_197 : decode cX7_reckon 197 = .ok (.iconst 1, 1) := by decide +kernel
theorem dX7_reckon_198 : decode cX7_reckon 198 = .ok (.goto 4, 3) := by decide +kernel
theorem dX7_reckon_201 : decode cX7_reckon 201 = .ok (.iconst 0, 1) := by decide +kernel
theorem dX7_reckon_202 : decode cX7_reckon 202 = .ok (.istore 9, 2) := by decide +kernel
theorem dX7_reckon_204 : decode cX7_reckon 204 = .ok (.iload 7, 2) := by decide +kernel
theorem dX7_reckon_206 : decode cX7_reckon 206 = .ok (.bipush 10, 2) := by decide +kernel
theorem dX7_reckon_208 : decode cX7_reckon 208 = .ok (.if_icmp .ne 25, 3) := by decide +kernel
theorem dX7_reckon_211 : decode cX7_reckon 211 = .ok (.aload_n 0, 1) := by decide +kernel
theorem dX7_reckon_212 : decode cX7_reckon 212 = .ok (.getfield 15, 3) := by decide +kernel
theorem dX7_reckon_215 : decode cX7_reckon 215 = .ok (.iload 4, 2) := by decide +kernel
theorem dX7_reckon_217 : decode cX7_reckon 217 = .ok (.iconst 1, 1) := by decide +kernel
theorem dX7_reckon_218 : decode cX7_reckon 218 = .ok (.isub, 1) := by decide +kernel
theorem dX7_reckon_219 : decode cX7_reckon 219 = .ok (.iload 9, 2) := by decide +kernel
theorem dX7_reckon_221 : decode cX7_reckon 221 = .ok (.ifCond .eq 7, 3) := by decide +kernel
theorem dX7_reckon_224 : decode cX7_reckon 224 = .ok (.iconst 0, 1) := by decide +kernel
theorem dX7_reckon_225 : decode cX7_reckon 225 = .ok (.goto 4, 3) := by decide +kernel
theorem dX7_reckon_228 : decode cX7_reckon 228 = .ok (.iconst 1, 1) := by decide +kernel
theorem dX7_reckon_229 : decode cX7_reckon 229 = .ok (.iastore, 1) := by decide +kernel
theorem dX7_reckon_230 : decode cX7_reckon 230 = .ok (.goto 37, 3) := by decide +kernel
theorem dX7_reckon_233 : decode cX7_reckon 233 = .ok (.iload 9, 2) := by decide +kernel
theorem dX7_reckon_235 : decode cX7_reckon 235 = .ok (.iload 7, 2) := by decide +kernel
theorem dX7_reckon_237 : decode cX7_reckon 237 = .ok (.bipush 11, 2) := by decide +kernel
theorem dX7_reckon_239 : decode cX7_reckon 239 = .ok (.if_icmp .ne 7, 3) := by decide +kernel
theorem dX7_reckon_242 : decode cX7_reckon 242 = .ok (.iconst 1, 1) := by decide +kernel
theorem dX7_reckon_243 : decode cX7_reckon 243 = .ok (.goto 4, 3) := by decide +kernel
theorem dX7_reckon_246 : decode cX7_reckon 246 = .ok (.iconst 0, 1) := by decide +kernel
theorem dX7_reckon_247 : decode cX7_reckon 247 = .ok (.if_icmp .ne 17, 3) := by decide +kernel
theorem dX7_reckon_250 : decode cX7_reckon 250 = .ok (.iload 6, 2) := by decide +kernel
theorem dX7_reckon_252 : decode cX7_reckon 252 = .ok (.iconst 0, 1) := by decide +kernel
theorem dX7_reckon_253 : decode cX7_reckon 253 = .ok (.iload 8, 2) := by decide +kernel
theorem dX7_reckon_255 : decode cX7_reckon 255 = .ok (.invokestatic 33, 3) := by decide +kernel
theorem dX7_reckon_258 : decode cX7_reckon 258 = .ok (.iadd, 1) := by decide +kernel
theorem dX7_reckon_259 : decode cX7_reckon 259 = .ok (.istore 6, 2) := by decide +kernel
theorem dX7_reckon_261 : decode cX7_reckon 261 = .ok (.goto 6, 3) := by decide +kernel
theorem dX7_reckon_264 : decode cX7_reckon 264 = .ok (.iinc 4 (-1), 3) := by decide +kernel
theorem dX7_reckon_267 : decode cX7_reckon 267 = .ok (.iinc 6 2, 3) := by decide +kernel
theorem dX7_reckon_270 : decode cX7_reckon 270 = .ok (.goto (-250), 3) := by decide +kernel
theorem dX7_reckon_273 : decode cX7_reckon 273 = .ok (.iload 4, 2) := by decide +kernel
theorem dX7_reckon_275 : decode cX7_reckon 275 = .ok (.iconst 1, 1) := by decide +kernel
theorem dX7_reckon_276 : decode cX7_reckon 276 = .ok (.if_icmp .eq 5, 3) := by decide +kernel
theorem dX7_reckon_279 : decode cX7_reckon 279 = .ok (.iconst 0, 1) := by decide +kernel
theorem dX7_reckon_280 : decode cX7_reckon 280 = .ok (.ireturn, 1) := by decide +kernel
theorem dX7_reckon_281 : decode cX7_reckon 281 = .ok (.aload_n 0, 1) := by decide +kernel
theorem dX7_reckon_282 : decode cX7_reckon 282 = .ok (.aload_n 0, 1) := by decide +kernel
theorem dX7_reckon_283 : decode cX7_reckon 283 = .ok (.getfield 15, 3) := by decide +kernel
theorem dX7_reckon_286 : decode cX7_reckon 286 = .ok (.iconst 0, 1) := by decide +kernel
theorem dX7_reckon_287 : decode cX7_reckon 287 = .ok (.iaload, 1) := by decide +kernel
theorem dX7_reckon_288 : decode cX7_reckon 288 = .ok (.putfield 18, 3) := by decide +kernel
theorem dX7_reckon_291 : decode cX7_reckon 291 = .ok (.iconst 1, 1) := by decide +kernel
theorem dX7_reckon_292 : decode cX7_reckon 292 = .ok (.ireturn, 1) := by decide +kernel
theorem dX7_factAt_0 : decode cX7_factAt 0 = .ok (.iload_n 1, 1) := by decide +kernel
theorem dX7_factAt_1 : decode cX7_factAt 1 = .ok (.ifCond .lt 18, 3) := by decide +kernel
theorem dX7_factAt_4 : decode cX7_factAt 4 = .ok (.iload_n 1, 1) := by decide +kernel
theorem dX7_factAt_5 : decode cX7_factAt 5 = .ok (.bipush 37, 2) := by decide +kernel
theorem dX7_factAt_7 : decode cX7_factAt 7 = .ok (.if_icmp .ge 12, 3) := by decide +kernel
theorem dX7_factAt_10 : decode cX7_factAt 10 = .ok (.aload_n 0, 1) := by decide +kernel
theorem dX7_factAt_11 : decode cX7_factAt 11 = .ok (.getfield 9, 3) := by decide +kernel
theorem dX7_factAt_14 : decode cX7_factAt 14 = .ok (.iload_n 1, 1) := by decide +kernel
theorem dX7_factAt_15 : decode cX7_factAt 15 = .ok (.iaload, 1) := by decide +kernel
theorem dX7_factAt_16 : decode cX7_factAt 16 = .ok (.goto 4, 3) := by decide +kernel
theorem dX7_factAt_19 : decode cX7_factAt 19 = .ok (.iconst (-1), 1) := by decide +kernel
theorem dX7_factAt_20 : decode cX7_factAt 20 = .ok (.ireturn, 1) := by decide +kernel
theorem dX7_join_0 : decode cX7_join 0 = .ok (.iload_n 0, 1) := by decide +kernel
theorem dX7_join_1 : decode cX7_join 1 = .ok (.tableswitch 111 2 8 #[43, 47, 51, 55, 71, 87, 99], 43) := by decide +kernel
theorem dX7_join_44 : decode cX7_join 44 = .ok (.lload_n 1, 1) := by decide +kernel
theorem dX7_join_45 : decode cX7_join 45 = .ok (.lload_n 3, 1) := by decide +kernel
theorem dX7_join_46 : decode cX7_join 46 = .ok (.ladd, 1) := by decide +kernel
theorem dX7_join_47 : decode cX7_join 47 = .ok (.lreturn, 1) := by decide +kernel
theorem dX7_join_48 : decode cX7_join 48 = .ok (.lload_n 1, 1) := by decide +kernel
theorem dX7_join_49 : decode cX7_join 49 = .ok (.lload_n 3, 1) := by decide +kernel
theorem dX7_join_50 : decode cX7_join 50 = .ok (.lsub, 1) := by decide +kernel
theorem dX7_join_51 : decode cX7_join 51 = .ok (.lreturn, 1) := by decide +kernel
theorem dX7_join_52 : decode cX7_join 52 = .ok (.lload_n 1, 1) := by decide +kernel
theorem dX7_join_53 : decode cX7_join 53 = .ok (.lload_n 3, 1) := by decide +kernel
theorem dX7_join_54 : decode cX7_join 54 = .ok (.lmul, 1) := by decide +kernel
theorem dX7_join_55 : decode cX7_join 55 = .ok (.lreturn, 1) := by decide +kernel
theorem dX7_join_56 : decode cX7_join 56 = .ok (.lload_n 3, 1) := by decide +kernel
theorem dX7_join_57 : decode cX7_join 57 = .ok (.lconst 0, 1) := by decide +kernel
theorem dX7_join_58 : decode cX7_join 58 = .ok (.lcmp, 1) := by decide +kernel
theorem dX7_join_59 : decode cX7_join 59 = .ok (.ifCond .ne 9, 3) := by decide +kernel
theorem dX7_join_62 : decode cX7_join 62 = .ok (.ldc2_w 51, 3) := by decide +kernel
theorem dX7_join_65 : decode cX7_join 65 = .ok (.goto 6, 3) := by decide +kernel
theorem dX7_join_68 : decode cX7_join 68 = .ok (.lload_n 1, 1) := by decide +kernel
theorem dX7_join_69 : decode cX7_join 69 = .ok (.lload_n 3, 1) := by decide +kernel
theorem dX7_join_70 : decode cX7_join 70 = .ok (.ldiv, 1) := by decide +kernel
theorem dX7_join_71 : decode cX7_join 71 = .ok (.lreturn, 1) := by decide +kernel
theorem dX7_join_72 : decode cX7_join 72 = .ok (.lload_n 3, 1) := by decide +kernel
theorem dX7_join_73 : decode cX7_join 73 = .ok (.lconst 0, 1) := by decide +kernel
theorem dX7_join_74 : decode cX7_join 74 = .ok (.lcmp, 1) := by decide +kernel
theorem dX7_join_75 : decode cX7_join 75 = .ok (.ifCond .ne 9, 3) := by decide +kernel
theorem dX7_join_78 : decode cX7_join 78 = .ok (.ldc2_w 51, 3) := by decide +kernel
theorem dX7_join_81 : decode cX7_join 81 = .ok (.goto 6, 3) := by decide +kernel
theorem dX7_join_84 : decode cX7_join 84 = .ok (.lload_n 1, 1) := by decide +kernel
theorem dX7_join_85 : decode cX7_join 85 = .ok (.lload_n 3, 1) := by decide +kernel
theorem dX7_join_86 : decode cX7_join 86 = .ok (.lrem, 1) := by decide +kernel
theorem dX7_join_87 : decode cX7_join 87 = .ok (.lreturn, 1) := by decide +kernel
theorem dX7_join_88 : decode cX7_join 88 = .ok (.lload_n 1, 1) := by decide +kernel
theorem dX7_join_89 : decode cX7_join 89 = .ok (.lload_n 3, 1) := by decide +kernel
theorem dX7_join_90 : decode cX7_join 90 = .ok (.lcmp, 1) := by decide +kernel
theorem dX7_join_91 : decode cX7_join 91 = .ok (.ifCond .ge 7, 3) := by decide +kernel
theorem dX7_join_94 : decode cX7_join 94 = .ok (.lconst 1, 1) := by decide +kernel
theorem dX7_join_95 : decode cX7_join 95 = .ok (.goto 4, 3) := by decide +kernel
theorem dX7_join_98 : decode cX7_join 98 = .ok (.lconst 0, 1) := by decide +kernel
theorem dX7_join_99 : decode cX7_join 99 = .ok (.lreturn, 1) := by decide +kernel
theorem dX7_join_100 : decode cX7_join 100 = .ok (.lload_n 1, 1) := by decide +kernel
theorem dX7_join_101 : decode cX7_join 101 = .ok (.lload_n 3, 1) := by decide +kernel
theorem dX7_join_102 : decode cX7_join 102 = .ok (.lcmp, 1) := by decide +kernel
theorem dX7_join_103 : decode cX7_join 103 = .ok (.ifCond .le 7, 3) := by decide +kernel
theorem dX7_join_106 : decode cX7_join 106 = .ok (.lconst 1, 1) := by decide +kernel
theorem dX7_join_107 : decode cX7_join 107 = .ok (.goto 4, 3) := by decide +kernel
theorem dX7_join_110 : decode cX7_join 110 = .ok (.lconst 0, 1) := by decide +kernel
theorem dX7_join_111 : decode cX7_join 111 = .ok (.lreturn, 1) := by decide +kernel
theorem dX7_join_112 : decode cX7_join 112 = .ok (.lload_n 1, 1) := by decide +kernel
theorem dX7_join_113 : decode cX7_join 113 = .ok (.lload_n 3, 1) := by decide +kernel
theorem dX7_join_114 : decode cX7_join 114 = .ok (.lcmp, 1) := by decide +kernel
theorem dX7_join_115 : decode cX7_join 115 = .ok (.ifCond .ne 7, 3) := by decide +kernel
theorem dX7_join_118 : decode cX7_join 118 = .ok (.lconst 1, 1) := by decide +kernel
theorem dX7_join_119 : decode cX7_join 119 = .ok (.goto 4, 3) := by decide +kernel
theorem dX7_join_122 : decode cX7_join 122 = .ok (.lconst 0, 1) := by decide +kernel
theorem dX7_join_123 : decode cX7_join 123 = .ok (.lreturn, 1) := by decide +kernel
theorem dX8_init_0 : decode cX8_init 0 = .ok (.aload_n 0, 1) := by decide +kernel
theorem dX8_init_1 : decode cX8_init 1 = .ok (.invokespecial 3, 3) := by decide +kernel
theorem dX8_init_4 : decode cX8_init 4 = .ok (.aload_n 0, 1) := by decide +kernel
theorem dX8_init_5 : decode cX8_init 5 = .ok (.bipush 16, 2) := by decide +kernel
theorem dX8_init_7 : decode cX8_init 7 = .ok (.newarray .int, 2) := by decide +kernel
theorem dX8_init_9 : decode cX8_init 9 = .ok (.putfield 9, 3) := by decide +kernel
theorem dX8_init_12 : decode cX8_init 12 = .ok (.aload_n 0, 1) := by decide +kernel
theorem dX8_init_13 : decode cX8_init 13 = .ok (.bipush 16, 2) := by decide +kernel
theorem dX8_init_15 : decode cX8_init 15 = .ok (.newarray .int, 2) := by decide +kernel
theorem dX8_init_17 : decode cX8_init 17 = .ok (.putfield 15, 3) := by decide +kernel
theorem dX8_init_20 : decode cX8_init 20 = .ok (.aload_n 0, 1) := by decide +kernel
theorem dX8_init_21 : decode cX8_init 21 = .ok (.bipush 18, 2) := by decide +kernel
theorem dX8_init_23 : decode cX8_init 23 = .ok (.newarray .int, 2) := by decide +kernel
theorem dX8_init_25 : decode cX8_init 25 = .ok (.putfield 18, 3) := by decide +kernel
theorem dX8_init_28 : decode cX8_init 28 = .ok (.aload_n 0, 1) := by decide +kernel
theorem dX8_init_29 : decode cX8_init 29 = .ok (.bipush 6, 2) := by decide +kernel
theorem dX8_init_31 : decode cX8_init 31 = .ok (.newarray .int, 2) := by decide +kernel
theorem dX8_init_33 : decode cX8_init 33 = .ok (.putfield 21, 3) := by decide +kernel
theorem dX8_init_36 : decode cX8_init 36 = .ok (.aload_n 0, 1) := by decide +kernel
theorem dX8_init_37 : decode cX8_init 37 = .ok (.bipush 6, 2) := by decide +kernel
theorem dX8_init_39 : decode cX8_init 39 = .ok (.newarray .int, 2) := by decide +kernel
theorem dX8_init_41 : decode cX8_init 41 = .ok (.putfield 24, 3) := by decide +kernel
theorem dX8_init_44 : decode cX8_init 44 = .ok (.aload_n 0, 1) := by decide +kernel
theorem dX8_init_45 : decode cX8_init 45 = .ok (.sipush 144, 3) := by decide +kernel
theorem dX8_init_48 : decode cX8_init 48 = .ok (.newarray .long, 2) := by decide +kernel
theorem dX8_init_50 : decode cX8_init 50 = .ok (.putfield 27, 3) := by decide +kernel
theorem dX8_init_53 : decode cX8_init 53 = .ok (.aload_n 0, 1) := by decide +kernel
theorem dX8_init_54 : decode cX8_init 54 = .ok (.bipush 24, 2) := by decide +kernel
theorem dX8_init_56 : decode cX8_init 56 = .ok (.newarray .int, 2) := by decide +kernel
theorem dX8_init_58 : decode cX8_init 58 = .ok (.putfield 31, 3) := by decide +kernel
theorem dX8_init_61 : decode cX8_init 61 = .ok (.aload_n 0, 1) := by decide +kernel
theorem dX8_init_62 : decode cX8_init 62 = .ok (.iconst 0, 1) := by decide +kernel
theorem dX8_init_63 : decode cX8_init 63 = .ok (.putfield 34, 3) := by decide +kernel
theorem dX8_init_66 : decode cX8_init 66 = .ok (.aload_n 0, 1) := by decide +kernel
theorem dX8_init_67 : decode cX8_init 67 = .ok (.iconst 0, 1) := by decide +kernel
theorem dX8_init_68 : decode cX8_init 68 = .ok (.putfield 38, 3) := by decide +kernel
theorem dX8_init_71 : decode cX8_init 71 = .ok (.aload_n 0, 1) := by decide +kernel
theorem dX8_init_72 : decode cX8_init 72 = .ok (.iconst 0, 1) := by decide +kernel
theorem dX8_init_73 : decode cX8_init 73 = .ok (.putfield 41, 3) := by decide +kernel
theorem dX8_init_76 : decode cX8_init 76 = .ok (.aload_n 0, 1) := by decide +kernel
theorem dX8_init_77 : decode cX8_init 77 = .ok (.iconst 0, 1) := by decide +kernel
theorem dX8_init_78 : decode cX8_init 78 = .ok (.putfield 44, 3) := by decide +kernel
theorem dX8_init_81 : decode cX8_init 81 = .ok (.aload_n 0, 1) := by decide +kernel
theorem dX8_init_82 : decode cX8_init 82 = .ok (.iconst 0, 1) := by decide +kernel
theorem dX8_init_83 : decode cX8_init 83 = .ok (.putfield 47, 3) := by decide +kernel
theorem dX8_init_86 : decode cX8_init 86 = .ok (.aload_n 0, 1) := by decide +kernel
theorem dX8_init_87 : decode cX8_init 87 = .ok (.iconst 0, 1) := by decide +kernel
theorem dX8_init_88 : decode cX8_init 88 = .ok (.putfield 50, 3) := by decide +kernel
theorem dX8_init_91 : decode cX8_init 91 = .ok (.aload_n 0, 1) := by decide +kernel
theorem dX8_init_92 : decode cX8_init 92 = .ok (.iconst (-1), 1) := by decide +kernel
theorem dX8_init_93 : decode cX8_init 93 = .ok (.putfield 54, 3) := by decide +kernel
theorem dX8_init_96 : decode cX8_init 96 = .ok (.aload_n 0, 1) := by decide +kernel
theorem dX8_init_97 : decode cX8_init 97 = .ok (.ldc2_w 57, 3) := by decide +kernel
theorem dX8_init_100 : decode cX8_init 100 = .ok (.putfield 59, 3) := by decide +kernel
theorem dX8_init_103 : decode cX8_init 103 = .ok (.aload_n 0, 1) := by decide +kernel
theorem dX8_init_104 : decode cX8_init 104 = .ok (.iconst 0, 1) := by decide +kernel
theorem dX8_init_105 : decode cX8_init 105 = .ok (.putfield 63, 3) := by decide +kernel
theorem dX8_init_108 : decode cX8_init 108 = .ok (.aload_n 0, 1) := by decide +kernel
theorem dX8_init_109 : decode cX8_init 109 = .ok (.iconst (-1), 1) := by decide +kernel
theorem dX8_init_110 : decode cX8_init 110 = .ok (.putfield 66, 3) := by decide +kernel
theorem dX8_init_113 : decode cX8_init 113 = .ok (.aload_n 0, 1) := by decide +kernel
theorem dX8_init_114 : decode cX8_init 114 = .ok (.ldc2_w 57, 3) := by decide +kernel
theorem dX8_init_117 : decode cX8_init 117 = .ok (.putfield 69, 3) := by decide +kernel
theorem dX8_init_120 : decode cX8_init 120 = .ok (.aload_n 0, 1) := by decide +kernel
theorem dX8_init_121 : decode cX8_init 121 = .ok (.aload_n 1, 1) := by decide +kernel
theorem dX8_init_122 : decode cX8_init 122 = .ok (.putfield 72, 3) := by decide +kernel
theorem dX8_init_125 : decode cX8_init 125 = .ok (.aload_n 0, 1) := by decide +kernel
theorem dX8_init_126 : decode cX8_init 126 = .ok (.aload_n 2, 1) := by decide +kernel
theorem dX8_init_127 : decode cX8_init 127 = .ok (.putfield 76, 3) := by decide +kernel
theorem dX8_init_130 : decode cX8_init 130 = .ok (.return_, 1) := by decide +kernel
theorem dX8_solve_0 : decode cX8_solve 0 = .ok (.aload_n 0, 1) := by decide +kernel
theorem dX8_solve_1 : decode cX8_solve 1 = .ok (.getfield 54, 3) := by decide +kernel
theorem dX8_solve_4 : decode cX8_solve 4 = .ok (.iload_n 1, 1) := by decide +kernel
theorem dX8_solve_5 : decode cX8_solve 5 = .ok (.if_icmp .ne 4, 3) := by decide +kernel
theorem dX8_solve_8 : decode cX8_solve 8 = .ok (.return_, 1) := by decide +kernel
theorem dX8_solve_9 : decode cX8_solve 9 = .ok (.aload_n 0, 1) := by decide +kernel
theorem dX8_solve_10 : decode cX8_solve 10 = .ok (.iload_n 1, 1) := by decide +kernel
theorem dX8_solve_11 : decode cX8_solve 11 = .ok (.putfield 54, 3) := by decide +kernel
theorem dX8_solve_14 : decode cX8_solve 14 = .ok (.aload_n 0, 1) := by decide +kernel
theorem dX8_solve_15 : decode cX8_solve 15 = .ok (.aload_n 0, 1) := by decide +kernel
theorem dX8_solve_16 : decode cX8_solve 16 = .ok (.getfield 72, 3) := by decide +kernel
theorem dX8_solve_19 : decode cX8_solve 19 = .ok (.getfield 80, 3) := by decide +kernel
theorem dX8_solve_22 : decode cX8_solve 22 = .ok (.invokevirtual 85, 3) := by decide +kernel
theorem dX8_solve_25 : decode cX8_solve 25 = .ok (.aload_n 0, 1) := by decide +kernel
theorem dX8_solve_26 : decode cX8_solve 26 = .ok (.ldc2_w 57, 3) := by decide +kernel
theorem dX8_solve_29 : decode cX8_solve 29 = .ok (.putfield 59, 3) := by decide +kernel
theorem dX8_solve_32 : decode cX8_solve 32 = .ok (.aload_n 0, 1) := by decide +kernel
theorem dX8_solve_33 : decode cX8_solve 33 = .ok (.iconst 0, 1) := by decide +kernel
theorem dX8_solve_34 : decode cX8_solve 34 = .ok (.putfield 63, 3) := by decide +kernel
theorem dX8_solve_37 : decode cX8_solve 37 = .ok (.aload_n 0, 1) := by decide +kernel
theorem dX8_solve_38 : decode cX8_solve 38 = .ok (.iconst (-1), 1) := by decide +kernel
theorem dX8_solve_39 : decode cX8_solve 39 = .ok (.putfield 66, 3) := by decide +kernel
theorem dX8_solve_42 : decode cX8_solve 42 = .ok (.aload_n 0, 1) := by decide +kernel
theorem dX8_solve_43 : decode cX8_solve 43 = .ok (.invokevirtual 89, 3) := by decide +kernel
theorem dX8_solve_46 : decode cX8_solve 46 = .ok (.ifCond .ne 4, 3) := by decide +kernel
theorem dX8_solve_49 : decode cX8_solve 49 = .ok (.return_, 1) := by decide +kernel
theorem dX8_solve_50 : decode cX8_solve 50 = .ok (.aload_n 0, 1) := by decide +kernel
theorem dX8_solve_51 : decode cX8_solve 51 = .ok (.getfield 34, 3) := by decide +kernel
theorem dX8_solve_54 : decode cX8_solve 54 = .ok (.iconst 1, 1) := by decide +kernel
theorem dX8_solve_55 : decode cX8_solve 55 = .ok (.isub, 1) := by decide +kernel
theorem dX8_solve_56 : decode cX8_solve 56 = .ok (.istore_n 2, 1) := by decide +kernel
theorem dX8_solve_57 : decode cX8_solve 57 = .ok (.iload_n 2, 1) := by decide +kernel
theorem dX8_solve_58 : decode cX8_solve 58 = .ok (.ifCond .le 39, 3) := by decide +kernel
theorem dX8_solve_61 : decode cX8_solve 61 = .ok (.iconst 1, 1) := by decide +kernel
theorem dX8_solve_62 : decode cX8_solve 62 = .ok (.istore_n 3, 1) := by decide +kernel
theorem dX8_solve_63 : decode cX8_solve 63 = .ok (.iload_n 3, 1) := by decide +kernel
theorem dX8_solve_64 : decode cX8_solve 64 = .ok (.iload_n 2, 1) := by decide +kernel
theorem dX8_solve_65 : decode cX8_solve 65 = .ok (.if_icmp .gt 26, 3) := by decide +kernel
theorem dX8_solve_68 : decode cX8_solve 68 = .ok (.iload_n 3, 1) := by decide +kernel
theorem dX8_solve_69 : decode cX8_solve 69 = .ok (.aload_n 0, 1) := by decide +kernel
theorem dX8_solve_70 : decode cX8_solve 70 = .ok (.getfield 72, 3) := by decide +kernel
theorem dX8_solve_73 : decode cX8_solve 73 = .ok (.getfield 93, 3) := by decide +kernel
theorem dX8_solve_76 : decode cX8_solve 76 = .ok (.if_icmp .ge 15, 3) := by decide +kernel
theorem dX8_solve_79 : decode cX8_solve 79 = .ok (.aload_n 0, 1) := by decide +kernel
theorem dX8_solve_80 : decode cX8_solve 80 = .ok (.iload_n 2, 1) := by decide +kernel
theorem dX8_solve_81 : decode cX8_solve 81 = .ok (.iload_n 3, 1) := by decide +kernel
theorem dX8_solve_82 : decode cX8_solve 82 = .ok (.invokevirtual 96, 3) := by decide +kernel
theorem dX8_solve_85 : decode cX8_solve 85 = .ok (.iinc 3 1, 3) := by decide +kernel
theorem dX8_solve_88 : decode cX8_solve 88 = .ok (.goto (-25), 3) := by decide +kernel
theorem dX8_solve_91 : decode cX8_solve 91 = .ok (.iinc 2 (-1), 3) := by decide +kernel
theorem dX8_solve_94 : decode cX8_solve 94 = .ok (.goto (-37), 3) := by decide +kernel
theorem dX8_solve_97 : decode cX8_solve 97 = .ok (.aload_n 0, 1) := by decide +kernel
theorem dX8_solve_98 : decode cX8_solve 98 = .ok (.iconst 0, 1) := by decide +kernel
theorem dX8_solve_99 : decode cX8_solve 99 = .ok (.iconst 0, 1) := by decide +kernel
theorem dX8_solve_100 : decode cX8_solve 100 = .ok (.invokevirtual 96, 3) := by decide +kernel
theorem dX8_solve_103 : decode cX8_solve 103 = .ok (.aload_n 0, 1) := by decide +kernel
theorem dX8_solve_104 : decode cX8_solve 104 = .ok (.aload_n 0, 1) := by decide +kernel
theorem dX8_solve_105 : decode cX8_solve 105 = .ok (.getfield 31, 3) := by decide +kernel
theorem dX8_solve_108 : decode cX8_solve 108 = .ok (.iconst 0, 1) := by decide +kernel
