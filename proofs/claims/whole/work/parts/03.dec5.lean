theorem dX12_truest_116 : decode cX12_truest 116 = .ok (.aload_n 0, 1) := by decide +kernel
theorem dX12_truest_117 : decode cX12_truest 117 = .ok (.getfield 74, 3) := by decide +kernel
theorem dX12_truest_120 : decode cX12_truest 120 = .ok (.iload 10, 2) := by decide +kernel
theorem dX12_truest_122 : decode cX12_truest 122 = .ok (.iaload, 1) := by decide +kernel
theorem dX12_truest_123 : decode cX12_truest 123 = .ok (.iconst 2, 1) := by decide +kernel
theorem dX12_truest_124 : decode cX12_truest 124 = .ok (.invokevirtual 120, 3) := by decide +kernel
theorem dX12_truest_127 : decode cX12_truest 127 = .ok (.i2l, 1) := by decide +kernel
theorem dX12_truest_128 : decode cX12_truest 128 = .ok (.lmul, 1) := by decide +kernel
theorem dX12_truest_129 : decode cX12_truest 129 = .ok (.lstore 8, 2) := by decide +kernel
theorem dX12_truest_131 : decode cX12_truest 131 = .ok (.iinc 10 1, 3) := by decide +kernel
theorem dX12_truest_134 : decode cX12_truest 134 = .ok (.goto (-30), 3) := by decide +kernel
theorem dX12_truest_137 : decode cX12_truest 137 = .ok (.lload 8, 2) := by decide +kernel
theorem dX12_truest_139 : decode cX12_truest 139 = .ok (.lload_n 3, 1) := by decide +kernel
theorem dX12_truest_140 : decode cX12_truest 140 = .ok (.lcmp, 1) := by decide +kernel
theorem dX12_truest_141 : decode cX12_truest 141 = .ok (.ifCond .gt 6, 3) := by decide +kernel
theorem dX12_truest_144 : decode cX12_truest 144 = .ok (.goto 9, 3) := by decide +kernel
theorem dX12_truest_147 : decode cX12_truest 147 = .ok (.lload 8, 2) := by decide +kernel
theorem dX12_truest_149 : decode cX12_truest 149 = .ok (.lstore_n 3, 1) := by decide +kernel
theorem dX12_truest_150 : decode cX12_truest 150 = .ok (.iload 7, 2) := by decide +kernel
theorem dX12_truest_152 : decode cX12_truest 152 = .ok (.istore_n 2, 1) := by decide +kernel
theorem dX12_truest_153 : decode cX12_truest 153 = .ok (.iinc 7 1, 3) := by decide +kernel
theorem dX12_truest_156 : decode cX12_truest 156 = .ok (.goto (-94), 3) := by decide +kernel
theorem dX12_truest_159 : decode cX12_truest 159 = .ok (.iload_n 2, 1) := by decide +kernel
theorem dX12_truest_160 : decode cX12_truest 160 = .ok (.iconst (-1), 1) := by decide +kernel
theorem dX12_truest_161 : decode cX12_truest 161 = .ok (.if_icmp .ne 5, 3) := by decide +kernel
theorem dX12_truest_164 : decode cX12_truest 164 = .ok (.iconst (-1), 1) := by decide +kernel
theorem dX12_truest_165 : decode cX12_truest 165 = .ok (.ireturn, 1) := by decide +kernel
theorem dX12_truest_166 : decode cX12_truest 166 = .ok (.iload_n 1, 1) := by decide +kernel
theorem dX12_truest_167 : decode cX12_truest 167 = .ok (.iconst 2, 1) := by decide +kernel
theorem dX12_truest_168 : decode cX12_truest 168 = .ok (.if_icmp .le 10, 3) := by decide +kernel
theorem dX12_truest_171 : decode cX12_truest 171 = .ok (.aload_n 0, 1) := by decide +kernel
theorem dX12_truest_172 : decode cX12_truest 172 = .ok (.iload_n 2, 1) := by decide +kernel
theorem dX12_truest_173 : decode cX12_truest 173 = .ok (.iload_n 1, 1) := by decide +kernel
theorem dX12_truest_174 : decode cX12_truest 174 = .ok (.invokevirtual 360, 3) := by decide +kernel
theorem dX12_truest_177 : decode cX12_truest 177 = .ok (.ireturn, 1) := by decide +kernel
theorem dX12_truest_178 : decode cX12_truest 178 = .ok (.aload_n 0, 1) := by decide +kernel
theorem dX12_truest_179 : decode cX12_truest 179 = .ok (.iload_n 2, 1) := by decide +kernel
theorem dX12_truest_180 : decode cX12_truest 180 = .ok (.invokevirtual 348, 3) := by decide +kernel
theorem dX12_truest_183 : decode cX12_truest 183 = .ok (.pop, 1) := by decide +kernel
theorem dX12_truest_184 : decode cX12_truest 184 = .ok (.iload_n 1, 1) := by decide +kernel
theorem dX12_truest_185 : decode cX12_truest 185 = .ok (.iconst 2, 1) := by decide +kernel
theorem dX12_truest_186 : decode cX12_truest 186 = .ok (.if_icmp .ne 10, 3) := by decide +kernel
theorem dX12_truest_189 : decode cX12_truest 189 = .ok (.aload_n 0, 1) := by decide +kernel
theorem dX12_truest_190 : decode cX12_truest 190 = .ok (.invokevirtual 357, 3) := by decide +kernel
theorem dX12_truest_193 : decode cX12_truest 193 = .ok (.goto 21, 3) := by decide +kernel
theorem dX12_truest_196 : decode cX12_truest 196 = .ok (.iload_n 1, 1) := by decide +kernel
theorem dX12_truest_197 : decode cX12_truest 197 = .ok (.ifCond .ne 7, 3) := by decide +kernel
theorem dX12_truest_200 : decode cX12_truest 200 = .ok (.lload_n 3, 1) := by decide +kernel
theorem dX12_truest_201 : decode cX12_truest 201 = .ok (.goto 5, 3) := by decide +kernel
theorem dX12_truest_204 : decode cX12_truest 204 = .ok (.lload 5, 2) := by decide +kernel
theorem dX12_truest_206 : decode cX12_truest 206 = .ok (.lload_n 3, 1) := by decide +kernel
theorem dX12_truest_207 : decode cX12_truest 207 = .ok (.lload 5, 2) := by decide +kernel
theorem dX12_truest_209 : decode cX12_truest 209 = .ok (.invokestatic 370, 3) := by decide +kernel
theorem dX12_truest_212 : decode cX12_truest 212 = .ok (.ldiv, 1) := by decide +kernel
theorem dX12_truest_213 : decode cX12_truest 213 = .ok (.l2i, 1) := by decide +kernel
theorem dX12_truest_214 : decode cX12_truest 214 = .ok (.ireturn, 1) := by decide +kernel
theorem dX12_narrowestOf_0 : decode cX12_narrowestOf 0 = .ok (.iconst (-1), 1) := by decide +kernel
theorem dX12_narrowestOf_1 : decode cX12_narrowestOf 1 = .ok (.istore_n 2, 1) := by decide +kernel
theorem dX12_narrowestOf_2 : decode cX12_narrowestOf 2 = .ok (.iconst 0, 1) := by decide +kernel
theorem dX12_narrowestOf_3 : decode cX12_narrowestOf 3 = .ok (.istore_n 3, 1) := by decide +kernel
theorem dX12_narrowestOf_4 : decode cX12_narrowestOf 4 = .ok (.iload_n 3, 1) := by decide +kernel
theorem dX12_narrowestOf_5 : decode cX12_narrowestOf 5 = .ok (.aload_n 0, 1) := by decide +kernel
theorem dX12_narrowestOf_6 : decode cX12_narrowestOf 6 = .ok (.getfield 24, 3) := by decide +kernel
theorem dX12_narrowestOf_9 : decode cX12_narrowestOf 9 = .ok (.sipush 316, 3) := by decide +kernel
theorem dX12_narrowestOf_12 : decode cX12_narrowestOf 12 = .ok (.iaload, 1) := by decide +kernel
theorem dX12_narrowestOf_13 : decode cX12_narrowestOf 13 = .ok (.if_icmp .ge 71, 3) := by decide +kernel
theorem dX12_narrowestOf_16 : decode cX12_narrowestOf 16 = .ok (.aload_n 0, 1) := by decide +kernel
theorem dX12_narrowestOf_17 : decode cX12_narrowestOf 17 = .ok (.iload_n 3, 1) := by decide +kernel
theorem dX12_narrowestOf_18 : decode cX12_narrowestOf 18 = .ok (.iconst 0, 1) := by decide +kernel
theorem dX12_narrowestOf_19 : decode cX12_narrowestOf 19 = .ok (.invokevirtual 120, 3) := by decide +kernel
theorem dX12_narrowestOf_22 : decode cX12_narrowestOf 22 = .ok (.iload_n 1, 1) := by decide +kernel
theorem dX12_narrowestOf_23 : decode cX12_narrowestOf 23 = .ok (.if_icmp .ne 55, 3) := by decide +kernel
theorem dX12_narrowestOf_26 : decode cX12_narrowestOf 26 = .ok (.aload_n 0, 1) := by decide +kernel
theorem dX12_narrowestOf_27 : decode cX12_narrowestOf 27 = .ok (.iload_n 3, 1) := by decide +kernel
theorem dX12_narrowestOf_28 : decode cX12_narrowestOf 28 = .ok (.aload_n 0, 1) := by decide +kernel
theorem dX12_narrowestOf_29 : decode cX12_narrowestOf 29 = .ok (.getfield 24, 3) := by decide +kernel
theorem dX12_narrowestOf_32 : decode cX12_narrowestOf 32 = .ok (.sipush 315, 3) := by decide +kernel
theorem dX12_narrowestOf_35 : decode cX12_narrowestOf 35 = .ok (.iaload, 1) := by decide +kernel
theorem dX12_narrowestOf_36 : decode cX12_narrowestOf 36 = .ok (.invokevirtual 137, 3) := by decide +kernel
theorem dX12_narrowestOf_39 : decode cX12_narrowestOf 39 = .ok (.ifCond .ne 39, 3) := by decide +kernel
theorem dX12_narrowestOf_42 : decode cX12_narrowestOf 42 = .ok (.iload_n 2, 1) := by decide +kernel
theorem dX12_narrowestOf_43 : decode cX12_narrowestOf 43 = .ok (.iconst (-1), 1) := by decide +kernel
theorem dX12_narrowestOf_44 : decode cX12_narrowestOf 44 = .ok (.if_icmp .eq 32, 3) := by decide +kernel
theorem dX12_narrowestOf_47 : decode cX12_narrowestOf 47 = .ok (.aload_n 0, 1) := by decide +kernel
theorem dX12_narrowestOf_48 : decode cX12_narrowestOf 48 = .ok (.iload_n 3, 1) := by decide +kernel
theorem dX12_narrowestOf_49 : decode cX12_narrowestOf 49 = .ok (.aload_n 0, 1) := by decide +kernel
theorem dX12_narrowestOf_50 : decode cX12_narrowestOf 50 = .ok (.getfield 24, 3) := by decide +kernel
theorem dX12_narrowestOf_53 : decode cX12_narrowestOf 53 = .ok (.sipush 315, 3) := by decide +kernel
theorem dX12_narrowestOf_56 : decode cX12_narrowestOf 56 = .ok (.iaload, 1) := by decide +kernel
theorem dX12_narrowestOf_57 : decode cX12_narrowestOf 57 = .ok (.invokevirtual 131, 3) := by decide +kernel
theorem dX12_narrowestOf_60 : decode cX12_narrowestOf 60 = .ok (.aload_n 0, 1) := by decide +kernel
theorem dX12_narrowestOf_61 : decode cX12_narrowestOf 61 = .ok (.iload_n 2, 1) := by decide +kernel
theorem dX12_narrowestOf_62 : decode cX12_narrowestOf 62 = .ok (.aload_n 0, 1) := by decide +kernel
theorem dX12_narrowestOf_63 : decode cX12_narrowestOf 63 = .ok (.getfield 24, 3) := by decide +kernel
theorem dX12_narrowestOf_66 : decode cX12_narrowestOf 66 = .ok (.sipush 315, 3) := by decide +kernel
theorem dX12_narrowestOf_69 : decode cX12_narrowestOf 69 = .ok (.iaload, 1) := by decide +kernel
theorem dX12_narrowestOf_70 : decode cX12_narrowestOf 70 = .ok (.invokevirtual 131, 3) := by decide +kernel
theorem dX12_narrowestOf_73 : decode cX12_narrowestOf 73 = .ok (.if_icmp .ge 5, 3) := by decide +kernel
theorem dX12_narrowestOf_76 : decode cX12_narrowestOf 76 = .ok (.iload_n 3, 1) := by decide +kernel
theorem dX12_narrowestOf_77 : decode cX12_narrowestOf 77 = .ok (.istore_n 2, 1) := by decide +kernel
theorem dX12_narrowestOf_78 : decode cX12_narrowestOf 78 = .ok (.iinc 3 1, 3) := by decide +kernel
theorem dX12_narrowestOf_81 : decode cX12_narrowestOf 81 = .ok (.goto (-77), 3) := by decide +kernel
theorem dX12_narrowestOf_84 : decode cX12_narrowestOf 84 = .ok (.iload_n 2, 1) := by decide +kernel
theorem dX12_narrowestOf_85 : decode cX12_narrowestOf 85 = .ok (.ireturn, 1) := by decide +kernel
theorem dX12_says_0 : decode cX12_says 0 = .ok (.iload_n 1, 1) := by decide +kernel
theorem dX12_says_1 : decode cX12_says 1 = .ok (.iconst 1, 1) := by decide +kernel
theorem dX12_says_2 : decode cX12_says 2 = .ok (.sipush 400, 3) := by decide +kernel
theorem dX12_says_5 : decode cX12_says 5 = .ok (.invokestatic 101, 3) := by decide +kernel
theorem dX12_says_8 : decode cX12_says 8 = .ok (.ifCond .eq 12, 3) := by decide +kernel
theorem dX12_says_11 : decode cX12_says 11 = .ok (.iload_n 2, 1) := by decide +kernel
theorem dX12_says_12 : decode cX12_says 12 = .ok (.iconst 0, 1) := by decide +kernel
theorem dX12_says_13 : decode cX12_says 13 = .ok (.iconst 2, 1) := by decide +kernel
theorem dX12_says_14 : decode cX12_says 14 = .ok (.invokestatic 101, 3) := by decide +kernel
theorem dX12_says_17 : decode cX12_says 17 = .ok (.ifCond .ne 5, 3) := by decide +kernel
theorem dX12_says_20 : decode cX12_says 20 = .ok (.iconst (-1), 1) := by decide +kernel
theorem dX12_says_21 : decode cX12_says 21 = .ok (.ireturn, 1) := by decide +kernel
theorem dX12_says_22 : decode cX12_says 22 = .ok (.iconst 0, 1) := by decide +kernel
theorem dX12_says_23 : decode cX12_says 23 = .ok (.istore_n 3, 1) := by decide +kernel
theorem dX12_says_24 : decode cX12_says 24 = .ok (.iload_n 3, 1) := by decide +kernel
theorem dX12_says_25 : decode cX12_says 25 = .ok (.aload_n 0, 1) := by decide +kernel
theorem dX12_says_26 : decode cX12_says 26 = .ok (.invokevirtual 333, 3) := by decide +kernel
theorem dX12_says_29 : decode cX12_says 29 = .ok (.if_icmp .ge 29, 3) := by decide +kernel
theorem dX12_says_32 : decode cX12_says 32 = .ok (.aload_n 0, 1) := by decide +kernel
theorem dX12_says_33 : decode cX12_says 33 = .ok (.getfield 74, 3) := by decide +kernel
theorem dX12_says_36 : decode cX12_says 36 = .ok (.iload_n 3, 1) := by decide +kernel
theorem dX12_says_37 : decode cX12_says 37 = .ok (.aload_n 0, 1) := by decide +kernel
theorem dX12_says_38 : decode cX12_says 38 = .ok (.aload_n 0, 1) := by decide +kernel
theorem dX12_says_39 : decode cX12_says 39 = .ok (.getfield 24, 3) := by decide +kernel
theorem dX12_says_42 : decode cX12_says 42 = .ok (.sipush 269, 3) := by decide +kernel
theorem dX12_says_45 : decode cX12_says 45 = .ok (.iload_n 3, 1) := by decide +kernel
theorem dX12_says_46 : decode cX12_says 46 = .ok (.iadd, 1) := by decide +kernel
theorem dX12_says_47 : decode cX12_says 47 = .ok (.iaload, 1) := by decide +kernel
theorem dX12_says_48 : decode cX12_says 48 = .ok (.invokevirtual 374, 3) := by decide +kernel
theorem dX12_says_51 : decode cX12_says 51 = .ok (.iastore, 1) := by decide +kernel
theorem dX12_says_52 : decode cX12_says 52 = .ok (.iinc 3 1, 3) := by decide +kernel
theorem dX12_says_55 : decode cX12_says 55 = .ok (.goto (-31), 3) := by decide +kernel
theorem dX12_says_58 : decode cX12_says 58 = .ok (.iconst 0, 1) := by decide +kernel
theorem dX12_says_59 : decode cX12_says 59 = .ok (.istore_n 3, 1) := by decide +kernel
theorem dX12_says_60 : decode cX12_says 60 = .ok (.iconst 0, 1) := by decide +kernel
theorem dX12_says_61 : decode cX12_says 61 = .ok (.istore 4, 2) := by decide +kernel
theorem dX12_says_63 : decode cX12_says 63 = .ok (.iconst 0, 1) := by decide +kernel
theorem dX12_says_64 : decode cX12_says 64 = .ok (.istore 5, 2) := by decide +kernel
theorem dX12_says_66 : decode cX12_says 66 = .ok (.iconst 1, 1) := by decide +kernel
theorem dX12_says_67 : decode cX12_says 67 = .ok (.istore 6, 2) := by decide +kernel
theorem dX12_says_69 : decode cX12_says 69 = .ok (.iload 6, 2) := by decide +kernel
theorem dX12_says_71 : decode cX12_says 71 = .ok (.iconst 1, 1) := by decide +kernel
theorem dX12_says_72 : decode cX12_says 72 = .ok (.aload_n 0, 1) := by decide +kernel
theorem dX12_says_73 : decode cX12_says 73 = .ok (.invokevirtual 333, 3) := by decide +kernel
theorem dX12_says_76 : decode cX12_says 76 = .ok (.ishl, 1) := by decide +kernel
theorem dX12_says_77 : decode cX12_says 77 = .ok (.if_icmp .ge 190, 3) := by decide +kernel
theorem dX12_says_80 : decode cX12_says 80 = .ok (.aload_n 0, 1) := by decide +kernel
theorem dX12_says_81 : decode cX12_says 81 = .ok (.bipush 26, 2) := by decide +kernel
theorem dX12_says_83 : decode cX12_says 83 = .ok (.aload_n 0, 1) := by decide +kernel
theorem dX12_says_84 : decode cX12_says 84 = .ok (.getfield 24, 3) := by decide +kernel
theorem dX12_says_87 : decode cX12_says 87 = .ok (.sipush 315, 3) := by decide +kernel
theorem dX12_says_90 : decode cX12_says 90 = .ok (.iaload, 1) := by decide +kernel
theorem dX12_says_91 : decode cX12_says 91 = .ok (.invokevirtual 124, 3) := by decide +kernel
theorem dX12_says_94 : decode cX12_says 94 = .ok (.ineg, 1) := by decide +kernel
theorem dX12_says_95 : decode cX12_says 95 = .ok (.istore 7, 2) := by decide +kernel
theorem dX12_says_97 : decode cX12_says 97 = .ok (.iconst 0, 1) := by decide +kernel
theorem dX12_says_98 : decode cX12_says 98 = .ok (.istore 8, 2) := by decide +kernel
theorem dX12_says_100 : decode cX12_says 100 = .ok (.iconst 1, 1) := by decide +kernel
theorem dX12_says_101 : decode cX12_says 101 = .ok (.istore 9, 2) := by decide +kernel
theorem dX12_says_103 : decode cX12_says 103 = .ok (.iconst 0, 1) := by decide +kernel
theorem dX12_says_104 : decode cX12_says 104 = .ok (.istore 10, 2) := by decide +kernel
theorem dX12_says_106 : decode cX12_says 106 = .ok (.iload 10, 2) := by decide +kernel
theorem dX12_says_108 : decode cX12_says 108 = .ok (.aload_n 0, 1) := by decide +kernel
theorem dX12_says_109 : decode cX12_says 109 = .ok (.invokevirtual 333, 3) := by decide +kernel
theorem dX12_says_112 : decode cX12_says 112 = .ok (.if_icmp .ge 117, 3) := by decide +kernel
theorem dX12_says_115 : decode cX12_says 115 = .ok (.iload 9, 2) := by decide +kernel
theorem dX12_says_117 : decode cX12_says 117 = .ok (.ifCond .eq 112, 3) := by decide +kernel
theorem dX12_says_120 : decode cX12_says 120 = .ok (.iload 6, 2) := by decide +kernel
theorem dX12_says_122 : decode cX12_says 122 = .ok (.iload 10, 2) := by decide +kernel
theorem dX12_says_124 : decode cX12_says 124 = .ok (.invokestatic 377, 3) := by decide +kernel
theorem dX12_says_127 : decode cX12_says 127 = .ok (.ifCond .ne 6, 3) := by decide +kernel
theorem dX12_says_130 : decode cX12_says 130 = .ok (.goto 93, 3) := by decide +kernel
theorem dX12_says_133 : decode cX12_says 133 = .ok (.aload_n 0, 1) := by decide +kernel
theorem dX12_says_134 : decode cX12_says 134 = .ok (.getfield 74, 3) := by decide +kernel
theorem dX12_says_137 : decode cX12_says 137 = .ok (.iload 10, 2) := by decide +kernel
theorem dX12_says_139 : decode cX12_says 139 = .ok (.iaload, 1) := by decide +kernel
theorem dX12_says_140 : decode cX12_says 140 = .ok (.iconst (-1), 1) := by decide +kernel
theorem dX12_says_141 : decode cX12_says 141 = .ok (.if_icmp .eq 7, 3) := by decide +kernel
theorem dX12_says_144 : decode cX12_says 144 = .ok (.iconst 1, 1) := by decide +kernel
theorem dX12_says_145 : decode cX12_says 145 = .ok (.goto 4, 3) := by decide +kernel
theorem dX12_says_148 : decode cX12_says 148 = .ok (.iconst 0, 1) := by decide +kernel
theorem dX12_says_149 : decode cX12_says 149 = .ok (.istore 9, 2) := by decide +kernel
theorem dX12_says_151 : decode cX12_says 151 = .ok (.iload 9, 2) := by decide +kernel
theorem dX12_says_153 : decode cX12_says 153 = .ok (.ifCond .ne 6, 3) := by decide +kernel
theorem dX12_says_156 : decode cX12_says 156 = .ok (.goto 67, 3) := by decide +kernel
theorem dX12_says_159 : decode cX12_says 159 = .ok (.iload 7, 2) := by decide +kernel
theorem dX12_says_161 : decode cX12_says 161 = .ok (.aload_n 0, 1) := by decide +kernel
theorem dX12_says_162 : decode cX12_says 162 = .ok (.aload_n 0, 1) := by decide +kernel
theorem dX12_says_163 : decode cX12_says 163 = .ok (.getfield 74, 3) := by decide +kernel
theorem dX12_says_166 : decode cX12_says 166 = .ok (.iload 10, 2) := by decide +kernel
theorem dX12_says_168 : decode cX12_says 168 = .ok (.iaload, 1) := by decide +kernel
theorem dX12_says_169 : decode cX12_says 169 = .ok (.aload_n 0, 1) := by decide +kernel
theorem dX12_says_170 : decode cX12_says 170 = .ok (.getfield 24, 3) := by decide +kernel
theorem dX12_says_173 : decode cX12_says 173 = .ok (.sipush 315, 3) := by decide +kernel
theorem dX12_says_176 : decode cX12_says 176 = .ok (.iaload, 1) := by decide +kernel
theorem dX12_says_177 : decode cX12_says 177 = .ok (.invokevirtual 131, 3) := by decide +kernel
theorem dX12_says_180 : decode cX12_says 180 = .ok (.aload_n 0, 1) := by decide +kernel
theorem dX12_says_181 : decode cX12_says 181 = .ok (.bipush 26, 2) := by decide +kernel
theorem dX12_says_183 : decode cX12_says 183 = .ok (.aload_n 0, 1) := by decide +kernel
theorem dX12_says_184 : decode cX12_says 184 = .ok (.getfield 24, 3) := by decide +kernel
theorem dX12_says_187 : decode cX12_says 187 = .ok (.sipush 315, 3) := by decide +kernel
theorem dX12_says_190 : decode cX12_says 190 = .ok (.iaload, 1) := by decide +kernel
theorem dX12_says_191 : decode cX12_says 191 = .ok (.invokevirtual 124, 3) := by decide +kernel
theorem dX12_says_194 : decode cX12_says 194 = .ok (.iadd, 1) := by decide +kernel
theorem dX12_says_195 : decode cX12_says 195 = .ok (.iadd, 1) := by decide +kernel
theorem dX12_says_196 : decode cX12_says 196 = .ok (.istore 7, 2) := by decide +kernel
theorem dX12_says_198 : decode cX12_says 198 = .ok (.iload 8, 2) := by decide +kernel
theorem dX12_says_200 : decode cX12_says 200 = .ok (.aload_n 0, 1) := by decide +kernel
theorem dX12_says_201 : decode cX12_says 201 = .ok (.getfield 24, 3) := by decide +kernel
theorem dX12_says_204 : decode cX12_says 204 = .ok (.sipush 261, 3) := by decide +kernel
theorem dX12_says_207 : decode cX12_says 207 = .ok (.aload_n 0, 1) := by decide +kernel
theorem dX12_says_208 : decode cX12_says 208 = .ok (.getfield 24, 3) := by decide +kernel
theorem dX12_says_211 : decode cX12_says 211 = .ok (.sipush 269, 3) := by decide +kernel
theorem dX12_says_214 : decode cX12_says 214 = .ok (.iload 10, 2) := by decide +kernel
theorem dX12_says_216 : decode cX12_says 216 = .ok (.iadd, 1) := by decide +kernel
theorem dX12_says_217 : decode cX12_says 217 = .ok (.iaload, 1) := by decide +kernel
theorem dX12_says_218 : decode cX12_says 218 = .ok (.iadd, 1) := by decide +kernel
theorem dX12_says_219 : decode cX12_says 219 = .ok (.iaload, 1) := by decide +kernel
theorem dX12_says_220 : decode cX12_says 220 = .ok (.iadd, 1) := by decide +kernel
theorem dX12_says_221 : decode cX12_says 221 = .ok (.istore 8, 2) := by decide +kernel
theorem dX12_says_223 : decode cX12_says 223 = .ok (.iinc 10 1, 3) := by decide +kernel
theorem dX12_says_226 : decode cX12_says 226 = .ok (.goto (-120), 3) := by decide +kernel
theorem dX12_says_229 : decode cX12_says 229 = .ok (.iload 9, 2) := by decide +kernel
theorem dX12_says_231 : decode cX12_says 231 = .ok (.ifCond .eq 30, 3) := by decide +kernel
theorem dX12_says_234 : decode cX12_says 234 = .ok (.iload 7, 2) := by decide +kernel
theorem dX12_says_236 : decode cX12_says 236 = .ok (.iload_n 1, 1) := by decide +kernel
theorem dX12_says_237 : decode cX12_says 237 = .ok (.if_icmp .gt 24, 3) := by decide +kernel
theorem dX12_says_240 : decode cX12_says 240 = .ok (.iload 8, 2) := by decide +kernel
theorem dX12_says_242 : decode cX12_says 242 = .ok (.iload 4, 2) := by decide +kernel
theorem dX12_says_244 : decode cX12_says 244 = .ok (.if_icmp .gt 6, 3) := by decide +kernel
theorem dX12_says_247 : decode cX12_says 247 = .ok (.goto 14, 3) := by decide +kernel
theorem dX12_says_250 : decode cX12_says 250 = .ok (.iload 6, 2) := by decide +kernel
theorem dX12_says_252 : decode cX12_says 252 = .ok (.istore_n 3, 1) := by decide +kernel
theorem dX12_says_253 : decode cX12_says 253 = .ok (.iload 8, 2) := by decide +kernel
theorem dX12_says_255 : decode cX12_says 255 = .ok (.istore 4, 2) := by decide +kernel
theorem dX12_says_257 : decode cX12_says 257 = .ok (.iload 7, 2) := by decide +kernel
theorem dX12_says_259 : decode cX12_says 259 = .ok (.istore 5, 2) := by decide +kernel
theorem dX12_says_261 : decode cX12_says 261 = .ok (.iinc 6 1, 3) := by decide +kernel
theorem dX12_says_264 : decode cX12_says 264 = .ok (.goto (-195), 3) := by decide +kernel
theorem dX12_says_267 : decode cX12_says 267 = .ok (.iload_n 2, 1) := by decide +kernel
theorem dX12_says_268 : decode cX12_says 268 = .ok (.ifCond .ne 8, 3) := by decide +kernel
theorem dX12_says_271 : decode cX12_says 271 = .ok (.iload 4, 2) := by decide +kernel
theorem dX12_says_273 : decode cX12_says 273 = .ok (.goto 14, 3) := by decide +kernel
theorem dX12_says_276 : decode cX12_says 276 = .ok (.iload_n 2, 1) := by decide +kernel
theorem dX12_says_277 : decode cX12_says 277 = .ok (.iconst 1, 1) := by decide +kernel
theorem dX12_says_278 : decode cX12_says 278 = .ok (.if_icmp .ne 7, 3) := by decide +kernel
theorem dX12_says_281 : decode cX12_says 281 = .ok (.iload_n 3, 1) := by decide +kernel
theorem dX12_says_282 : decode cX12_says 282 = .ok (.goto 5, 3) := by decide +kernel
theorem dX12_says_285 : decode cX12_says 285 = .ok (.iload 5, 2) := by decide +kernel
theorem dX12_says_287 : decode cX12_says 287 = .ok (.ireturn, 1) := by decide +kernel
theorem dX12_seen_0 : decode cX12_seen 0 = .ok (.iload_n 1, 1) := by decide +kernel
theorem dX12_seen_1 : decode cX12_seen 1 = .ok (.iconst 0, 1) := by decide +kernel
theorem dX12_seen_2 : decode cX12_seen 2 = .ok (.iconst 3, 1) := by decide +kernel
theorem dX12_seen_3 : decode cX12_seen 3 = .ok (.invokestatic 101, 3) := by decide +kernel
theorem dX12_seen_6 : decode cX12_seen 6 = .ok (.ifCond .eq 14, 3) := by decide +kernel
theorem dX12_seen_9 : decode cX12_seen 9 = .ok (.iload_n 2, 1) := by decide +kernel
theorem dX12_seen_10 : decode cX12_seen 10 = .ok (.iconst 0, 1) := by decide +kernel
theorem dX12_seen_11 : decode cX12_seen 11 = .ok (.sipush 999, 3) := by decide +kernel
theorem dX12_seen_14 : decode cX12_seen 14 = .ok (.invokestatic 101, 3) := by decide +kernel
theorem dX12_seen_17 : decode cX12_seen 17 = .ok (.ifCond .ne 9, 3) := by decide +kernel
theorem dX12_seen_20 : decode cX12_seen 20 = .ok (.aload_n 0, 1) := by decide +kernel
theorem dX12_seen_21 : decode cX12_seen 21 = .ok (.iconst (-1), 1) := by decide +kernel
theorem dX12_seen_22 : decode cX12_seen 22 = .ok (.invokevirtual 105, 3) := by decide +kernel
theorem dX12_seen_25 : decode cX12_seen 25 = .ok (.ireturn, 1) := by decide +kernel
theorem dX12_seen_26 : decode cX12_seen 26 = .ok (.aload_n 0, 1) := by decide +kernel
theorem dX12_seen_27 : decode cX12_seen 27 = .ok (.getfield 24, 3) := by decide +kernel
theorem dX12_seen_30 : decode cX12_seen 30 = .ok (.sipush 318, 3) := by decide +kernel
theorem dX12_seen_33 : decode cX12_seen 33 = .ok (.iaload, 1) := by decide +kernel
theorem dX12_seen_34 : decode cX12_seen 34 = .ok (.istore_n 3, 1) := by decide +kernel
theorem dX12_seen_35 : decode cX12_seen 35 = .ok (.iload_n 3, 1) := by decide +kernel
theorem dX12_seen_36 : decode cX12_seen 36 = .ok (.iconst 4, 1) := by decide +kernel
theorem dX12_seen_37 : decode cX12_seen 37 = .ok (.if_icmp .ne 10, 3) := by decide +kernel
theorem dX12_seen_40 : decode cX12_seen 40 = .ok (.aload_n 0, 1) := by decide +kernel
theorem dX12_seen_41 : decode cX12_seen 41 = .ok (.bipush (-5), 2) := by decide +kernel
theorem dX12_seen_43 : decode cX12_seen 43 = .ok (.invokevirtual 105, 3) := by decide +kernel
theorem dX12_seen_46 : decode cX12_seen 46 = .ok (.ireturn, 1) := by decide +kernel
theorem dX12_seen_47 : decode cX12_seen 47 = .ok (.aload_n 0, 1) := by decide +kernel
theorem dX12_seen_48 : decode cX12_seen 48 = .ok (.getfield 24, 3) := by decide +kernel
theorem dX12_seen_51 : decode cX12_seen 51 = .ok (.sipush 279, 3) := by decide +kernel
theorem dX12_seen_54 : decode cX12_seen 54 = .ok (.iconst 2, 1) := by decide +kernel
theorem dX12_seen_55 : decode cX12_seen 55 = .ok (.iload_n 3, 1) := by decide +kernel
theorem dX12_seen_56 : decode cX12_seen 56 = .ok (.imul, 1) := by decide +kernel
theorem dX12_seen_57 : decode cX12_seen 57 = .ok (.iadd, 1) := by decide +kernel
theorem dX12_seen_58 : decode cX12_seen 58 = .ok (.iload_n 1, 1) := by decide +kernel
theorem dX12_seen_59 : decode cX12_seen 59 = .ok (.iastore, 1) := by decide +kernel
theorem dX12_seen_60 : decode cX12_seen 60 = .ok (.aload_n 0, 1) := by decide +kernel
theorem dX12_seen_61 : decode cX12_seen 61 = .ok (.getfield 24, 3) := by decide +kernel
theorem dX12_seen_64 : decode cX12_seen 64 = .ok (.sipush 279, 3) := by decide +kernel
theorem dX12_seen_67 : decode cX12_seen 67 = .ok (.iconst 2, 1) := by decide +kernel
theorem dX12_seen_68 : decode cX12_seen 68 = .ok (.iload_n 3, 1) := by decide +kernel
theorem dX12_seen_69 : decode cX12_seen 69 = .ok (.imul, 1) := by decide +kernel
theorem dX12_seen_70 : decode cX12_seen 70 = .ok (.iadd, 1) := by decide +kernel
theorem dX12_seen_71 : decode cX12_seen 71 = .ok (.iconst 1, 1) := by decide +kernel
theorem dX12_seen_72 : decode cX12_seen 72 = .ok (.iadd, 1) := by decide +kernel
theorem dX12_seen_73 : decode cX12_seen 73 = .ok (.iload_n 2, 1) := by decide +kernel
theorem dX12_seen_74 : decode cX12_seen 74 = .ok (.iastore, 1) := by decide +kernel
theorem dX12_seen_75 : decode cX12_seen 75 = .ok (.aload_n 0, 1) := by decide +kernel
theorem dX12_seen_76 : decode cX12_seen 76 = .ok (.getfield 24, 3) := by decide +kernel
theorem dX12_seen_79 : decode cX12_seen 79 = .ok (.sipush 318, 3) := by decide +kernel
theorem dX12_seen_82 : decode cX12_seen 82 = .ok (.dup2, 1) := by decide +kernel
theorem dX12_seen_83 : decode cX12_seen 83 = .ok (.iaload, 1) := by decide +kernel
theorem dX12_seen_84 : decode cX12_seen 84 = .ok (.iconst 1, 1) := by decide +kernel
theorem dX12_seen_85 : decode cX12_seen 85 = .ok (.iadd, 1) := by decide +kernel
theorem dX12_seen_86 : decode cX12_seen 86 = .ok (.iastore, 1) := by decide +kernel
theorem dX12_seen_87 : decode cX12_seen 87 = .ok (.aload_n 0, 1) := by decide +kernel
theorem dX12_seen_88 : decode cX12_seen 88 = .ok (.iload_n 3, 1) := by decide +kernel
theorem dX12_seen_89 : decode cX12_seen 89 = .ok (.iconst 1, 1) := by decide +kernel
theorem dX12_seen_90 : decode cX12_seen 90 = .ok (.iadd, 1) := by decide +kernel
theorem dX12_seen_91 : decode cX12_seen 91 = .ok (.invokevirtual 14, 3) := by decide +kernel
theorem dX12_seen_94 : decode cX12_seen 94 = .ok (.ireturn, 1) := by decide +kernel
theorem dX12_forget_0 : decode cX12_forget 0 = .ok (.aload_n 0, 1) := by decide +kernel
theorem dX12_forget_1 : decode cX12_forget 1 = .ok (.getfield 24, 3) := by decide +kernel
theorem dX12_forget_4 : decode cX12_forget 4 = .ok (.sipush 318, 3) := by decide +kernel
theorem dX12_forget_7 : decode cX12_forget 7 = .ok (.iaload, 1) := by decide +kernel
theorem dX12_forget_8 : decode cX12_forget 8 = .ok (.istore_n 1, 1) := by decide +kernel
theorem dX12_forget_9 : decode cX12_forget 9 = .ok (.aload_n 0, 1) := by decide +kernel
theorem dX12_forget_10 : decode cX12_forget 10 = .ok (.getfield 24, 3) := by decide +kernel
theorem dX12_forget_13 : decode cX12_forget 13 = .ok (.sipush 318, 3) := by decide +kernel
theorem dX12_forget_16 : decode cX12_forget 16 = .ok (.iconst 0, 1) := by decide +kernel
theorem dX12_forget_17 : decode cX12_forget 17 = .ok (.iastore, 1) := by decide +kernel
theorem dX12_forget_18 : decode cX12_forget 18 = .ok (.iload_n 1, 1) := by decide +kernel
theorem dX12_forget_19 : decode cX12_forget 19 = .ok (.ireturn, 1) := by decide +kernel
theorem dX12_changed_0 : decode cX12_changed 0 = .ok (.iload_n 1, 1) := by decide +kernel
theorem dX12_changed_1 : decode cX12_changed 1 = .ok (.iconst (-1), 1) := by decide +kernel
theorem dX12_changed_2 : decode cX12_changed 2 = .ok (.if_icmp .ge 5, 3) := by decide +kernel
theorem dX12_changed_5 : decode cX12_changed 5 = .ok (.iconst (-1), 1) := by decide +kernel
theorem dX12_changed_6 : decode cX12_changed 6 = .ok (.ireturn, 1) := by decide +kernel
theorem dX12_changed_7 : decode cX12_changed 7 = .ok (.iconst 0, 1) := by decide +kernel
theorem dX12_changed_8 : decode cX12_changed 8 = .ok (.istore_n 2, 1) := by decide +kernel
theorem dX12_changed_9 : decode cX12_changed 9 = .ok (.iconst (-1), 1) := by decide +kernel
theorem dX12_changed_10 : decode cX12_changed 10 = .ok (.istore_n 3, 1) := by decide +kernel
theorem dX12_changed_11 : decode cX12_changed 11 = .ok (.iconst 0, 1) := by decide +kernel
theorem dX12_changed_12 : decode cX12_changed 12 = .ok (.istore 4, 2) := by decide +kernel
theorem dX12_changed_14 : decode cX12_changed 14 = .ok (.iload 4, 2) := by decide +kernel
theorem dX12_changed_16 : decode cX12_changed 16 = .ok (.bipush 16, 2) := by decide +kernel
theorem dX12_changed_18 : decode cX12_changed 18 = .ok (.aload_n 0, 1) := by decide +kernel
theorem dX12_changed_19 : decode cX12_changed 19 = .ok (.getfield 24, 3) := by decide +kernel
theorem dX12_changed_22 : decode cX12_changed 22 = .ok (.bipush 24, 2) := by decide +kernel
theorem dX12_changed_24 : decode cX12_changed 24 = .ok (.iaload, 1) := by decide +kernel
theorem dX12_changed_25 : decode cX12_changed 25 = .ok (.imul, 1) := by decide +kernel
theorem dX12_changed_26 : decode cX12_changed 26 = .ok (.if_icmp .ge 184, 3) := by decide +kernel
theorem dX12_changed_29 : decode cX12_changed 29 = .ok (.iload_n 3, 1) := by decide +kernel
theorem dX12_changed_30 : decode cX12_changed 30 = .ok (.iconst (-1), 1) := by decide +kernel
theorem dX12_changed_31 : decode cX12_changed 31 = .ok (.if_icmp .ne 179, 3) := by decide +kernel
theorem dX12_changed_34 : decode cX12_changed 34 = .ok (.iconst 0, 1) := by decide +kernel
theorem dX12_changed_35 : decode cX12_changed 35 = .ok (.iload 4, 2) := by decide +kernel
theorem dX12_changed_37 : decode cX12_changed 37 = .ok (.bipush 16, 2) := by decide +kernel
theorem dX12_changed_39 : decode cX12_changed 39 = .ok (.idiv, 1) := by decide +kernel
theorem dX12_changed_40 : decode cX12_changed 40 = .ok (.iadd, 1) := by decide +kernel
theorem dX12_changed_41 : decode cX12_changed 41 = .ok (.istore 5, 2) := by decide +kernel
theorem dX12_changed_43 : decode cX12_changed 43 = .ok (.aload_n 0, 1) := by decide +kernel
theorem dX12_changed_44 : decode cX12_changed 44 = .ok (.getfield 24, 3) := by decide +kernel
theorem dX12_changed_47 : decode cX12_changed 47 = .ok (.iload 5, 2) := by decide +kernel
theorem dX12_changed_49 : decode cX12_changed 49 = .ok (.iaload, 1) := by decide +kernel
theorem dX12_changed_50 : decode cX12_changed 50 = .ok (.istore 6, 2) := by decide +kernel
theorem dX12_changed_52 : decode cX12_changed 52 = .ok (.iload 4, 2) := by decide +kernel
theorem dX12_changed_54 : decode cX12_changed 54 = .ok (.bipush 16, 2) := by decide +kernel
theorem dX12_changed_56 : decode cX12_changed 56 = .ok (.irem, 1) := by decide +kernel
theorem dX12_changed_57 : decode cX12_changed 57 = .ok (.istore 7, 2) := by decide +kernel
theorem dX12_changed_59 : decode cX12_changed 59 = .ok (.aload_n 0, 1) := by decide +kernel
theorem dX12_changed_60 : decode cX12_changed 60 = .ok (.iload 7, 2) := by decide +kernel
theorem dX12_changed_62 : decode cX12_changed 62 = .ok (.invokevirtual 127, 3) := by decide +kernel
theorem dX12_changed_65 : decode cX12_changed 65 = .ok (.ifCond .eq 139, 3) := by decide +kernel
theorem dX12_changed_68 : decode cX12_changed 68 = .ok (.iload 7, 2) := by decide +kernel
theorem dX12_changed_70 : decode cX12_changed 70 = .ok (.iload 6, 2) := by decide +kernel
theorem dX12_changed_72 : decode cX12_changed 72 = .ok (.if_icmp .eq 132, 3) := by decide +kernel
theorem dX12_changed_75 : decode cX12_changed 75 = .ok (.aload_n 0, 1) := by decide +kernel
theorem dX12_changed_76 : decode cX12_changed 76 = .ok (.iload 7, 2) := by decide +kernel
theorem dX12_changed_78 : decode cX12_changed 78 = .ok (.iconst 0, 1) := by decide +kernel
theorem dX12_changed_79 : decode cX12_changed 79 = .ok (.invokevirtual 120, 3) := by decide +kernel
theorem dX12_changed_82 : decode cX12_changed 82 = .ok (.aload_n 0, 1) := by decide +kernel
theorem dX12_changed_83 : decode cX12_changed 83 = .ok (.iload 6, 2) := by decide +kernel
theorem dX12_changed_85 : decode cX12_changed 85 = .ok (.iconst 0, 1) := by decide +kernel
theorem dX12_changed_86 : decode cX12_changed 86 = .ok (.invokevirtual 120, 3) := by decide +kernel
theorem dX12_changed_89 : decode cX12_changed 89 = .ok (.if_icmp .eq 6, 3) := by decide +kernel
theorem dX12_changed_92 : decode cX12_changed 92 = .ok (.goto 112, 3) := by decide +kernel
theorem dX12_changed_95 : decode cX12_changed 95 = .ok (.aload_n 0, 1) := by decide +kernel
theorem dX12_changed_96 : decode cX12_changed 96 = .ok (.getfield 24, 3) := by decide +kernel
theorem dX12_changed_99 : decode cX12_changed 99 = .ok (.iload 5, 2) := by decide +kernel
theorem dX12_changed_101 : decode cX12_changed 101 = .ok (.iload 7, 2) := by decide +kernel
theorem dX12_changed_103 : decode cX12_changed 103 = .ok (.iastore, 1) := by decide +kernel
theorem dX12_changed_104 : decode cX12_changed 104 = .ok (.iconst 1, 1) := by decide +kernel
theorem dX12_changed_105 : decode cX12_changed 105 = .ok (.istore 8, 2) := by decide +kernel
theorem dX12_changed_107 : decode cX12_changed 107 = .ok (.iconst 0, 1) := by decide +kernel
theorem dX12_changed_108 : decode cX12_changed 108 = .ok (.istore 9, 2) := by decide +kernel
theorem dX12_changed_110 : decode cX12_changed 110 = .ok (.iload 9, 2) := by decide +kernel
theorem dX12_changed_112 : decode cX12_changed 112 = .ok (.aload_n 0, 1) := by decide +kernel
theorem dX12_changed_113 : decode cX12_changed 113 = .ok (.getfield 24, 3) := by decide +kernel
theorem dX12_changed_116 : decode cX12_changed 116 = .ok (.sipush 318, 3) := by decide +kernel
theorem dX12_changed_119 : decode cX12_changed 119 = .ok (.iaload, 1) := by decide +kernel
theorem dX12_changed_120 : decode cX12_changed 120 = .ok (.if_icmp .ge 56, 3) := by decide +kernel
theorem dX12_changed_123 : decode cX12_changed 123 = .ok (.iload 8, 2) := by decide +kernel
theorem dX12_changed_125 : decode cX12_changed 125 = .ok (.ifCond .eq 42, 3) := by decide +kernel
theorem dX12_changed_128 : decode cX12_changed 128 = .ok (.aload_n 0, 1) := by decide +kernel
theorem dX12_changed_129 : decode cX12_changed 129 = .ok (.aload_n 0, 1) := by decide +kernel
theorem dX12_changed_130 : decode cX12_changed 130 = .ok (.getfield 24, 3) := by decide +kernel
theorem dX12_changed_133 : decode cX12_changed 133 = .ok (.sipush 279, 3) := by decide +kernel
theorem dX12_changed_136 : decode cX12_changed 136 = .ok (.iconst 2, 1) := by decide +kernel
theorem dX12_changed_137 : decode cX12_changed 137 = .ok (.iload 9, 2) := by decide +kernel
theorem dX12_changed_139 : decode cX12_changed 139 = .ok (.imul, 1) := by decide +kernel
theorem dX12_changed_140 : decode cX12_changed 140 = .ok (.iadd, 1) := by decide +kernel
theorem dX12_changed_141 : decode cX12_changed 141 = .ok (.iaload, 1) := by decide +kernel
theorem dX12_changed_142 : decode cX12_changed 142 = .ok (.invokevirtual 270, 3) := by decide +kernel
theorem dX12_changed_145 : decode cX12_changed 145 = .ok (.aload_n 0, 1) := by decide +kernel
theorem dX12_changed_146 : decode cX12_changed 146 = .ok (.getfield 24, 3) := by decide +kernel
theorem dX12_changed_149 : decode cX12_changed 149 = .ok (.sipush 279, 3) := by decide +kernel
theorem dX12_changed_152 : decode cX12_changed 152 = .ok (.iconst 2, 1) := by decide +kernel
theorem dX12_changed_153 : decode cX12_changed 153 = .ok (.iload 9, 2) := by decide +kernel
theorem dX12_changed_155 : decode cX12_changed 155 = .ok (.imul, 1) := by decide +kernel
theorem dX12_changed_156 : decode cX12_changed 156 = .ok (.iadd, 1) := by decide +kernel
theorem dX12_changed_157 : decode cX12_changed 157 = .ok (.iconst 1, 1) := by decide +kernel
theorem dX12_changed_158 : decode cX12_changed 158 = .ok (.iadd, 1) := by decide +kernel
theorem dX12_changed_159 : decode cX12_changed 159 = .ok (.iaload, 1) := by decide +kernel
theorem dX12_changed_160 : decode cX12_changed 160 = .ok (.if_icmp .ne 7, 3) := by decide +kernel
theorem dX12_changed_163 : decode cX12_changed 163 = .ok (.iconst 1, 1) := by decide +kernel
theorem dX12_changed_164 : decode cX12_changed 164 = .ok (.goto 4, 3) := by decide +kernel
theorem dX12_changed_167 : decode cX12_changed 167 = .ok (.iconst 0, 1) := by decide +kernel
theorem dX12_changed_168 : decode cX12_changed 168 = .ok (.istore 8, 2) := by decide +kernel
theorem dX12_changed_170 : decode cX12_changed 170 = .ok (.iinc 9 1, 3) := by decide +kernel
theorem dX12_changed_173 : decode cX12_changed 173 = .ok (.goto (-63), 3) := by decide +kernel
theorem dX12_changed_176 : decode cX12_changed 176 = .ok (.aload_n 0, 1) := by decide +kernel
theorem dX12_changed_177 : decode cX12_changed 177 = .ok (.getfield 24, 3) := by decide +kernel
theorem dX12_changed_180 : decode cX12_changed 180 = .ok (.iload 5, 2) := by decide +kernel
theorem dX12_changed_182 : decode cX12_changed 182 = .ok (.iload 6, 2) := by decide +kernel
theorem dX12_changed_184 : decode cX12_changed 184 = .ok (.iastore, 1) := by decide +kernel
theorem dX12_changed_185 : decode cX12_changed 185 = .ok (.iload 8, 2) := by decide +kernel
theorem dX12_changed_187 : decode cX12_changed 187 = .ok (.ifCond .ne 6, 3) := by decide +kernel
theorem dX12_changed_190 : decode cX12_changed 190 = .ok (.goto 14, 3) := by decide +kernel
theorem dX12_changed_193 : decode cX12_changed 193 = .ok (.iload_n 2, 1) := by decide +kernel
theorem dX12_changed_194 : decode cX12_changed 194 = .ok (.iload_n 1, 1) := by decide +kernel
theorem dX12_changed_195 : decode cX12_changed 195 = .ok (.if_icmp .ne 6, 3) := by decide +kernel
theorem dX12_changed_198 : decode cX12_changed 198 = .ok (.iload 4, 2) := by decide +kernel
theorem dX12_changed_200 : decode cX12_changed 200 = .ok (.istore_n 3, 1) := by decide +kernel
theorem dX12_changed_201 : decode cX12_changed 201 = .ok (.iinc 2 1, 3) := by decide +kernel
theorem dX12_changed_204 : decode cX12_changed 204 = .ok (.iinc 4 1, 3) := by decide +kernel
theorem dX12_changed_207 : decode cX12_changed 207 = .ok (.goto (-193), 3) := by decide +kernel
theorem dX12_changed_210 : decode cX12_changed 210 = .ok (.iload_n 1, 1) := by decide +kernel
theorem dX12_changed_211 : decode cX12_changed 211 = .ok (.iconst (-1), 1) := by decide +kernel
theorem dX12_changed_212 : decode cX12_changed 212 = .ok (.if_icmp .ne 7, 3) := by decide +kernel
theorem dX12_changed_215 : decode cX12_changed 215 = .ok (.iload_n 2, 1) := by decide +kernel
theorem dX12_changed_216 : decode cX12_changed 216 = .ok (.goto 4, 3) := by decide +kernel
theorem dX12_changed_219 : decode cX12_changed 219 = .ok (.iload_n 3, 1) := by decide +kernel
theorem dX12_changed_220 : decode cX12_changed 220 = .ok (.ireturn, 1) := by decide +kernel
theorem dX12_matter_0 : decode cX12_matter 0 = .ok (.iload_n 1, 1) := by decide +kernel
theorem dX12_matter_1 : decode cX12_matter 1 = .ok (.iconst 1, 1) := by decide +kernel
theorem dX12_matter_2 : decode cX12_matter 2 = .ok (.bipush 99, 2) := by decide +kernel
theorem dX12_matter_4 : decode cX12_matter 4 = .ok (.invokestatic 101, 3) := by decide +kernel
theorem dX12_matter_7 : decode cX12_matter 7 = .ok (.ifCond .eq 24, 3) := by decide +kernel
theorem dX12_matter_10 : decode cX12_matter 10 = .ok (.iload_n 2, 1) := by decide +kernel
theorem dX12_matter_11 : decode cX12_matter 11 = .ok (.iconst 0, 1) := by decide +kernel
theorem dX12_matter_12 : decode cX12_matter 12 = .ok (.sipush 999, 3) := by decide +kernel
theorem dX12_matter_15 : decode cX12_matter 15 = .ok (.invokestatic 101, 3) := by decide +kernel
theorem dX12_matter_18 : decode cX12_matter 18 = .ok (.ifCond .eq 13, 3) := by decide +kernel
theorem dX12_matter_21 : decode cX12_matter 21 = .ok (.iload_n 3, 1) := by decide +kernel
theorem dX12_matter_22 : decode cX12_matter 22 = .ok (.iconst 1, 1) := by decide +kernel
theorem dX12_matter_23 : decode cX12_matter 23 = .ok (.bipush 99, 2) := by decide +kernel
theorem dX12_matter_25 : decode cX12_matter 25 = .ok (.invokestatic 101, 3) := by decide +kernel
theorem dX12_matter_28 : decode cX12_matter 28 = .ok (.ifCond .ne 9, 3) := by decide +kernel
theorem dX12_matter_31 : decode cX12_matter 31 = .ok (.aload_n 0, 1) := by decide +kernel
theorem dX12_matter_32 : decode cX12_matter 32 = .ok (.iconst (-1), 1) := by decide +kernel
theorem dX12_matter_33 : decode cX12_matter 33 = .ok (.invokevirtual 105, 3) := by decide +kernel
theorem dX12_matter_36 : decode cX12_matter 36 = .ok (.ireturn, 1) := by decide +kernel
theorem dX12_matter_37 : decode cX12_matter 37 = .ok (.aload_n 0, 1) := by decide +kernel
theorem dX12_matter_38 : decode cX12_matter 38 = .ok (.getfield 24, 3) := by decide +kernel
theorem dX12_matter_41 : decode cX12_matter 41 = .ok (.sipush 319, 3) := by decide +kernel
theorem dX12_matter_44 : decode cX12_matter 44 = .ok (.iaload, 1) := by decide +kernel
theorem dX12_matter_45 : decode cX12_matter 45 = .ok (.istore 4, 2) := by decide +kernel
theorem dX12_matter_47 : decode cX12_matter 47 = .ok (.iload 4, 2) := by decide +kernel
theorem dX12_matter_49 : decode cX12_matter 49 = .ok (.bipush 8, 2) := by decide +kernel
theorem dX12_matter_51 : decode cX12_matter 51 = .ok (.if_icmp .ne 10, 3) := by decide +kernel
theorem dX12_matter_54 : decode cX12_matter 54 = .ok (.aload_n 0, 1) := by decide +kernel
theorem dX12_matter_55 : decode cX12_matter 55 = .ok (.bipush (-5), 2) := by decide +kernel
theorem dX12_matter_57 : decode cX12_matter 57 = .ok (.invokevirtual 105, 3) := by decide +kernel
theorem dX12_matter_60 : decode cX12_matter 60 = .ok (.ireturn, 1) := by decide +kernel
theorem dX12_matter_61 : decode cX12_matter 61 = .ok (.aload_n 0, 1) := by decide +kernel
theorem dX12_matter_62 : decode cX12_matter 62 = .ok (.getfield 24, 3) := by decide +kernel
theorem dX12_matter_65 : decode cX12_matter 65 = .ok (.sipush 287, 3) := by decide +kernel
theorem dX12_matter_68 : decode cX12_matter 68 = .ok (.iconst 3, 1) := by decide +kernel
theorem dX12_matter_69 : decode cX12_matter 69 = .ok (.iload 4, 2) := by decide +kernel
theorem dX12_matter_71 : decode cX12_matter 71 = .ok (.imul, 1) := by decide +kernel
theorem dX12_matter_72 : decode cX12_matter 72 = .ok (.iadd, 1) := by decide +kernel
theorem dX12_matter_73 : decode cX12_matter 73 = .ok (.iload_n 1, 1) := by decide +kernel
theorem dX12_matter_74 : decode cX12_matter 74 = .ok (.iastore, 1) := by decide +kernel
theorem dX12_matter_75 : decode cX12_matter 75 = .ok (.aload_n 0, 1) := by decide +kernel
theorem dX12_matter_76 : decode cX12_matter 76 = .ok (.getfield 24, 3) := by decide +kernel
theorem dX12_matter_79 : decode cX12_matter 79 = .ok (.sipush 287, 3) := by decide +kernel
theorem dX12_matter_82 : decode cX12_matter 82 = .ok (.iconst 3, 1) := by decide +kernel
theorem dX12_matter_83 : decode cX12_matter 83 = .ok (.iload 4, 2) := by decide +kernel
theorem dX12_matter_85 : decode cX12_matter 85 = .ok (.imul, 1) := by decide +kernel
theorem dX12_matter_86 : decode cX12_matter 86 = .ok (.iadd, 1) := by decide +kernel
theorem dX12_matter_87 : decode cX12_matter 87 = .ok (.iconst 1, 1) := by decide +kernel
theorem dX12_matter_88 : decode cX12_matter 88 = .ok (.iadd, 1) := by decide +kernel
theorem dX12_matter_89 : decode cX12_matter 89 = .ok (.iload_n 2, 1) := by decide +kernel
theorem dX12_matter_90 : decode cX12_matter 90 = .ok (.iastore, 1) := by decide +kernel
theorem dX12_matter_91 : decode cX12_matter 91 = .ok (.aload_n 0, 1) := by decide +kernel
theorem dX12_matter_92 : decode cX12_matter 92 = .ok (.getfield 24, 3) := by decide +kernel
theorem dX12_matter_95 : decode cX12_matter 95 = .ok (.sipush 287, 3) := by decide +kernel
theorem dX12_matter_98 : decode cX12_matter 98 = .ok (.iconst 3, 1) := by decide +kernel
theorem dX12_matter_99 : decode cX12_matter 99 = .ok (.iload 4, 2) := by decide +kernel
theorem dX12_matter_101 : decode cX12_matter 101 = .ok (.imul, 1) := by decide +kernel
theorem dX12_matter_102 : decode cX12_matter 102 = .ok (.iadd, 1) := by decide +kernel
theorem dX12_matter_103 : decode cX12_matter 103 = .ok (.iconst 2, 1) := by decide +kernel
theorem dX12_matter_104 : decode cX12_matter 104 = .ok (.iadd, 1) := by decide +kernel
theorem dX12_matter_105 : decode cX12_matter 105 = .ok (.iload_n 3, 1) := by decide +kernel
theorem dX12_matter_106 : decode cX12_matter 106 = .ok (.iastore, 1) := by decide +kernel
theorem dX12_matter_107 : decode cX12_matter 107 = .ok (.aload_n 0, 1) := by decide +kernel
theorem dX12_matter_108 : decode cX12_matter 108 = .ok (.getfield 24, 3) := by decide +kernel
theorem dX12_matter_111 : decode cX12_matter 111 = .ok (.sipush 319, 3) := by decide +kernel
theorem dX12_matter_114 : decode cX12_matter 114 = .ok (.dup2, 1) := by decide +kernel
theorem dX12_matter_115 : decode cX12_matter 115 = .ok (.iaload, 1) := by decide +kernel
theorem dX12_matter_116 : decode cX12_matter 116 = .ok (.iconst 1, 1) := by decide +kernel
theorem dX12_matter_117 : decode cX12_matter 117 = .ok (.iadd, 1) := by decide +kernel
theorem dX12_matter_118 : decode cX12_matter 118 = .ok (.iastore, 1) := by decide +kernel
theorem dX12_matter_119 : decode cX12_matter 119 = .ok (.aload_n 0, 1) := by decide +kernel
theorem dX12_matter_120 : decode cX12_matter 120 = .ok (.iload 4, 2) := by decide +kernel
theorem dX12_matter_122 : decode cX12_matter 122 = .ok (.invokevirtual 14, 3) := by decide +kernel
theorem dX12_matter_125 : decode cX12_matter 125 = .ok (.ireturn, 1) := by decide +kernel
theorem dX12_cancel_0 : decode cX12_cancel 0 = .ok (.aload_n 0, 1) := by decide +kernel
theorem dX12_cancel_1 : decode cX12_cancel 1 = .ok (.getfield 24, 3) := by decide +kernel
theorem dX12_cancel_4 : decode cX12_cancel 4 = .ok (.sipush 319, 3) := by decide +kernel
theorem dX12_cancel_7 : decode cX12_cancel 7 = .ok (.iaload, 1) := by decide +kernel
theorem dX12_cancel_8 : decode cX12_cancel 8 = .ok (.istore_n 1, 1) := by decide +kernel
theorem dX12_cancel_9 : decode cX12_cancel 9 = .ok (.aload_n 0, 1) := by decide +kernel
theorem dX12_cancel_10 : decode cX12_cancel 10 = .ok (.getfield 24, 3) := by decide +kernel
theorem dX12_cancel_13 : decode cX12_cancel 13 = .ok (.sipush 319, 3) := by decide +kernel
theorem dX12_cancel_16 : decode cX12_cancel 16 = .ok (.iconst 0, 1) := by decide +kernel
theorem dX12_cancel_17 : decode cX12_cancel 17 = .ok (.iastore, 1) := by decide +kernel
theorem dX12_cancel_18 : decode cX12_cancel 18 = .ok (.iload_n 1, 1) := by decide +kernel
theorem dX12_cancel_19 : decode cX12_cancel 19 = .ok (.ireturn, 1) := by decide +kernel
theorem dX12_sortsMatters_0 : decode cX12_sortsMatters 0 = .ok (.iconst 0, 1) := by decide +kernel
theorem dX12_sortsMatters_1 : decode cX12_sortsMatters 1 = .ok (.istore_n 1, 1) := by decide +kernel
theorem dX12_sortsMatters_2 : decode cX12_sortsMatters 2 = .ok (.iload_n 1, 1) := by decide +kernel
theorem dX12_sortsMatters_3 : decode cX12_sortsMatters 3 = .ok (.aload_n 0, 1) := by decide +kernel
theorem dX12_sortsMatters_4 : decode cX12_sortsMatters 4 = .ok (.getfield 24, 3) := by decide +kernel
theorem dX12_sortsMatters_7 : decode cX12_sortsMatters 7 = .ok (.sipush 319, 3) := by decide +kernel
theorem dX12_sortsMatters_10 : decode cX12_sortsMatters 10 = .ok (.iaload, 1) := by decide +kernel
theorem dX12_sortsMatters_11 : decode cX12_sortsMatters 11 = .ok (.if_icmp .ge 80, 3) := by decide +kernel
theorem dX12_sortsMatters_14 : decode cX12_sortsMatters 14 = .ok (.iload_n 1, 1) := by decide +kernel
theorem dX12_sortsMatters_15 : decode cX12_sortsMatters 15 = .ok (.istore_n 2, 1) := by decide +kernel
theorem dX12_sortsMatters_16 : decode cX12_sortsMatters 16 = .ok (.iload_n 2, 1) := by decide +kernel
theorem dX12_sortsMatters_17 : decode cX12_sortsMatters 17 = .ok (.ifCond .le 61, 3) := by decide +kernel
theorem dX12_sortsMatters_20 : decode cX12_sortsMatters 20 = .ok (.aload_n 0, 1) := by decide +kernel
theorem dX12_sortsMatters_21 : decode cX12_sortsMatters 21 = .ok (.getfield 24, 3) := by decide +kernel
theorem dX12_sortsMatters_24 : decode cX12_sortsMatters 24 = .ok (.sipush 287, 3) := by decide +kernel
theorem dX12_sortsMatters_27 : decode cX12_sortsMatters 27 = .ok (.iconst 3, 1) := by decide +kernel
theorem dX12_sortsMatters_28 : decode cX12_sortsMatters 28 = .ok (.aload_n 0, 1) := by decide +kernel
theorem dX12_sortsMatters_29 : decode cX12_sortsMatters 29 = .ok (.getfield 92, 3) := by decide +kernel
theorem dX12_sortsMatters_32 : decode cX12_sortsMatters 32 = .ok (.iload_n 2, 1) := by decide +kernel
theorem dX12_sortsMatters_33 : decode cX12_sortsMatters 33 = .ok (.iconst 1, 1) := by decide +kernel
theorem dX12_sortsMatters_34 : decode cX12_sortsMatters 34 = .ok (.isub, 1) := by decide +kernel
theorem dX12_sortsMatters_35 : decode cX12_sortsMatters 35 = .ok (.iaload, 1) := by decide +kernel
theorem dX12_sortsMatters_36 : decode cX12_sortsMatters 36 = .ok (.imul, 1) := by decide +kernel
theorem dX12_sortsMatters_37 : decode cX12_sortsMatters 37 = .ok (.iadd, 1) := by decide +kernel
theorem dX12_sortsMatters_38 : decode cX12_sortsMatters 38 = .ok (.iconst 1, 1) := by decide +kernel
theorem dX12_sortsMatters_39 : decode cX12_sortsMatters 39 = .ok (.iadd, 1) := by decide +kernel
theorem dX12_sortsMatters_40 : decode cX12_sortsMatters 40 = .ok (.iaload, 1) := by decide +kernel
theorem dX12_sortsMatters_41 : decode cX12_sortsMatters 41 = .ok (.aload_n 0, 1) := by decide +kernel
theorem dX12_sortsMatters_42 : decode cX12_sortsMatters 42 = .ok (.getfield 24, 3) := by decide +kernel
theorem dX12_sortsMatters_45 : decode cX12_sortsMatters 45 = .ok (.sipush 287, 3) := by decide +kernel
theorem dX12_sortsMatters_48 : decode cX12_sortsMatters 48 = .ok (.iconst 3, 1) := by decide +kernel
theorem dX12_sortsMatters_49 : decode cX12_sortsMatters 49 = .ok (.iload_n 1, 1) := by decide +kernel
theorem dX12_sortsMatters_50 : decode cX12_sortsMatters 50 = .ok (.imul, 1) := by decide +kernel
theorem dX12_sortsMatters_51 : decode cX12_sortsMatters 51 = .ok (.iadd, 1) := by decide +kernel
theorem dX12_sortsMatters_52 : decode cX12_sortsMatters 52 = .ok (.iconst 1, 1) := by decide +kernel
theorem dX12_sortsMatters_53 : decode cX12_sortsMatters 53 = .ok (.iadd, 1) := by decide +kernel
theorem dX12_sortsMatters_54 : decode cX12_sortsMatters 54 = .ok (.iaload, 1) := by decide +kernel
theorem dX12_sortsMatters_55 : decode cX12_sortsMatters 55 = .ok (.if_icmp .le 23, 3) := by decide +kernel
theorem dX12_sortsMatters_58 : decode cX12_sortsMatters 58 = .ok (.aload_n 0, 1) := by decide +kernel
theorem dX12_sortsMatters_59 : decode cX12_sortsMatters 59 = .ok (.getfield 92, 3) := by decide +kernel
theorem dX12_sortsMatters_62 : decode cX12_sortsMatters 62 = .ok (.iload_n 2, 1) := by decide +kernel
theorem dX12_sortsMatters_63 : decode cX12_sortsMatters 63 = .ok (.aload_n 0, 1) := by decide +kernel
theorem dX12_sortsMatters_64 : decode cX12_sortsMatters 64 = .ok (.getfield 92, 3) := by decide +kernel
theorem dX12_sortsMatters_67 : decode cX12_sortsMatters 67 = .ok (.iload_n 2, 1) := by decide +kernel
theorem dX12_sortsMatters_68 : decode cX12_sortsMatters 68 = .ok (.iconst 1, 1) := by decide +kernel
theorem dX12_sortsMatters_69 : decode cX12_sortsMatters 69 = .ok (.isub, 1) := by decide +kernel
theorem dX12_sortsMatters_70 : decode cX12_sortsMatters 70 = .ok (.iaload, 1) := by decide +kernel
theorem dX12_sortsMatters_71 : decode cX12_sortsMatters 71 = .ok (.iastore, 1) := by decide +kernel
theorem dX12_sortsMatters_72 : decode cX12_sortsMatters 72 = .ok (.iinc 2 (-1), 3) := by decide +kernel
theorem dX12_sortsMatters_75 : decode cX12_sortsMatters 75 = .ok (.goto (-59), 3) := by decide +kernel
theorem dX12_sortsMatters_78 : decode cX12_sortsMatters 78 = .ok (.aload_n 0, 1) := by decide +kernel
theorem dX12_sortsMatters_79 : decode cX12_sortsMatters 79 = .ok (.getfield 92, 3) := by decide +kernel
theorem dX12_sortsMatters_82 : decode cX12_sortsMatters 82 = .ok (.iload_n 2, 1) := by decide +kernel
theorem dX12_sortsMatters_83 : decode cX12_sortsMatters 83 = .ok (.iload_n 1, 1) := by decide +kernel
theorem dX12_sortsMatters_84 : decode cX12_sortsMatters 84 = .ok (.iastore, 1) := by decide +kernel
theorem dX12_sortsMatters_85 : decode cX12_sortsMatters 85 = .ok (.iinc 1 1, 3) := by decide +kernel
theorem dX12_sortsMatters_88 : decode cX12_sortsMatters 88 = .ok (.goto (-86), 3) := by decide +kernel
theorem dX12_sortsMatters_91 : decode cX12_sortsMatters 91 = .ok (.return_, 1) := by decide +kernel
theorem dX12_doneBy_0 : decode cX12_doneBy 0 = .ok (.iconst 0, 1) := by decide +kernel
theorem dX12_doneBy_1 : decode cX12_doneBy 1 = .ok (.istore_n 2, 1) := by decide +kernel
theorem dX12_doneBy_2 : decode cX12_doneBy 2 = .ok (.iconst 0, 1) := by decide +kernel
theorem dX12_doneBy_3 : decode cX12_doneBy 3 = .ok (.istore_n 3, 1) := by decide +kernel
theorem dX12_doneBy_4 : decode cX12_doneBy 4 = .ok (.iload_n 3, 1) := by decide +kernel
theorem dX12_doneBy_5 : decode cX12_doneBy 5 = .ok (.aload_n 0, 1) := by decide +kernel
theorem dX12_doneBy_6 : decode cX12_doneBy 6 = .ok (.getfield 24, 3) := by decide +kernel
theorem dX12_doneBy_9 : decode cX12_doneBy 9 = .ok (.sipush 319, 3) := by decide +kernel
theorem dX12_doneBy_12 : decode cX12_doneBy 12 = .ok (.iaload, 1) := by decide +kernel
theorem dX12_doneBy_13 : decode cX12_doneBy 13 = .ok (.if_icmp .ge 71, 3) := by decide +kernel
theorem dX12_doneBy_16 : decode cX12_doneBy 16 = .ok (.iload_n 1, 1) := by decide +kernel
theorem dX12_doneBy_17 : decode cX12_doneBy 17 = .ok (.aload_n 0, 1) := by decide +kernel
theorem dX12_doneBy_18 : decode cX12_doneBy 18 = .ok (.getfield 92, 3) := by decide +kernel
theorem dX12_doneBy_21 : decode cX12_doneBy 21 = .ok (.iload_n 3, 1) := by decide +kernel
theorem dX12_doneBy_22 : decode cX12_doneBy 22 = .ok (.iaload, 1) := by decide +kernel
theorem dX12_doneBy_23 : decode cX12_doneBy 23 = .ok (.invokestatic 377, 3) := by decide +kernel
theorem dX12_doneBy_26 : decode cX12_doneBy 26 = .ok (.ifCond .ne 6, 3) := by decide +kernel
theorem dX12_doneBy_29 : decode cX12_doneBy 29 = .ok (.goto 49, 3) := by decide +kernel
theorem dX12_doneBy_32 : decode cX12_doneBy 32 = .ok (.iload_n 2, 1) := by decide +kernel
theorem dX12_doneBy_33 : decode cX12_doneBy 33 = .ok (.aload_n 0, 1) := by decide +kernel
theorem dX12_doneBy_34 : decode cX12_doneBy 34 = .ok (.getfield 24, 3) := by decide +kernel
theorem dX12_doneBy_37 : decode cX12_doneBy 37 = .ok (.sipush 287, 3) := by decide +kernel
theorem dX12_doneBy_40 : decode cX12_doneBy 40 = .ok (.iconst 3, 1) := by decide +kernel
theorem dX12_doneBy_41 : decode cX12_doneBy 41 = .ok (.aload_n 0, 1) := by decide +kernel
theorem dX12_doneBy_42 : decode cX12_doneBy 42 = .ok (.getfield 92, 3) := by decide +kernel
theorem dX12_doneBy_45 : decode cX12_doneBy 45 = .ok (.iload_n 3, 1) := by decide +kernel
theorem dX12_doneBy_46 : decode cX12_doneBy 46 = .ok (.iaload, 1) := by decide +kernel
theorem dX12_doneBy_47 : decode cX12_doneBy 47 = .ok (.imul, 1) := by decide +kernel
theorem dX12_doneBy_48 : decode cX12_doneBy 48 = .ok (.iadd, 1) := by decide +kernel
theorem dX12_doneBy_49 : decode cX12_doneBy 49 = .ok (.iaload, 1) := by decide +kernel
theorem dX12_doneBy_50 : decode cX12_doneBy 50 = .ok (.iadd, 1) := by decide +kernel
theorem dX12_doneBy_51 : decode cX12_doneBy 51 = .ok (.istore_n 2, 1) := by decide +kernel
theorem dX12_doneBy_52 : decode cX12_doneBy 52 = .ok (.iload_n 2, 1) := by decide +kernel
theorem dX12_doneBy_53 : decode cX12_doneBy 53 = .ok (.aload_n 0, 1) := by decide +kernel
theorem dX12_doneBy_54 : decode cX12_doneBy 54 = .ok (.getfield 24, 3) := by decide +kernel
theorem dX12_doneBy_57 : decode cX12_doneBy 57 = .ok (.sipush 287, 3) := by decide +kernel
theorem dX12_doneBy_60 : decode cX12_doneBy 60 = .ok (.iconst 3, 1) := by decide +kernel
theorem dX12_doneBy_61 : decode cX12_doneBy 61 = .ok (.aload_n 0, 1) := by decide +kernel
theorem dX12_doneBy_62 : decode cX12_doneBy 62 = .ok (.getfield 92, 3) := by decide +kernel
theorem dX12_doneBy_65 : decode cX12_doneBy 65 = .ok (.iload_n 3, 1) := by decide +kernel
theorem dX12_doneBy_66 : decode cX12_doneBy 66 = .ok (.iaload, 1) := by decide +kernel
theorem dX12_doneBy_67 : decode cX12_doneBy 67 = .ok (.imul, 1) := by decide +kernel
theorem dX12_doneBy_68 : decode cX12_doneBy 68 = .ok (.iadd, 1) := by decide +kernel
theorem dX12_doneBy_69 : decode cX12_doneBy 69 = .ok (.iconst 1, 1) := by decide +kernel
theorem dX12_doneBy_70 : decode cX12_doneBy 70 = .ok (.iadd, 1) := by decide +kernel
theorem dX12_doneBy_71 : decode cX12_doneBy 71 = .ok (.iaload, 1) := by decide +kernel
theorem dX12_doneBy_72 : decode cX12_doneBy 72 = .ok (.if_icmp .le 6, 3) := by decide +kernel
theorem dX12_doneBy_75 : decode cX12_doneBy 75 = .ok (.ldc 153, 2) := by decide +kernel
theorem dX12_doneBy_77 : decode cX12_doneBy 77 = .ok (.ireturn, 1) := by decide +kernel
theorem dX12_doneBy_78 : decode cX12_doneBy 78 = .ok (.iinc 3 1, 3) := by decide +kernel
theorem dX12_doneBy_81 : decode cX12_doneBy 81 = .ok (.goto (-77), 3) := by decide +kernel
theorem dX12_doneBy_84 : decode cX12_doneBy 84 = .ok (.iload_n 2, 1) := by decide +kernel
theorem dX12_doneBy_85 : decode cX12_doneBy 85 = .ok (.ireturn, 1) := by decide +kernel
theorem dX12_edition_0 : decode cX12_edition 0 = .ok (.iload_n 1, 1) := by decide +kernel
theorem dX12_edition_1 : decode cX12_edition 1 = .ok (.ifCond .ge 5, 3) := by decide +kernel
theorem dX12_edition_4 : decode cX12_edition 4 = .ok (.iconst (-1), 1) := by decide +kernel
theorem dX12_edition_5 : decode cX12_edition 5 = .ok (.ireturn, 1) := by decide +kernel
theorem dX12_edition_6 : decode cX12_edition 6 = .ok (.aload_n 0, 1) := by decide +kernel
theorem dX12_edition_7 : decode cX12_edition 7 = .ok (.invokevirtual 380, 3) := by decide +kernel
theorem dX12_edition_10 : decode cX12_edition 10 = .ok (.iconst 0, 1) := by decide +kernel
theorem dX12_edition_11 : decode cX12_edition 11 = .ok (.istore_n 2, 1) := by decide +kernel
theorem dX12_edition_12 : decode cX12_edition 12 = .ok (.iconst 0, 1) := by decide +kernel
theorem dX12_edition_13 : decode cX12_edition 13 = .ok (.istore_n 3, 1) := by decide +kernel
theorem dX12_edition_14 : decode cX12_edition 14 = .ok (.iconst 1, 1) := by decide +kernel
theorem dX12_edition_15 : decode cX12_edition 15 = .ok (.istore 4, 2) := by decide +kernel
theorem dX12_edition_17 : decode cX12_edition 17 = .ok (.iload 4, 2) := by decide +kernel
theorem dX12_edition_19 : decode cX12_edition 19 = .ok (.iconst 1, 1) := by decide +kernel
theorem dX12_edition_20 : decode cX12_edition 20 = .ok (.aload_n 0, 1) := by decide +kernel
theorem dX12_edition_21 : decode cX12_edition 21 = .ok (.getfield 24, 3) := by decide +kernel
theorem dX12_edition_24 : decode cX12_edition 24 = .ok (.sipush 319, 3) := by decide +kernel
theorem dX12_edition_27 : decode cX12_edition 27 = .ok (.iaload, 1) := by decide +kernel
theorem dX12_edition_28 : decode cX12_edition 28 = .ok (.ishl, 1) := by decide +kernel
theorem dX12_edition_29 : decode cX12_edition 29 = .ok (.if_icmp .ge 94, 3) := by decide +kernel
theorem dX12_edition_32 : decode cX12_edition 32 = .ok (.iconst 0, 1) := by decide +kernel
theorem dX12_edition_33 : decode cX12_edition 33 = .ok (.istore 5, 2) := by decide +kernel
theorem dX12_edition_35 : decode cX12_edition 35 = .ok (.iconst 0, 1) := by decide +kernel
theorem dX12_edition_36 : decode cX12_edition 36 = .ok (.istore 6, 2) := by decide +kernel
theorem dX12_edition_38 : decode cX12_edition 38 = .ok (.iload 6, 2) := by decide +kernel
theorem dX12_edition_40 : decode cX12_edition 40 = .ok (.aload_n 0, 1) := by decide +kernel
theorem dX12_edition_41 : decode cX12_edition 41 = .ok (.getfield 24, 3) := by decide +kernel
theorem dX12_edition_44 : decode cX12_edition 44 = .ok (.sipush 319, 3) := by decide +kernel
theorem dX12_edition_47 : decode cX12_edition 47 = .ok (.iaload, 1) := by decide +kernel
theorem dX12_edition_48 : decode cX12_edition 48 = .ok (.if_icmp .ge 43, 3) := by decide +kernel
theorem dX12_edition_51 : decode cX12_edition 51 = .ok (.iload 5, 2) := by decide +kernel
theorem dX12_edition_53 : decode cX12_edition 53 = .ok (.iload 4, 2) := by decide +kernel
theorem dX12_edition_55 : decode cX12_edition 55 = .ok (.iload 6, 2) := by decide +kernel
theorem dX12_edition_57 : decode cX12_edition 57 = .ok (.invokestatic 377, 3) := by decide +kernel
theorem dX12_edition_60 : decode cX12_edition 60 = .ok (.ifCond .eq 21, 3) := by decide +kernel
theorem dX12_edition_63 : decode cX12_edition 63 = .ok (.aload_n 0, 1) := by decide +kernel
theorem dX12_edition_64 : decode cX12_edition 64 = .ok (.getfield 24, 3) := by decide +kernel
theorem dX12_edition_67 : decode cX12_edition 67 = .ok (.sipush 287, 3) := by decide +kernel
theorem dX12_edition_70 : decode cX12_edition 70 = .ok (.iconst 3, 1) := by decide +kernel
theorem dX12_edition_71 : decode cX12_edition 71 = .ok (.iload 6, 2) := by decide +kernel
theorem dX12_edition_73 : decode cX12_edition 73 = .ok (.imul, 1) := by decide +kernel
theorem dX12_edition_74 : decode cX12_edition 74 = .ok (.iadd, 1) := by decide +kernel
theorem dX12_edition_75 : decode cX12_edition 75 = .ok (.iconst 2, 1) := by decide +kernel
theorem dX12_edition_76 : decode cX12_edition 76 = .ok (.iadd, 1) := by decide +kernel
theorem dX12_edition_77 : decode cX12_edition 77 = .ok (.iaload, 1) := by decide +kernel
theorem dX12_edition_78 : decode cX12_edition 78 = .ok (.goto 4, 3) := by decide +kernel
theorem dX12_edition_81 : decode cX12_edition 81 = .ok (.iconst 0, 1) := by decide +kernel
theorem dX12_edition_82 : decode cX12_edition 82 = .ok (.iadd, 1) := by decide +kernel
theorem dX12_edition_83 : decode cX12_edition 83 = .ok (.istore 5, 2) := by decide +kernel
theorem dX12_edition_85 : decode cX12_edition 85 = .ok (.iinc 6 1, 3) := by decide +kernel
theorem dX12_edition_88 : decode cX12_edition 88 = .ok (.goto (-50), 3) := by decide +kernel
theorem dX12_edition_91 : decode cX12_edition 91 = .ok (.iload 5, 2) := by decide +kernel
theorem dX12_edition_93 : decode cX12_edition 93 = .ok (.iload_n 3, 1) := by decide +kernel
theorem dX12_edition_94 : decode cX12_edition 94 = .ok (.if_icmp .le 23, 3) := by decide +kernel
theorem dX12_edition_97 : decode cX12_edition 97 = .ok (.aload_n 0, 1) := by decide +kernel
theorem dX12_edition_98 : decode cX12_edition 98 = .ok (.iload 4, 2) := by decide +kernel
theorem dX12_edition_100 : decode cX12_edition 100 = .ok (.invokevirtual 383, 3) := by decide +kernel
theorem dX12_edition_103 : decode cX12_edition 103 = .ok (.ldc 153, 2) := by decide +kernel
theorem dX12_edition_105 : decode cX12_edition 105 = .ok (.if_icmp .ne 6, 3) := by decide +kernel
theorem dX12_edition_108 : decode cX12_edition 108 = .ok (.goto 9, 3) := by decide +kernel
theorem dX12_edition_111 : decode cX12_edition 111 = .ok (.iload 4, 2) := by decide +kernel
theorem dX12_edition_113 : decode cX12_edition 113 = .ok (.istore_n 2, 1) := by decide +kernel
theorem dX12_edition_114 : decode cX12_edition 114 = .ok (.iload 5, 2) := by decide +kernel
theorem dX12_edition_116 : decode cX12_edition 116 = .ok (.istore_n 3, 1) := by decide +kernel
theorem dX12_edition_117 : decode cX12_edition 117 = .ok (.iinc 4 1, 3) := by decide +kernel
theorem dX12_edition_120 : decode cX12_edition 120 = .ok (.goto (-103), 3) := by decide +kernel
theorem dX12_edition_123 : decode cX12_edition 123 = .ok (.iload_n 1, 1) := by decide +kernel
theorem dX12_edition_124 : decode cX12_edition 124 = .ok (.iconst 3, 1) := by decide +kernel
theorem dX12_edition_125 : decode cX12_edition 125 = .ok (.if_icmp .ge 26, 3) := by decide +kernel
theorem dX12_edition_128 : decode cX12_edition 128 = .ok (.iload_n 1, 1) := by decide +kernel
theorem dX12_edition_129 : decode cX12_edition 129 = .ok (.ifCond .ne 7, 3) := by decide +kernel
theorem dX12_edition_132 : decode cX12_edition 132 = .ok (.iload_n 3, 1) := by decide +kernel
theorem dX12_edition_133 : decode cX12_edition 133 = .ok (.goto 17, 3) := by decide +kernel
theorem dX12_edition_136 : decode cX12_edition 136 = .ok (.iload_n 1, 1) := by decide +kernel
theorem dX12_edition_137 : decode cX12_edition 137 = .ok (.iconst 1, 1) := by decide +kernel
theorem dX12_edition_138 : decode cX12_edition 138 = .ok (.if_icmp .ne 7, 3) := by decide +kernel
theorem dX12_edition_141 : decode cX12_edition 141 = .ok (.iload_n 2, 1) := by decide +kernel
theorem dX12_edition_142 : decode cX12_edition 142 = .ok (.goto 8, 3) := by decide +kernel
theorem dX12_edition_145 : decode cX12_edition 145 = .ok (.aload_n 0, 1) := by decide +kernel
theorem dX12_edition_146 : decode cX12_edition 146 = .ok (.iload_n 2, 1) := by decide +kernel
theorem dX12_edition_147 : decode cX12_edition 147 = .ok (.invokevirtual 383, 3) := by decide +kernel
theorem dX12_edition_150 : decode cX12_edition 150 = .ok (.ireturn, 1) := by decide +kernel
theorem dX12_edition_151 : decode cX12_edition 151 = .ok (.iload_n 1, 1) := by decide +kernel
theorem dX12_edition_152 : decode cX12_edition 152 = .ok (.iconst 3, 1) := by decide +kernel
theorem dX12_edition_153 : decode cX12_edition 153 = .ok (.isub, 1) := by decide +kernel
theorem dX12_edition_154 : decode cX12_edition 154 = .ok (.istore 4, 2) := by decide +kernel
theorem dX12_edition_156 : decode cX12_edition 156 = .ok (.iload 4, 2) := by decide +kernel
theorem dX12_edition_158 : decode cX12_edition 158 = .ok (.iload_n 2, 1) := by decide +kernel
theorem dX12_edition_159 : decode cX12_edition 159 = .ok (.invokestatic 386, 3) := by decide +kernel
theorem dX12_edition_162 : decode cX12_edition 162 = .ok (.if_icmp .lt 5, 3) := by decide +kernel
theorem dX12_edition_165 : decode cX12_edition 165 = .ok (.iconst (-1), 1) := by decide +kernel
theorem dX12_edition_166 : decode cX12_edition 166 = .ok (.ireturn, 1) := by decide +kernel
theorem dX12_edition_167 : decode cX12_edition 167 = .ok (.iconst 0, 1) := by decide +kernel
theorem dX12_edition_168 : decode cX12_edition 168 = .ok (.istore 5, 2) := by decide +kernel
theorem dX12_edition_170 : decode cX12_edition 170 = .ok (.iconst 0, 1) := by decide +kernel
theorem dX12_edition_171 : decode cX12_edition 171 = .ok (.istore 6, 2) := by decide +kernel
theorem dX12_edition_173 : decode cX12_edition 173 = .ok (.iload 6, 2) := by decide +kernel
theorem dX12_edition_175 : decode cX12_edition 175 = .ok (.aload_n 0, 1) := by decide +kernel
theorem dX12_edition_176 : decode cX12_edition 176 = .ok (.getfield 24, 3) := by decide +kernel
theorem dX12_edition_179 : decode cX12_edition 179 = .ok (.sipush 319, 3) := by decide +kernel
theorem dX12_edition_182 : decode cX12_edition 182 = .ok (.iaload, 1) := by decide +kernel
theorem dX12_edition_183 : decode cX12_edition 183 = .ok (.if_icmp .ge 44, 3) := by decide +kernel
theorem dX12_edition_186 : decode cX12_edition 186 = .ok (.iload_n 2, 1) := by decide +kernel
theorem dX12_edition_187 : decode cX12_edition 187 = .ok (.aload_n 0, 1) := by decide +kernel
theorem dX12_edition_188 : decode cX12_edition 188 = .ok (.getfield 92, 3) := by decide +kernel
theorem dX12_edition_191 : decode cX12_edition 191 = .ok (.iload 6, 2) := by decide +kernel
theorem dX12_edition_193 : decode cX12_edition 193 = .ok (.iaload, 1) := by decide +kernel
theorem dX12_edition_194 : decode cX12_edition 194 = .ok (.invokestatic 377, 3) := by decide +kernel
theorem dX12_edition_197 : decode cX12_edition 197 = .ok (.ifCond .ne 6, 3) := by decide +kernel
theorem dX12_edition_200 : decode cX12_edition 200 = .ok (.goto 21, 3) := by decide +kernel
theorem dX12_edition_203 : decode cX12_edition 203 = .ok (.iload 5, 2) := by decide +kernel
theorem dX12_edition_205 : decode cX12_edition 205 = .ok (.iload 4, 2) := by decide +kernel
theorem dX12_edition_207 : decode cX12_edition 207 = .ok (.if_icmp .ne 11, 3) := by decide +kernel
theorem dX12_edition_210 : decode cX12_edition 210 = .ok (.aload_n 0, 1) := by decide +kernel
theorem dX12_edition_211 : decode cX12_edition 211 = .ok (.getfield 92, 3) := by decide +kernel
theorem dX12_edition_214 : decode cX12_edition 214 = .ok (.iload 6, 2) := by decide +kernel
theorem dX12_edition_216 : decode cX12_edition 216 = .ok (.iaload, 1) := by decide +kernel
theorem dX12_edition_217 : decode cX12_edition 217 = .ok (.ireturn, 1) := by decide +kernel
theorem dX12_edition_218 : decode cX12_edition 218 = .ok (.iinc 5 1, 3) := by decide +kernel
theorem dX12_edition_221 : decode cX12_edition 221 = .ok (.iinc 6 1, 3) := by decide +kernel
theorem dX12_edition_224 : decode cX12_edition 224 = .ok (.goto (-51), 3) := by decide +kernel
theorem dX12_edition_227 : decode cX12_edition 227 = .ok (.iconst (-1), 1) := by decide +kernel
theorem dX12_edition_228 : decode cX12_edition 228 = .ok (.ireturn, 1) := by decide +kernel
theorem dX12_stopped_0 : decode cX12_stopped 0 = .ok (.aload_n 0, 1) := by decide +kernel
theorem dX12_stopped_1 : decode cX12_stopped 1 = .ok (.getfield 95, 3) := by decide +kernel
theorem dX12_stopped_4 : decode cX12_stopped 4 = .ok (.ireturn, 1) := by decide +kernel
theorem dX12_settings_0 : decode cX12_settings 0 = .ok (.aload_n 0, 1) := by decide +kernel
theorem dX12_settings_1 : decode cX12_settings 1 = .ok (.iconst (-1), 1) := by decide +kernel
theorem dX12_settings_2 : decode cX12_settings 2 = .ok (.putfield 95, 3) := by decide +kernel
theorem dX12_settings_5 : decode cX12_settings 5 = .ok (.aload_n 0, 1) := by decide +kernel
theorem dX12_settings_6 : decode cX12_settings 6 = .ok (.iconst 1, 1) := by decide +kernel
theorem dX12_settings_7 : decode cX12_settings 7 = .ok (.putfield 173, 3) := by decide +kernel
theorem dX12_settings_10 : decode cX12_settings 10 = .ok (.aload_n 0, 1) := by decide +kernel
theorem dX12_settings_11 : decode cX12_settings 11 = .ok (.invokevirtual 225, 3) := by decide +kernel
theorem dX12_settings_14 : decode cX12_settings 14 = .ok (.ifCond .ne 10, 3) := by decide +kernel
theorem dX12_settings_17 : decode cX12_settings 17 = .ok (.aload_n 0, 1) := by decide +kernel
theorem dX12_settings_18 : decode cX12_settings 18 = .ok (.bipush (-6), 2) := by decide +kernel
theorem dX12_settings_20 : decode cX12_settings 20 = .ok (.invokevirtual 105, 3) := by decide +kernel
theorem dX12_settings_23 : decode cX12_settings 23 = .ok (.ireturn, 1) := by decide +kernel
theorem dX12_settings_24 : decode cX12_settings 24 = .ok (.iconst 0, 1) := by decide +kernel
theorem dX12_settings_25 : decode cX12_settings 25 = .ok (.istore_n 1, 1) := by decide +kernel
theorem dX12_settings_26 : decode cX12_settings 26 = .ok (.iload_n 1, 1) := by decide +kernel
theorem dX12_settings_27 : decode cX12_settings 27 = .ok (.bipush 26, 2) := by decide +kernel
theorem dX12_settings_29 : decode cX12_settings 29 = .ok (.if_icmp .ge 21, 3) := by decide +kernel
theorem dX12_settings_32 : decode cX12_settings 32 = .ok (.aload_n 0, 1) := by decide +kernel
theorem dX12_settings_33 : decode cX12_settings 33 = .ok (.getfield 34, 3) := by decide +kernel
theorem dX12_settings_36 : decode cX12_settings 36 = .ok (.iload_n 1, 1) := by decide +kernel
theorem dX12_settings_37 : decode cX12_settings 37 = .ok (.aload_n 0, 1) := by decide +kernel
theorem dX12_settings_38 : decode cX12_settings 38 = .ok (.getfield 24, 3) := by decide +kernel
theorem dX12_settings_41 : decode cX12_settings 41 = .ok (.iload_n 1, 1) := by decide +kernel
theorem dX12_settings_42 : decode cX12_settings 42 = .ok (.iaload, 1) := by decide +kernel
theorem dX12_settings_43 : decode cX12_settings 43 = .ok (.iastore, 1) := by decide +kernel
theorem dX12_settings_44 : decode cX12_settings 44 = .ok (.iinc 1 1, 3) := by decide +kernel
theorem dX12_settings_47 : decode cX12_settings 47 = .ok (.goto (-21), 3) := by decide +kernel
theorem dX12_settings_50 : decode cX12_settings 50 = .ok (.iconst 0, 1) := by decide +kernel
theorem dX12_settings_51 : decode cX12_settings 51 = .ok (.istore_n 1, 1) := by decide +kernel
theorem dX12_settings_52 : decode cX12_settings 52 = .ok (.iload_n 1, 1) := by decide +kernel
theorem dX12_settings_53 : decode cX12_settings 53 = .ok (.sipush 432, 3) := by decide +kernel
theorem dX12_settings_56 : decode cX12_settings 56 = .ok (.if_icmp .ge 21, 3) := by decide +kernel
theorem dX12_settings_59 : decode cX12_settings 59 = .ok (.aload_n 0, 1) := by decide +kernel
theorem dX12_settings_60 : decode cX12_settings 60 = .ok (.getfield 65, 3) := by decide +kernel
theorem dX12_settings_63 : decode cX12_settings 63 = .ok (.iload_n 1, 1) := by decide +kernel
theorem dX12_settings_64 : decode cX12_settings 64 = .ok (.aload_n 0, 1) := by decide +kernel
theorem dX12_settings_65 : decode cX12_settings 65 = .ok (.getfield 62, 3) := by decide +kernel
theorem dX12_settings_68 : decode cX12_settings 68 = .ok (.iload_n 1, 1) := by decide +kernel
theorem dX12_settings_69 : decode cX12_settings 69 = .ok (.iaload, 1) := by decide +kernel
theorem dX12_settings_70 : decode cX12_settings 70 = .ok (.iastore, 1) := by decide +kernel
theorem dX12_settings_71 : decode cX12_settings 71 = .ok (.iinc 1 1, 3) := by decide +kernel
theorem dX12_settings_74 : decode cX12_settings 74 = .ok (.goto (-22), 3) := by decide +kernel
theorem dX12_settings_77 : decode cX12_settings 77 = .ok (.aload_n 0, 1) := by decide +kernel
theorem dX12_settings_78 : decode cX12_settings 78 = .ok (.getfield 11, 3) := by decide +kernel
theorem dX12_settings_81 : decode cX12_settings 81 = .ok (.istore_n 1, 1) := by decide +kernel
theorem dX12_settings_82 : decode cX12_settings 82 = .ok (.aload_n 0, 1) := by decide +kernel
theorem dX12_settings_83 : decode cX12_settings 83 = .ok (.getfield 24, 3) := by decide +kernel
theorem dX12_settings_86 : decode cX12_settings 86 = .ok (.sipush 315, 3) := by decide +kernel
theorem dX12_settings_89 : decode cX12_settings 89 = .ok (.iaload, 1) := by decide +kernel
theorem dX12_settings_90 : decode cX12_settings 90 = .ok (.istore_n 2, 1) := by decide +kernel
theorem dX12_settings_91 : decode cX12_settings 91 = .ok (.aload_n 0, 1) := by decide +kernel
theorem dX12_settings_92 : decode cX12_settings 92 = .ok (.bipush 6, 2) := by decide +kernel
theorem dX12_settings_94 : decode cX12_settings 94 = .ok (.invokevirtual 228, 3) := by decide +kernel
theorem dX12_settings_97 : decode cX12_settings 97 = .ok (.aload_n 0, 1) := by decide +kernel
theorem dX12_settings_98 : decode cX12_settings 98 = .ok (.iconst 0, 1) := by decide +kernel
theorem dX12_settings_99 : decode cX12_settings 99 = .ok (.putfield 273, 3) := by decide +kernel
theorem dX12_settings_102 : decode cX12_settings 102 = .ok (.aload_n 0, 1) := by decide +kernel
theorem dX12_settings_103 : decode cX12_settings 103 = .ok (.sipush 2400, 3) := by decide +kernel
theorem dX12_settings_106 : decode cX12_settings 106 = .ok (.putfield 389, 3) := by decide +kernel
theorem dX12_settings_109 : decode cX12_settings 109 = .ok (.aload_n 0, 1) := by decide +kernel
theorem dX12_settings_110 : decode cX12_settings 110 = .ok (.getfield 389, 3) := by decide +kernel
theorem dX12_settings_113 : decode cX12_settings 113 = .ok (.aload_n 0, 1) := by decide +kernel
theorem dX12_settings_114 : decode cX12_settings 114 = .ok (.getfield 24, 3) := by decide +kernel
theorem dX12_settings_117 : decode cX12_settings 117 = .ok (.sipush 328, 3) := by decide +kernel
theorem dX12_settings_120 : decode cX12_settings 120 = .ok (.iaload, 1) := by decide +kernel
theorem dX12_settings_121 : decode cX12_settings 121 = .ok (.iadd, 1) := by decide +kernel
theorem dX12_settings_122 : decode cX12_settings 122 = .ok (.istore_n 3, 1) := by decide +kernel
theorem dX12_settings_123 : decode cX12_settings 123 = .ok (.iconst 0, 1) := by decide +kernel
theorem dX12_settings_124 : decode cX12_settings 124 = .ok (.istore 4, 2) := by decide +kernel
theorem dX12_settings_126 : decode cX12_settings 126 = .ok (.aload_n 0, 1) := by decide +kernel
theorem dX12_settings_127 : decode cX12_settings 127 = .ok (.getfield 389, 3) := by decide +kernel
theorem dX12_settings_130 : decode cX12_settings 130 = .ok (.iload_n 3, 1) := by decide +kernel
theorem dX12_settings_131 : decode cX12_settings 131 = .ok (.if_icmp .ge 124, 3) := by decide +kernel
theorem dX12_settings_134 : decode cX12_settings 134 = .ok (.aload_n 0, 1) := by decide +kernel
theorem dX12_settings_135 : decode cX12_settings 135 = .ok (.iload_n 3, 1) := by decide +kernel
theorem dX12_settings_136 : decode cX12_settings 136 = .ok (.invokevirtual 392, 3) := by decide +kernel
theorem dX12_settings_139 : decode cX12_settings 139 = .ok (.istore 5, 2) := by decide +kernel
theorem dX12_settings_141 : decode cX12_settings 141 = .ok (.iload 5, 2) := by decide +kernel
theorem dX12_settings_143 : decode cX12_settings 143 = .ok (.ifCond .ne 6, 3) := by decide +kernel
theorem dX12_settings_146 : decode cX12_settings 146 = .ok (.goto 103, 3) := by decide +kernel
theorem dX12_settings_149 : decode cX12_settings 149 = .ok (.iconst 0, 1) := by decide +kernel
theorem dX12_settings_150 : decode cX12_settings 150 = .ok (.istore 6, 2) := by decide +kernel
theorem dX12_settings_152 : decode cX12_settings 152 = .ok (.iload 6, 2) := by decide +kernel
theorem dX12_settings_154 : decode cX12_settings 154 = .ok (.bipush 26, 2) := by decide +kernel
theorem dX12_settings_156 : decode cX12_settings 156 = .ok (.if_icmp .ge 23, 3) := by decide +kernel
theorem dX12_settings_159 : decode cX12_settings 159 = .ok (.aload_n 0, 1) := by decide +kernel
theorem dX12_settings_160 : decode cX12_settings 160 = .ok (.getfield 24, 3) := by decide +kernel
theorem dX12_settings_163 : decode cX12_settings 163 = .ok (.iload 6, 2) := by decide +kernel
theorem dX12_settings_165 : decode cX12_settings 165 = .ok (.aload_n 0, 1) := by decide +kernel
theorem dX12_settings_166 : decode cX12_settings 166 = .ok (.getfield 34, 3) := by decide +kernel
theorem dX12_settings_169 : decode cX12_settings 169 = .ok (.iload 6, 2) := by decide +kernel
theorem dX12_settings_171 : decode cX12_settings 171 = .ok (.iaload, 1) := by decide +kernel
theorem dX12_settings_172 : decode cX12_settings 172 = .ok (.iastore, 1) := by decide +kernel
theorem dX12_settings_173 : decode cX12_settings 173 = .ok (.iinc 6 1, 3) := by decide +kernel
theorem dX12_settings_176 : decode cX12_settings 176 = .ok (.goto (-24), 3) := by decide +kernel
theorem dX12_settings_179 : decode cX12_settings 179 = .ok (.iconst 0, 1) := by decide +kernel
theorem dX12_settings_180 : decode cX12_settings 180 = .ok (.istore 6, 2) := by decide +kernel
theorem dX12_settings_182 : decode cX12_settings 182 = .ok (.iload 6, 2) := by decide +kernel
theorem dX12_settings_184 : decode cX12_settings 184 = .ok (.sipush 432, 3) := by decide +kernel
theorem dX12_settings_187 : decode cX12_settings 187 = .ok (.if_icmp .ge 23, 3) := by decide +kernel
theorem dX12_settings_190 : decode cX12_settings 190 = .ok (.aload_n 0, 1) := by decide +kernel
theorem dX12_settings_191 : decode cX12_settings 191 = .ok (.getfield 62, 3) := by decide +kernel
theorem dX12_settings_194 : decode cX12_settings 194 = .ok (.iload 6, 2) := by decide +kernel
theorem dX12_settings_196 : decode cX12_settings 196 = .ok (.aload_n 0, 1) := by decide +kernel
theorem dX12_settings_197 : decode cX12_settings 197 = .ok (.getfield 65, 3) := by decide +kernel
theorem dX12_settings_200 : decode cX12_settings 200 = .ok (.iload 6, 2) := by decide +kernel
theorem dX12_settings_202 : decode cX12_settings 202 = .ok (.iaload, 1) := by decide +kernel
theorem dX12_settings_203 : decode cX12_settings 203 = .ok (.iastore, 1) := by decide +kernel
theorem dX12_settings_204 : decode cX12_settings 204 = .ok (.iinc 6 1, 3) := by decide +kernel
theorem dX12_settings_207 : decode cX12_settings 207 = .ok (.goto (-25), 3) := by decide +kernel
theorem dX12_settings_210 : decode cX12_settings 210 = .ok (.aload_n 0, 1) := by decide +kernel
theorem dX12_settings_211 : decode cX12_settings 211 = .ok (.iload_n 1, 1) := by decide +kernel
theorem dX12_settings_212 : decode cX12_settings 212 = .ok (.putfield 11, 3) := by decide +kernel
theorem dX12_settings_215 : decode cX12_settings 215 = .ok (.aload_n 0, 1) := by decide +kernel
theorem dX12_settings_216 : decode cX12_settings 216 = .ok (.getfield 24, 3) := by decide +kernel
theorem dX12_settings_219 : decode cX12_settings 219 = .ok (.sipush 315, 3) := by decide +kernel
theorem dX12_settings_222 : decode cX12_settings 222 = .ok (.iload_n 2, 1) := by decide +kernel
theorem dX12_settings_223 : decode cX12_settings 223 = .ok (.iastore, 1) := by decide +kernel
theorem dX12_settings_224 : decode cX12_settings 224 = .ok (.aload_n 0, 1) := by decide +kernel
theorem dX12_settings_225 : decode cX12_settings 225 = .ok (.iload 4, 2) := by decide +kernel
theorem dX12_settings_227 : decode cX12_settings 227 = .ok (.putfield 95, 3) := by decide +kernel
theorem dX12_settings_230 : decode cX12_settings 230 = .ok (.aload_n 0, 1) := by decide +kernel
theorem dX12_settings_231 : decode cX12_settings 231 = .ok (.iload 5, 2) := by decide +kernel
theorem dX12_settings_233 : decode cX12_settings 233 = .ok (.bipush (-5), 2) := by decide +kernel
theorem dX12_settings_235 : decode cX12_settings 235 = .ok (.if_icmp .ne 8, 3) := by decide +kernel
theorem dX12_settings_238 : decode cX12_settings 238 = .ok (.bipush (-5), 2) := by decide +kernel
theorem dX12_settings_240 : decode cX12_settings 240 = .ok (.goto 5, 3) := by decide +kernel
theorem dX12_settings_243 : decode cX12_settings 243 = .ok (.bipush (-3), 2) := by decide +kernel
theorem dX12_settings_245 : decode cX12_settings 245 = .ok (.invokevirtual 105, 3) := by decide +kernel
theorem dX12_settings_248 : decode cX12_settings 248 = .ok (.ireturn, 1) := by decide +kernel
theorem dX12_settings_249 : decode cX12_settings 249 = .ok (.iinc 4 1, 3) := by decide +kernel
theorem dX12_settings_252 : decode cX12_settings 252 = .ok (.goto (-126), 3) := by decide +kernel
theorem dX12_settings_255 : decode cX12_settings 255 = .ok (.aload_n 0, 1) := by decide +kernel
theorem dX12_settings_256 : decode cX12_settings 256 = .ok (.aload_n 0, 1) := by decide +kernel
theorem dX12_settings_257 : decode cX12_settings 257 = .ok (.getfield 273, 3) := by decide +kernel
theorem dX12_settings_260 : decode cX12_settings 260 = .ok (.invokevirtual 14, 3) := by decide +kernel
theorem dX12_settings_263 : decode cX12_settings 263 = .ok (.ireturn, 1) := by decide +kernel
theorem dX12_goesAlong_0 : decode cX12_goesAlong 0 = .ok (.aload_n 0, 1) := by decide +kernel
theorem dX12_goesAlong_1 : decode cX12_goesAlong 1 = .ok (.iconst 1, 1) := by decide +kernel
theorem dX12_goesAlong_2 : decode cX12_goesAlong 2 = .ok (.putfield 264, 3) := by decide +kernel
theorem dX12_goesAlong_5 : decode cX12_goesAlong 5 = .ok (.aload_n 0, 1) := by decide +kernel
theorem dX12_goesAlong_6 : decode cX12_goesAlong 6 = .ok (.iload_n 1, 1) := by decide +kernel
theorem dX12_goesAlong_7 : decode cX12_goesAlong 7 = .ok (.putfield 231, 3) := by decide +kernel
theorem dX12_goesAlong_10 : decode cX12_goesAlong 10 = .ok (.aload_n 0, 1) := by decide +kernel
theorem dX12_goesAlong_11 : decode cX12_goesAlong 11 = .ok (.aload_n 0, 1) := by decide +kernel
theorem dX12_goesAlong_12 : decode cX12_goesAlong 12 = .ok (.getfield 389, 3) := by decide +kernel
theorem dX12_goesAlong_15 : decode cX12_goesAlong 15 = .ok (.putfield 234, 3) := by decide +kernel
theorem dX12_goesAlong_18 : decode cX12_goesAlong 18 = .ok (.aload_n 0, 1) := by decide +kernel
theorem dX12_goesAlong_19 : decode cX12_goesAlong 19 = .ok (.aload_n 0, 1) := by decide +kernel
theorem dX12_goesAlong_20 : decode cX12_goesAlong 20 = .ok (.aload_n 0, 1) := by decide +kernel
theorem dX12_goesAlong_21 : decode cX12_goesAlong 21 = .ok (.getfield 234, 3) := by decide +kernel
theorem dX12_goesAlong_24 : decode cX12_goesAlong 24 = .ok (.invokevirtual 237, 3) := by decide +kernel
theorem dX12_goesAlong_27 : decode cX12_goesAlong 27 = .ok (.putfield 395, 3) := by decide +kernel
theorem dX12_goesAlong_30 : decode cX12_goesAlong 30 = .ok (.aload_n 0, 1) := by decide +kernel
theorem dX12_goesAlong_31 : decode cX12_goesAlong 31 = .ok (.dup, 1) := by decide +kernel
theorem dX12_goesAlong_32 : decode cX12_goesAlong 32 = .ok (.getfield 234, 3) := by decide +kernel
theorem dX12_goesAlong_35 : decode cX12_goesAlong 35 = .ok (.iconst 1, 1) := by decide +kernel
theorem dX12_goesAlong_36 : decode cX12_goesAlong 36 = .ok (.iadd, 1) := by decide +kernel
theorem dX12_goesAlong_37 : decode cX12_goesAlong 37 = .ok (.putfield 234, 3) := by decide +kernel
theorem dX12_goesAlong_40 : decode cX12_goesAlong 40 = .ok (.aload_n 0, 1) := by decide +kernel
theorem dX12_goesAlong_41 : decode cX12_goesAlong 41 = .ok (.iconst 0, 1) := by decide +kernel
theorem dX12_goesAlong_42 : decode cX12_goesAlong 42 = .ok (.putfield 244, 3) := by decide +kernel
theorem dX12_goesAlong_45 : decode cX12_goesAlong 45 = .ok (.aload_n 0, 1) := by decide +kernel
theorem dX12_goesAlong_46 : decode cX12_goesAlong 46 = .ok (.aload_n 0, 1) := by decide +kernel
theorem dX12_goesAlong_47 : decode cX12_goesAlong 47 = .ok (.getfield 395, 3) := by decide +kernel
theorem dX12_goesAlong_50 : decode cX12_goesAlong 50 = .ok (.bipush 25, 2) := by decide +kernel
theorem dX12_goesAlong_52 : decode cX12_goesAlong 52 = .ok (.if_icmp .eq 12, 3) := by decide +kernel
theorem dX12_goesAlong_55 : decode cX12_goesAlong 55 = .ok (.aload_n 0, 1) := by decide +kernel
theorem dX12_goesAlong_56 : decode cX12_goesAlong 56 = .ok (.getfield 395, 3) := by decide +kernel
theorem dX12_goesAlong_59 : decode cX12_goesAlong 59 = .ok (.bipush 18, 2) := by decide +kernel
theorem dX12_goesAlong_61 : decode cX12_goesAlong 61 = .ok (.if_icmp .ne 11, 3) := by decide +kernel
theorem dX12_goesAlong_64 : decode cX12_goesAlong 64 = .ok (.aload_n 0, 1) := by decide +kernel
theorem dX12_goesAlong_65 : decode cX12_goesAlong 65 = .ok (.iload_n 2, 1) := by decide +kernel
theorem dX12_goesAlong_66 : decode cX12_goesAlong 66 = .ok (.invokevirtual 261, 3) := by decide +kernel
theorem dX12_goesAlong_69 : decode cX12_goesAlong 69 = .ok (.goto 4, 3) := by decide +kernel
theorem dX12_goesAlong_72 : decode cX12_goesAlong 72 = .ok (.lconst 0, 1) := by decide +kernel
theorem dX12_goesAlong_73 : decode cX12_goesAlong 73 = .ok (.putfield 398, 3) := by decide +kernel
theorem dX12_goesAlong_76 : decode cX12_goesAlong 76 = .ok (.aload_n 0, 1) := by decide +kernel
theorem dX12_goesAlong_77 : decode cX12_goesAlong 77 = .ok (.aload_n 0, 1) := by decide +kernel
theorem dX12_goesAlong_78 : decode cX12_goesAlong 78 = .ok (.getfield 244, 3) := by decide +kernel
theorem dX12_goesAlong_81 : decode cX12_goesAlong 81 = .ok (.ifCond .ne 7, 3) := by decide +kernel
theorem dX12_goesAlong_84 : decode cX12_goesAlong 84 = .ok (.iconst 1, 1) := by decide +kernel
theorem dX12_goesAlong_85 : decode cX12_goesAlong 85 = .ok (.goto 4, 3) := by decide +kernel
theorem dX12_goesAlong_88 : decode cX12_goesAlong 88 = .ok (.iconst 0, 1) := by decide +kernel
theorem dX12_goesAlong_89 : decode cX12_goesAlong 89 = .ok (.putfield 402, 3) := by decide +kernel
theorem dX12_goesAlong_92 : decode cX12_goesAlong 92 = .ok (.aload_n 0, 1) := by decide +kernel
theorem dX12_goesAlong_93 : decode cX12_goesAlong 93 = .ok (.iconst 1, 1) := by decide +kernel
theorem dX12_goesAlong_94 : decode cX12_goesAlong 94 = .ok (.putfield 405, 3) := by decide +kernel
theorem dX12_goesAlong_97 : decode cX12_goesAlong 97 = .ok (.aload_n 0, 1) := by decide +kernel
theorem dX12_goesAlong_98 : decode cX12_goesAlong 98 = .ok (.bipush 28, 2) := by decide +kernel
theorem dX12_goesAlong_100 : decode cX12_goesAlong 100 = .ok (.invokevirtual 258, 3) := by decide +kernel
theorem dX12_goesAlong_103 : decode cX12_goesAlong 103 = .ok (.ifCond .eq 30, 3) := by decide +kernel
theorem dX12_goesAlong_106 : decode cX12_goesAlong 106 = .ok (.aload_n 0, 1) := by decide +kernel
theorem dX12_goesAlong_107 : decode cX12_goesAlong 107 = .ok (.aload_n 0, 1) := by decide +kernel
theorem dX12_goesAlong_108 : decode cX12_goesAlong 108 = .ok (.getfield 24, 3) := by decide +kernel
theorem dX12_goesAlong_111 : decode cX12_goesAlong 111 = .ok (.sipush 3129, 3) := by decide +kernel
theorem dX12_goesAlong_114 : decode cX12_goesAlong 114 = .ok (.aload_n 0, 1) := by decide +kernel
theorem dX12_goesAlong_115 : decode cX12_goesAlong 115 = .ok (.getfield 234, 3) := by decide +kernel
theorem dX12_goesAlong_118 : decode cX12_goesAlong 118 = .ok (.iadd, 1) := by decide +kernel
theorem dX12_goesAlong_119 : decode cX12_goesAlong 119 = .ok (.iaload, 1) := by decide +kernel
theorem dX12_goesAlong_120 : decode cX12_goesAlong 120 = .ok (.putfield 405, 3) := by decide +kernel
theorem dX12_goesAlong_123 : decode cX12_goesAlong 123 = .ok (.aload_n 0, 1) := by decide +kernel
theorem dX12_goesAlong_124 : decode cX12_goesAlong 124 = .ok (.dup, 1) := by decide +kernel
theorem dX12_goesAlong_125 : decode cX12_goesAlong 125 = .ok (.getfield 234, 3) := by decide +kernel
theorem dX12_goesAlong_128 : decode cX12_goesAlong 128 = .ok (.iconst 1, 1) := by decide +kernel
theorem dX12_goesAlong_129 : decode cX12_goesAlong 129 = .ok (.iadd, 1) := by decide +kernel
theorem dX12_goesAlong_130 : decode cX12_goesAlong 130 = .ok (.putfield 234, 3) := by decide +kernel
theorem dX12_goesAlong_133 : decode cX12_goesAlong 133 = .ok (.aload_n 0, 1) := by decide +kernel
theorem dX12_goesAlong_134 : decode cX12_goesAlong 134 = .ok (.iconst 0, 1) := by decide +kernel
theorem dX12_goesAlong_135 : decode cX12_goesAlong 135 = .ok (.putfield 244, 3) := by decide +kernel
theorem dX12_goesAlong_138 : decode cX12_goesAlong 138 = .ok (.aload_n 0, 1) := by decide +kernel
theorem dX12_goesAlong_139 : decode cX12_goesAlong 139 = .ok (.aload_n 0, 1) := by decide +kernel
theorem dX12_goesAlong_140 : decode cX12_goesAlong 140 = .ok (.iconst 4, 1) := by decide +kernel
theorem dX12_goesAlong_141 : decode cX12_goesAlong 141 = .ok (.invokevirtual 258, 3) := by decide +kernel
theorem dX12_goesAlong_144 : decode cX12_goesAlong 144 = .ok (.ifCond .eq 11, 3) := by decide +kernel
theorem dX12_goesAlong_147 : decode cX12_goesAlong 147 = .ok (.aload_n 0, 1) := by decide +kernel
theorem dX12_goesAlong_148 : decode cX12_goesAlong 148 = .ok (.iload_n 2, 1) := by decide +kernel
theorem dX12_goesAlong_149 : decode cX12_goesAlong 149 = .ok (.invokevirtual 286, 3) := by decide +kernel
theorem dX12_goesAlong_152 : decode cX12_goesAlong 152 = .ok (.ifCond .eq 7, 3) := by decide +kernel
theorem dX12_goesAlong_155 : decode cX12_goesAlong 155 = .ok (.iconst 1, 1) := by decide +kernel
theorem dX12_goesAlong_156 : decode cX12_goesAlong 156 = .ok (.goto 4, 3) := by decide +kernel
theorem dX12_goesAlong_159 : decode cX12_goesAlong 159 = .ok (.iconst 0, 1) := by decide +kernel
theorem dX12_goesAlong_160 : decode cX12_goesAlong 160 = .ok (.putfield 408, 3) := by decide +kernel
theorem dX12_goesAlong_163 : decode cX12_goesAlong 163 = .ok (.aload_n 0, 1) := by decide +kernel
theorem dX12_goesAlong_164 : decode cX12_goesAlong 164 = .ok (.aload_n 0, 1) := by decide +kernel
theorem dX12_goesAlong_165 : decode cX12_goesAlong 165 = .ok (.getfield 408, 3) := by decide +kernel
theorem dX12_goesAlong_168 : decode cX12_goesAlong 168 = .ok (.ifCond .eq 14, 3) := by decide +kernel
theorem dX12_goesAlong_171 : decode cX12_goesAlong 171 = .ok (.aload_n 0, 1) := by decide +kernel
theorem dX12_goesAlong_172 : decode cX12_goesAlong 172 = .ok (.getfield 244, 3) := by decide +kernel
theorem dX12_goesAlong_175 : decode cX12_goesAlong 175 = .ok (.ifCond .ne 7, 3) := by decide +kernel
theorem dX12_goesAlong_178 : decode cX12_goesAlong 178 = .ok (.iconst 1, 1) := by decide +kernel
theorem dX12_goesAlong_179 : decode cX12_goesAlong 179 = .ok (.goto 4, 3) := by decide +kernel
theorem dX12_goesAlong_182 : decode cX12_goesAlong 182 = .ok (.iconst 0, 1) := by decide +kernel
theorem dX12_goesAlong_183 : decode cX12_goesAlong 183 = .ok (.putfield 408, 3) := by decide +kernel
theorem dX12_goesAlong_186 : decode cX12_goesAlong 186 = .ok (.aload_n 0, 1) := by decide +kernel
theorem dX12_goesAlong_187 : decode cX12_goesAlong 187 = .ok (.dup, 1) := by decide +kernel
theorem dX12_goesAlong_188 : decode cX12_goesAlong 188 = .ok (.getfield 234, 3) := by decide +kernel
theorem dX12_goesAlong_191 : decode cX12_goesAlong 191 = .ok (.iconst 1, 1) := by decide +kernel
theorem dX12_goesAlong_192 : decode cX12_goesAlong 192 = .ok (.iadd, 1) := by decide +kernel
theorem dX12_goesAlong_193 : decode cX12_goesAlong 193 = .ok (.putfield 234, 3) := by decide +kernel
theorem dX12_goesAlong_196 : decode cX12_goesAlong 196 = .ok (.return_, 1) := by decide +kernel
theorem dX12_small_0 : decode cX12_small 0 = .ok (.lload_n 0, 1) := by decide +kernel
theorem dX12_small_1 : decode cX12_small 1 = .ok (.lconst 0, 1) := by decide +kernel
theorem dX12_small_2 : decode cX12_small 2 = .ok (.lcmp, 1) := by decide +kernel
theorem dX12_small_3 : decode cX12_small 3 = .ok (.ifCond .lt 11, 3) := by decide +kernel
theorem dX12_small_6 : decode cX12_small 6 = .ok (.lload_n 0, 1) := by decide +kernel
theorem dX12_small_7 : decode cX12_small 7 = .ok (.ldc2_w 411, 3) := by decide +kernel
theorem dX12_small_10 : decode cX12_small 10 = .ok (.lcmp, 1) := by decide +kernel
theorem dX12_small_11 : decode cX12_small 11 = .ok (.ifCond .le 7, 3) := by decide +kernel
theorem dX12_small_14 : decode cX12_small 14 = .ok (.iconst (-1), 1) := by decide +kernel
theorem dX12_small_15 : decode cX12_small 15 = .ok (.goto 5, 3) := by decide +kernel
theorem dX12_small_18 : decode cX12_small 18 = .ok (.lload_n 0, 1) := by decide +kernel
theorem dX12_small_19 : decode cX12_small 19 = .ok (.l2i, 1) := by decide +kernel
theorem dX12_small_20 : decode cX12_small 20 = .ok (.ireturn, 1) := by decide +kernel
theorem dX12_obeys_0 : decode cX12_obeys 0 = .ok (.aload_n 0, 1) := by decide +kernel
theorem dX12_obeys_1 : decode cX12_obeys 1 = .ok (.getfield 395, 3) := by decide +kernel
theorem dX12_obeys_4 : decode cX12_obeys 4 = .ok (.tableswitch 50 25 27 #[28, 40, 45], 28) := by decide +kernel
theorem dX12_obeys_32 : decode cX12_obeys 32 = .ok (.aload_n 0, 1) := by decide +kernel
theorem dX12_obeys_33 : decode cX12_obeys 33 = .ok (.aload_n 0, 1) := by decide +kernel
theorem dX12_obeys_34 : decode cX12_obeys 34 = .ok (.getfield 398, 3) := by decide +kernel
theorem dX12_obeys_37 : decode cX12_obeys 37 = .ok (.invokestatic 413, 3) := by decide +kernel
theorem dX12_obeys_40 : decode cX12_obeys 40 = .ok (.invokevirtual 323, 3) := by decide +kernel
theorem dX12_obeys_43 : decode cX12_obeys 43 = .ok (.ireturn, 1) := by decide +kernel
theorem dX12_obeys_44 : decode cX12_obeys 44 = .ok (.aload_n 0, 1) := by decide +kernel
theorem dX12_obeys_45 : decode cX12_obeys 45 = .ok (.invokevirtual 326, 3) := by decide +kernel
theorem dX12_obeys_48 : decode cX12_obeys 48 = .ok (.ireturn, 1) := by decide +kernel
theorem dX12_obeys_49 : decode cX12_obeys 49 = .ok (.aload_n 0, 1) := by decide +kernel
theorem dX12_obeys_50 : decode cX12_obeys 50 = .ok (.invokevirtual 330, 3) := by decide +kernel
theorem dX12_obeys_53 : decode cX12_obeys 53 = .ok (.ireturn, 1) := by decide +kernel
theorem dX12_obeys_54 : decode cX12_obeys 54 = .ok (.aload_n 0, 1) := by decide +kernel
theorem dX12_obeys_55 : decode cX12_obeys 55 = .ok (.aload_n 0, 1) := by decide +kernel
theorem dX12_obeys_56 : decode cX12_obeys 56 = .ok (.getfield 398, 3) := by decide +kernel
theorem dX12_obeys_59 : decode cX12_obeys 59 = .ok (.invokestatic 413, 3) := by decide +kernel
theorem dX12_obeys_62 : decode cX12_obeys 62 = .ok (.invokevirtual 111, 3) := by decide +kernel
theorem dX12_obeys_65 : decode cX12_obeys 65 = .ok (.ireturn, 1) := by decide +kernel
theorem dX12_runs_0 : decode cX12_runs 0 = .ok (.aload_n 0, 1) := by decide +kernel
theorem dX12_runs_1 : decode cX12_runs 1 = .ok (.iload_n 1, 1) := by decide +kernel
theorem dX12_runs_2 : decode cX12_runs 2 = .ok (.iconst 0, 1) := by decide +kernel
theorem dX12_runs_3 : decode cX12_runs 3 = .ok (.invokevirtual 417, 3) := by decide +kernel
theorem dX12_runs_6 : decode cX12_runs 6 = .ok (.aload_n 0, 1) := by decide +kernel
theorem dX12_runs_7 : decode cX12_runs 7 = .ok (.getfield 405, 3) := by decide +kernel
theorem dX12_runs_10 : decode cX12_runs 10 = .ok (.istore_n 2, 1) := by decide +kernel
theorem dX12_runs_11 : decode cX12_runs 11 = .ok (.aload_n 0, 1) := by decide +kernel
theorem dX12_runs_12 : decode cX12_runs 12 = .ok (.getfield 234, 3) := by decide +kernel
theorem dX12_runs_15 : decode cX12_runs 15 = .ok (.istore_n 3, 1) := by decide +kernel
theorem dX12_runs_16 : decode cX12_runs 16 = .ok (.iconst 0, 1) := by decide +kernel
theorem dX12_runs_17 : decode cX12_runs 17 = .ok (.istore 4, 2) := by decide +kernel
theorem dX12_runs_19 : decode cX12_runs 19 = .ok (.iload 4, 2) := by decide +kernel
theorem dX12_runs_21 : decode cX12_runs 21 = .ok (.iload_n 2, 1) := by decide +kernel
theorem dX12_runs_22 : decode cX12_runs 22 = .ok (.if_icmp .ge 59, 3) := by decide +kernel
theorem dX12_runs_25 : decode cX12_runs 25 = .ok (.aload_n 0, 1) := by decide +kernel
theorem dX12_runs_26 : decode cX12_runs 26 = .ok (.iload_n 1, 1) := by decide +kernel
theorem dX12_runs_27 : decode cX12_runs 27 = .ok (.iconst 1, 1) := by decide +kernel
theorem dX12_runs_28 : decode cX12_runs 28 = .ok (.invokevirtual 417, 3) := by decide +kernel
theorem dX12_runs_31 : decode cX12_runs 31 = .ok (.aload_n 0, 1) := by decide +kernel
theorem dX12_runs_32 : decode cX12_runs 32 = .ok (.getfield 408, 3) := by decide +kernel
theorem dX12_runs_35 : decode cX12_runs 35 = .ok (.ifCond .ne 6, 3) := by decide +kernel
theorem dX12_runs_38 : decode cX12_runs 38 = .ok (.goto 37, 3) := by decide +kernel
theorem dX12_runs_41 : decode cX12_runs 41 = .ok (.aload_n 0, 1) := by decide +kernel
theorem dX12_runs_42 : decode cX12_runs 42 = .ok (.getfield 402, 3) := by decide +kernel
theorem dX12_runs_45 : decode cX12_runs 45 = .ok (.ifCond .ne 6, 3) := by decide +kernel
theorem dX12_runs_48 : decode cX12_runs 48 = .ok (.bipush (-3), 2) := by decide +kernel
theorem dX12_runs_50 : decode cX12_runs 50 = .ok (.ireturn, 1) := by decide +kernel
theorem dX12_runs_51 : decode cX12_runs 51 = .ok (.aload_n 0, 1) := by decide +kernel
theorem dX12_runs_52 : decode cX12_runs 52 = .ok (.invokevirtual 421, 3) := by decide +kernel
theorem dX12_runs_55 : decode cX12_runs 55 = .ok (.istore 5, 2) := by decide +kernel
theorem dX12_runs_57 : decode cX12_runs 57 = .ok (.iload 5, 2) := by decide +kernel
theorem dX12_runs_59 : decode cX12_runs 59 = .ok (.ifCond .ge 6, 3) := by decide +kernel
theorem dX12_runs_62 : decode cX12_runs 62 = .ok (.iload 5, 2) := by decide +kernel
theorem dX12_runs_64 : decode cX12_runs 64 = .ok (.ireturn, 1) := by decide +kernel
theorem dX12_runs_65 : decode cX12_runs 65 = .ok (.aload_n 0, 1) := by decide +kernel
theorem dX12_runs_66 : decode cX12_runs 66 = .ok (.dup, 1) := by decide +kernel
theorem dX12_runs_67 : decode cX12_runs 67 = .ok (.getfield 273, 3) := by decide +kernel
theorem dX12_runs_70 : decode cX12_runs 70 = .ok (.iconst 1, 1) := by decide +kernel
theorem dX12_runs_71 : decode cX12_runs 71 = .ok (.iadd, 1) := by decide +kernel
theorem dX12_runs_72 : decode cX12_runs 72 = .ok (.putfield 273, 3) := by decide +kernel
theorem dX12_runs_75 : decode cX12_runs 75 = .ok (.iinc 4 1, 3) := by decide +kernel
theorem dX12_runs_78 : decode cX12_runs 78 = .ok (.goto (-59), 3) := by decide +kernel
theorem dX12_runs_81 : decode cX12_runs 81 = .ok (.aload_n 0, 1) := by decide +kernel
theorem dX12_runs_82 : decode cX12_runs 82 = .ok (.iload_n 3, 1) := by decide +kernel
theorem dX12_runs_83 : decode cX12_runs 83 = .ok (.putfield 389, 3) := by decide +kernel
theorem dX12_runs_86 : decode cX12_runs 86 = .ok (.iconst 0, 1) := by decide +kernel
theorem dX12_runs_87 : decode cX12_runs 87 = .ok (.ireturn, 1) := by decide +kernel
theorem dX12_draws_0 : decode cX12_draws 0 = .ok (.aload_n 0, 1) := by decide +kernel
theorem dX12_draws_1 : decode cX12_draws 1 = .ok (.ldc2_w 424, 3) := by decide +kernel
theorem dX12_draws_4 : decode cX12_draws 4 = .ok (.aload_n 0, 1) := by decide +kernel
theorem dX12_draws_5 : decode cX12_draws 5 = .ok (.getfield 426, 3) := by decide +kernel
theorem dX12_draws_8 : decode cX12_draws 8 = .ok (.i2l, 1) := by decide +kernel
theorem dX12_draws_9 : decode cX12_draws 9 = .ok (.lmul, 1) := by decide +kernel
theorem dX12_draws_10 : decode cX12_draws 10 = .ok (.ldc2_w 429, 3) := by decide +kernel
theorem dX12_draws_13 : decode cX12_draws 13 = .ok (.ladd, 1) := by decide +kernel
theorem dX12_draws_14 : decode cX12_draws 14 = .ok (.ldc2_w 431, 3) := by decide +kernel
theorem dX12_draws_17 : decode cX12_draws 17 = .ok (.lrem, 1) := by decide +kernel
theorem dX12_draws_18 : decode cX12_draws 18 = .ok (.l2i, 1) := by decide +kernel
theorem dX12_draws_19 : decode cX12_draws 19 = .ok (.putfield 426, 3) := by decide +kernel
theorem dX12_draws_22 : decode cX12_draws 22 = .ok (.aload_n 0, 1) := by decide +kernel
theorem dX12_draws_23 : decode cX12_draws 23 = .ok (.getfield 426, 3) := by decide +kernel
theorem dX12_draws_26 : decode cX12_draws 26 = .ok (.iload_n 1, 1) := by decide +kernel
theorem dX12_draws_27 : decode cX12_draws 27 = .ok (.irem, 1) := by decide +kernel
theorem dX12_draws_28 : decode cX12_draws 28 = .ok (.ireturn, 1) := by decide +kernel
theorem dX12_readers_0 : decode cX12_readers 0 = .ok (.iload_n 1, 1) := by decide +kernel
theorem dX12_readers_1 : decode cX12_readers 1 = .ok (.iconst 0, 1) := by decide +kernel
theorem dX12_readers_2 : decode cX12_readers 2 = .ok (.ldc 153, 2) := by decide +kernel
theorem dX12_readers_4 : decode cX12_readers 4 = .ok (.invokestatic 101, 3) := by decide +kernel
theorem dX12_readers_7 : decode cX12_readers 7 = .ok (.ifCond .eq 13, 3) := by decide +kernel
theorem dX12_readers_10 : decode cX12_readers 10 = .ok (.iload_n 2, 1) := by decide +kernel
theorem dX12_readers_11 : decode cX12_readers 11 = .ok (.iconst 1, 1) := by decide +kernel
theorem dX12_readers_12 : decode cX12_readers 12 = .ok (.bipush 100, 2) := by decide +kernel
theorem dX12_readers_14 : decode cX12_readers 14 = .ok (.invokestatic 101, 3) := by decide +kernel
theorem dX12_readers_17 : decode cX12_readers 17 = .ok (.ifCond .ne 9, 3) := by decide +kernel
theorem dX12_readers_20 : decode cX12_readers 20 = .ok (.aload_n 0, 1) := by decide +kernel
theorem dX12_readers_21 : decode cX12_readers 21 = .ok (.iconst (-1), 1) := by decide +kernel
theorem dX12_readers_22 : decode cX12_readers 22 = .ok (.invokevirtual 105, 3) := by decide +kernel
theorem dX12_readers_25 : decode cX12_readers 25 = .ok (.ireturn, 1) := by decide +kernel
theorem dX12_readers_26 : decode cX12_readers 26 = .ok (.aload_n 0, 1) := by decide +kernel
theorem dX12_readers_27 : decode cX12_readers 27 = .ok (.iload_n 1, 1) := by decide +kernel
theorem dX12_readers_28 : decode cX12_readers 28 = .ok (.putfield 426, 3) := by decide +kernel
theorem dX12_readers_31 : decode cX12_readers 31 = .ok (.aload_n 0, 1) := by decide +kernel
theorem dX12_readers_32 : decode cX12_readers 32 = .ok (.aload_n 0, 1) := by decide +kernel
theorem dX12_readers_33 : decode cX12_readers 33 = .ok (.getfield 24, 3) := by decide +kernel
theorem dX12_readers_36 : decode cX12_readers 36 = .ok (.bipush 24, 2) := by decide +kernel
theorem dX12_readers_38 : decode cX12_readers 38 = .ok (.iaload, 1) := by decide +kernel
theorem dX12_readers_39 : decode cX12_readers 39 = .ok (.putfield 433, 3) := by decide +kernel
theorem dX12_readers_42 : decode cX12_readers 42 = .ok (.iconst 0, 1) := by decide +kernel
theorem dX12_readers_43 : decode cX12_readers 43 = .ok (.istore_n 3, 1) := by decide +kernel
theorem dX12_readers_44 : decode cX12_readers 44 = .ok (.iload_n 3, 1) := by decide +kernel
theorem dX12_readers_45 : decode cX12_readers 45 = .ok (.bipush 12, 2) := by decide +kernel
theorem dX12_readers_47 : decode cX12_readers 47 = .ok (.if_icmp .ge 16, 3) := by decide +kernel
theorem dX12_readers_50 : decode cX12_readers 50 = .ok (.aload_n 0, 1) := by decide +kernel
theorem dX12_readers_51 : decode cX12_readers 51 = .ok (.getfield 98, 3) := by decide +kernel
theorem dX12_readers_54 : decode cX12_readers 54 = .ok (.iload_n 3, 1) := by decide +kernel
theorem dX12_readers_55 : decode cX12_readers 55 = .ok (.iconst 0, 1) := by decide +kernel
theorem dX12_readers_56 : decode cX12_readers 56 = .ok (.iastore, 1) := by decide +kernel
theorem dX12_readers_57 : decode cX12_readers 57 = .ok (.iinc 3 1, 3) := by decide +kernel
theorem dX12_readers_60 : decode cX12_readers 60 = .ok (.goto (-16), 3) := by decide +kernel
theorem dX12_readers_63 : decode cX12_readers 63 = .ok (.iconst 0, 1) := by decide +kernel
theorem dX12_readers_64 : decode cX12_readers 64 = .ok (.istore_n 3, 1) := by decide +kernel
theorem dX12_readers_65 : decode cX12_readers 65 = .ok (.iconst 0, 1) := by decide +kernel
theorem dX12_readers_66 : decode cX12_readers 66 = .ok (.istore 4, 2) := by decide +kernel
theorem dX12_readers_68 : decode cX12_readers 68 = .ok (.iload 4, 2) := by decide +kernel
theorem dX12_readers_70 : decode cX12_readers 70 = .ok (.iload_n 2, 1) := by decide +kernel
theorem dX12_readers_71 : decode cX12_readers 71 = .ok (.if_icmp .ge 112, 3) := by decide +kernel
theorem dX12_readers_74 : decode cX12_readers 74 = .ok (.iconst 0, 1) := by decide +kernel
theorem dX12_readers_75 : decode cX12_readers 75 = .ok (.istore 5, 2) := by decide +kernel
theorem dX12_readers_77 : decode cX12_readers 77 = .ok (.iconst 0, 1) := by decide +kernel
theorem dX12_readers_78 : decode cX12_readers 78 = .ok (.istore 6, 2) := by decide +kernel
theorem dX12_readers_80 : decode cX12_readers 80 = .ok (.iload 6, 2) := by decide +kernel
theorem dX12_readers_82 : decode cX12_readers 82 = .ok (.aload_n 0, 1) := by decide +kernel
theorem dX12_readers_83 : decode cX12_readers 83 = .ok (.getfield 433, 3) := by decide +kernel
theorem dX12_readers_86 : decode cX12_readers 86 = .ok (.if_icmp .ge 74, 3) := by decide +kernel
theorem dX12_readers_89 : decode cX12_readers 89 = .ok (.aload_n 0, 1) := by decide +kernel
theorem dX12_readers_90 : decode cX12_readers 90 = .ok (.bipush 10, 2) := by decide +kernel
theorem dX12_readers_92 : decode cX12_readers 92 = .ok (.invokevirtual 436, 3) := by decide +kernel
theorem dX12_readers_95 : decode cX12_readers 95 = .ok (.aload_n 0, 1) := by decide +kernel
theorem dX12_readers_96 : decode cX12_readers 96 = .ok (.aload_n 0, 1) := by decide +kernel
theorem dX12_readers_97 : decode cX12_readers 97 = .ok (.getfield 24, 3) := by decide +kernel
theorem dX12_readers_100 : decode cX12_readers 100 = .ok (.iconst 0, 1) := by decide +kernel
theorem dX12_readers_101 : decode cX12_readers 101 = .ok (.iload 6, 2) := by decide +kernel
theorem dX12_readers_103 : decode cX12_readers 103 = .ok (.iadd, 1) := by decide +kernel
theorem dX12_readers_104 : decode cX12_readers 104 = .ok (.iaload, 1) := by decide +kernel
theorem dX12_readers_105 : decode cX12_readers 105 = .ok (.iconst 2, 1) := by decide +kernel
theorem dX12_readers_106 : decode cX12_readers 106 = .ok (.invokevirtual 120, 3) := by decide +kernel
theorem dX12_readers_109 : decode cX12_readers 109 = .ok (.if_icmp .ge 7, 3) := by decide +kernel
theorem dX12_readers_112 : decode cX12_readers 112 = .ok (.iconst 1, 1) := by decide +kernel
theorem dX12_readers_113 : decode cX12_readers 113 = .ok (.goto 4, 3) := by decide +kernel
theorem dX12_readers_116 : decode cX12_readers 116 = .ok (.iconst 0, 1) := by decide +kernel
theorem dX12_readers_117 : decode cX12_readers 117 = .ok (.istore 7, 2) := by decide +kernel
theorem dX12_readers_119 : decode cX12_readers 119 = .ok (.aload_n 0, 1) := by decide +kernel
theorem dX12_readers_120 : decode cX12_readers 120 = .ok (.getfield 98, 3) := by decide +kernel
theorem dX12_readers_123 : decode cX12_readers 123 = .ok (.iload 6, 2) := by decide +kernel
theorem dX12_readers_125 : decode cX12_readers 125 = .ok (.dup2, 1) := by decide +kernel
theorem dX12_readers_126 : decode cX12_readers 126 = .ok (.iaload, 1) := by decide +kernel
theorem dX12_readers_127 : decode cX12_readers 127 = .ok (.iload 7, 2) := by decide +kernel
theorem dX12_readers_129 : decode cX12_readers 129 = .ok (.ifCond .eq 7, 3) := by decide +kernel
theorem dX12_readers_132 : decode cX12_readers 132 = .ok (.iconst 1, 1) := by decide +kernel
theorem dX12_readers_133 : decode cX12_readers 133 = .ok (.goto 4, 3) := by decide +kernel
theorem dX12_readers_136 : decode cX12_readers 136 = .ok (.iconst 0, 1) := by decide +kernel
theorem dX12_readers_137 : decode cX12_readers 137 = .ok (.iadd, 1) := by decide +kernel
theorem dX12_readers_138 : decode cX12_readers 138 = .ok (.iastore, 1) := by decide +kernel
theorem dX12_readers_139 : decode cX12_readers 139 = .ok (.iload 5, 2) := by decide +kernel
theorem dX12_readers_141 : decode cX12_readers 141 = .ok (.iload 7, 2) := by decide +kernel
theorem dX12_readers_143 : decode cX12_readers 143 = .ok (.ifCond .eq 7, 3) := by decide +kernel
theorem dX12_readers_146 : decode cX12_readers 146 = .ok (.iconst 1, 1) := by decide +kernel
theorem dX12_readers_147 : decode cX12_readers 147 = .ok (.goto 4, 3) := by decide +kernel
theorem dX12_readers_150 : decode cX12_readers 150 = .ok (.iconst 0, 1) := by decide +kernel
theorem dX12_readers_151 : decode cX12_readers 151 = .ok (.iadd, 1) := by decide +kernel
theorem dX12_readers_152 : decode cX12_readers 152 = .ok (.istore 5, 2) := by decide +kernel
theorem dX12_readers_154 : decode cX12_readers 154 = .ok (.iinc 6 1, 3) := by decide +kernel
theorem dX12_readers_157 : decode cX12_readers 157 = .ok (.goto (-77), 3) := by decide +kernel
theorem dX12_readers_160 : decode cX12_readers 160 = .ok (.iload_n 3, 1) := by decide +kernel
theorem dX12_readers_161 : decode cX12_readers 161 = .ok (.iload 5, 2) := by decide +kernel
theorem dX12_readers_163 : decode cX12_readers 163 = .ok (.aload_n 0, 1) := by decide +kernel
theorem dX12_readers_164 : decode cX12_readers 164 = .ok (.getfield 433, 3) := by decide +kernel
theorem dX12_readers_167 : decode cX12_readers 167 = .ok (.if_icmp .ne 7, 3) := by decide +kernel
theorem dX12_readers_170 : decode cX12_readers 170 = .ok (.iconst 1, 1) := by decide +kernel
theorem dX12_readers_171 : decode cX12_readers 171 = .ok (.goto 4, 3) := by decide +kernel
theorem dX12_readers_174 : decode cX12_readers 174 = .ok (.iconst 0, 1) := by decide +kernel
theorem dX12_readers_175 : decode cX12_readers 175 = .ok (.iadd, 1) := by decide +kernel
theorem dX12_readers_176 : decode cX12_readers 176 = .ok (.istore_n 3, 1) := by decide +kernel
theorem dX12_readers_177 : decode cX12_readers 177 = .ok (.iinc 4 1, 3) := by decide +kernel
theorem dX12_readers_180 : decode cX12_readers 180 = .ok (.goto (-112), 3) := by decide +kernel
theorem dX12_readers_183 : decode cX12_readers 183 = .ok (.aload_n 0, 1) := by decide +kernel
theorem dX12_readers_184 : decode cX12_readers 184 = .ok (.iload_n 3, 1) := by decide +kernel
theorem dX12_readers_185 : decode cX12_readers 185 = .ok (.invokevirtual 14, 3) := by decide +kernel
theorem dX12_readers_188 : decode cX12_readers 188 = .ok (.ireturn, 1) := by decide +kernel
theorem dX12_drawn_0 : decode cX12_drawn 0 = .ok (.iload_n 1, 1) := by decide +kernel
theorem dX12_drawn_1 : decode cX12_drawn 1 = .ok (.iconst 0, 1) := by decide +kernel
theorem dX12_drawn_2 : decode cX12_drawn 2 = .ok (.aload_n 0, 1) := by decide +kernel
theorem dX12_drawn_3 : decode cX12_drawn 3 = .ok (.getfield 433, 3) := by decide +kernel
theorem dX12_drawn_6 : decode cX12_drawn 6 = .ok (.iconst 1, 1) := by decide +kernel
theorem dX12_drawn_7 : decode cX12_drawn 7 = .ok (.isub, 1) := by decide +kernel
theorem dX12_drawn_8 : decode cX12_drawn 8 = .ok (.invokestatic 101, 3) := by decide +kernel
theorem dX12_drawn_11 : decode cX12_drawn 11 = .ok (.ifCond .eq 12, 3) := by decide +kernel
theorem dX12_drawn_14 : decode cX12_drawn 14 = .ok (.aload_n 0, 1) := by decide +kernel
theorem dX12_drawn_15 : decode cX12_drawn 15 = .ok (.getfield 98, 3) := by decide +kernel
theorem dX12_drawn_18 : decode cX12_drawn 18 = .ok (.iload_n 1, 1) := by decide +kernel
theorem dX12_drawn_19 : decode cX12_drawn 19 = .ok (.iaload, 1) := by decide +kernel
theorem dX12_drawn_20 : decode cX12_drawn 20 = .ok (.goto 4, 3) := by decide +kernel
theorem dX12_drawn_23 : decode cX12_drawn 23 = .ok (.iconst (-1), 1) := by decide +kernel
theorem dX12_drawn_24 : decode cX12_drawn 24 = .ok (.ireturn, 1) := by decide +kernel
theorem dX12_count_0 : decode cX12_count 0 = .ok (.iload_n 1, 1) := by decide +kernel
theorem dX12_count_1 : decode cX12_count 1 = .ok (.tableswitch 198 0 18 #[91, 100, 105, 113, 122, 131, 140, 145, 150, 150, 150, 160, 167, 175, 184, 184, 184, 184, 184], 91) := by decide +kernel
theorem dX12_count_92 : decode cX12_count 92 = .ok (.aload_n 0, 1) := by decide +kernel
theorem dX12_count_93 : decode cX12_count 93 = .ok (.getfield 24, 3) := by decide +kernel
theorem dX12_count_96 : decode cX12_count 96 = .ok (.sipush 316, 3) := by decide +kernel
theorem dX12_count_99 : decode cX12_count 99 = .ok (.iaload, 1) := by decide +kernel
theorem dX12_count_100 : decode cX12_count 100 = .ok (.ireturn, 1) := by decide +kernel
theorem dX12_count_101 : decode cX12_count 101 = .ok (.aload_n 0, 1) := by decide +kernel
theorem dX12_count_102 : decode cX12_count 102 = .ok (.invokevirtual 333, 3) := by decide +kernel
theorem dX12_count_105 : decode cX12_count 105 = .ok (.ireturn, 1) := by decide +kernel
theorem dX12_count_106 : decode cX12_count 106 = .ok (.aload_n 0, 1) := by decide +kernel
theorem dX12_count_107 : decode cX12_count 107 = .ok (.getfield 24, 3) := by decide +kernel
theorem dX12_count_110 : decode cX12_count 110 = .ok (.bipush 24, 2) := by decide +kernel
theorem dX12_count_112 : decode cX12_count 112 = .ok (.iaload, 1) := by decide +kernel
theorem dX12_count_113 : decode cX12_count 113 = .ok (.ireturn, 1) := by decide +kernel
theorem dX12_count_114 : decode cX12_count 114 = .ok (.aload_n 0, 1) := by decide +kernel
theorem dX12_count_115 : decode cX12_count 115 = .ok (.getfield 24, 3) := by decide +kernel
theorem dX12_count_118 : decode cX12_count 118 = .ok (.sipush 318, 3) := by decide +kernel
theorem dX12_count_121 : decode cX12_count 121 = .ok (.iaload, 1) := by decide +kernel
theorem dX12_count_122 : decode cX12_count 122 = .ok (.ireturn, 1) := by decide +kernel
theorem dX12_count_123 : decode cX12_count 123 = .ok (.aload_n 0, 1) := by decide +kernel
theorem dX12_count_124 : decode cX12_count 124 = .ok (.getfield 24, 3) := by decide +kernel
theorem dX12_count_127 : decode cX12_count 127 = .ok (.sipush 319, 3) := by decide +kernel
theorem dX12_count_130 : decode cX12_count 130 = .ok (.iaload, 1) := by decide +kernel
theorem dX12_count_131 : decode cX12_count 131 = .ok (.ireturn, 1) := by decide +kernel
theorem dX12_count_132 : decode cX12_count 132 = .ok (.aload_n 0, 1) := by decide +kernel
theorem dX12_count_133 : decode cX12_count 133 = .ok (.getfield 24, 3) := by decide +kernel
theorem dX12_count_136 : decode cX12_count 136 = .ok (.sipush 320, 3) := by decide +kernel
theorem dX12_count_139 : decode cX12_count 139 = .ok (.iaload, 1) := by decide +kernel
theorem dX12_count_140 : decode cX12_count 140 = .ok (.ireturn, 1) := by decide +kernel
theorem dX12_count_141 : decode cX12_count 141 = .ok (.aload_n 0, 1) := by decide +kernel
theorem dX12_count_142 : decode cX12_count 142 = .ok (.getfield 11, 3) := by decide +kernel
theorem dX12_count_145 : decode cX12_count 145 = .ok (.ireturn, 1) := by decide +kernel
theorem dX12_count_146 : decode cX12_count 146 = .ok (.aload_n 0, 1) := by decide +kernel
theorem dX12_count_147 : decode cX12_count 147 = .ok (.getfield 117, 3) := by decide +kernel
theorem dX12_count_150 : decode cX12_count 150 = .ok (.ireturn, 1) := by decide +kernel
theorem dX12_count_151 : decode cX12_count 151 = .ok (.aload_n 0, 1) := by decide +kernel
theorem dX12_count_152 : decode cX12_count 152 = .ok (.getfield 7, 3) := by decide +kernel
theorem dX12_count_155 : decode cX12_count 155 = .ok (.iload_n 1, 1) := by decide +kernel
theorem dX12_count_156 : decode cX12_count 156 = .ok (.bipush 7, 2) := by decide +kernel
theorem dX12_count_158 : decode cX12_count 158 = .ok (.isub, 1) := by decide +kernel
theorem dX12_count_159 : decode cX12_count 159 = .ok (.iaload, 1) := by decide +kernel
theorem dX12_count_160 : decode cX12_count 160 = .ok (.ireturn, 1) := by decide +kernel
theorem dX12_count_161 : decode cX12_count 161 = .ok (.aload_n 0, 1) := by decide +kernel
theorem dX12_count_162 : decode cX12_count 162 = .ok (.getfield 7, 3) := by decide +kernel
theorem dX12_count_165 : decode cX12_count 165 = .ok (.iconst 5, 1) := by decide +kernel
theorem dX12_count_166 : decode cX12_count 166 = .ok (.iaload, 1) := by decide +kernel
theorem dX12_count_167 : decode cX12_count 167 = .ok (.ireturn, 1) := by decide +kernel
theorem dX12_count_168 : decode cX12_count 168 = .ok (.aload_n 0, 1) := by decide +kernel
theorem dX12_count_169 : decode cX12_count 169 = .ok (.getfield 7, 3) := by decide +kernel
theorem dX12_count_172 : decode cX12_count 172 = .ok (.bipush 6, 2) := by decide +kernel
theorem dX12_count_174 : decode cX12_count 174 = .ok (.iaload, 1) := by decide +kernel
theorem dX12_count_175 : decode cX12_count 175 = .ok (.ireturn, 1) := by decide +kernel
theorem dX12_count_176 : decode cX12_count 176 = .ok (.aload_n 0, 1) := by decide +kernel
theorem dX12_count_177 : decode cX12_count 177 = .ok (.getfield 24, 3) := by decide +kernel
theorem dX12_count_180 : decode cX12_count 180 = .ok (.sipush 321, 3) := by decide +kernel
theorem dX12_count_183 : decode cX12_count 183 = .ok (.iaload, 1) := by decide +kernel
theorem dX12_count_184 : decode cX12_count 184 = .ok (.ireturn, 1) := by decide +kernel
theorem dX12_count_185 : decode cX12_count 185 = .ok (.aload_n 0, 1) := by decide +kernel
theorem dX12_count_186 : decode cX12_count 186 = .ok (.getfield 24, 3) := by decide +kernel
theorem dX12_count_189 : decode cX12_count 189 = .ok (.sipush 311, 3) := by decide +kernel
theorem dX12_count_192 : decode cX12_count 192 = .ok (.iload_n 1, 1) := by decide +kernel
theorem dX12_count_193 : decode cX12_count 193 = .ok (.iadd, 1) := by decide +kernel
theorem dX12_count_194 : decode cX12_count 194 = .ok (.bipush 14, 2) := by decide +kernel
theorem dX12_count_196 : decode cX12_count 196 = .ok (.isub, 1) := by decide +kernel
theorem dX12_count_197 : decode cX12_count 197 = .ok (.iaload, 1) := by decide +kernel
theorem dX12_count_198 : decode cX12_count 198 = .ok (.ireturn, 1) := by decide +kernel
theorem dX12_count_199 : decode cX12_count 199 = .ok (.iconst (-1), 1) := by decide +kernel
theorem dX12_count_200 : decode cX12_count 200 = .ok (.ireturn, 1) := by decide +kernel
theorem dX12_status_0 : decode cX12_status 0 = .ok (.aload_n 0, 1) := by decide +kernel
theorem dX12_status_1 : decode cX12_status 1 = .ok (.getfield 3, 3) := by decide +kernel
theorem dX12_status_4 : decode cX12_status 4 = .ok (.ireturn, 1) := by decide +kernel
theorem dJ6_bitCount_0f7a4_0 : decode cJ6_bitCount_0f7a4 0 = .ok (.iload_n 0, 1) := by decide +kernel
theorem dJ6_bitCount_0f7a4_1 : decode cJ6_bitCount_0f7a4 1 = .ok (.iload_n 0, 1) := by decide +kernel
theorem dJ6_bitCount_0f7a4_2 : decode cJ6_bitCount_0f7a4 2 = .ok (.iconst 1, 1) := by decide +kernel
theorem dJ6_bitCount_0f7a4_3 : decode cJ6_bitCount_0f7a4 3 = .ok (.iushr, 1) := by decide +kernel
theorem dJ6_bitCount_0f7a4_4 : decode cJ6_bitCount_0f7a4 4 = .ok (.ldc_w 265, 3) := by decide +kernel
theorem dJ6_bitCount_0f7a4_7 : decode cJ6_bitCount_0f7a4 7 = .ok (.iand, 1) := by decide +kernel
theorem dJ6_bitCount_0f7a4_8 : decode cJ6_bitCount_0f7a4 8 = .ok (.isub, 1) := by decide +kernel
theorem dJ6_bitCount_0f7a4_9 : decode cJ6_bitCount_0f7a4 9 = .ok (.istore_n 0, 1) := by decide +kernel
theorem dJ6_bitCount_0f7a4_10 : decode cJ6_bitCount_0f7a4 10 = .ok (.iload_n 0, 1) := by decide +kernel
theorem dJ6_bitCount_0f7a4_11 : decode cJ6_bitCount_0f7a4 11 = .ok (.ldc_w 266, 3) := by decide +kernel
theorem dJ6_bitCount_0f7a4_14 : decode cJ6_bitCount_0f7a4 14 = .ok (.iand, 1) := by decide +kernel
theorem dJ6_bitCount_0f7a4_15 : decode cJ6_bitCount_0f7a4 15 = .ok (.iload_n 0, 1) := by decide +kernel
theorem dJ6_bitCount_0f7a4_16 : decode cJ6_bitCount_0f7a4 16 = .ok (.iconst 2, 1) := by decide +kernel
theorem dJ6_bitCount_0f7a4_17 : decode cJ6_bitCount_0f7a4 17 = .ok (.iushr, 1) := by decide +kernel
theorem dJ6_bitCount_0f7a4_18 : decode cJ6_bitCount_0f7a4 18 = .ok (.ldc_w 266, 3) := by decide +kernel
theorem dJ6_bitCount_0f7a4_21 : decode cJ6_bitCount_0f7a4 21 = .ok (.iand, 1) := by decide +kernel
theorem dJ6_bitCount_0f7a4_22 : decode cJ6_bitCount_0f7a4 22 = .ok (.iadd, 1) := by decide +kernel
theorem dJ6_bitCount_0f7a4_23 : decode cJ6_bitCount_0f7a4 23 = .ok (.istore_n 0, 1) := by decide +kernel
theorem dJ6_bitCount_0f7a4_24 : decode cJ6_bitCount_0f7a4 24 = .ok (.iload_n 0, 1) := by decide +kernel
theorem dJ6_bitCount_0f7a4_25 : decode cJ6_bitCount_0f7a4 25 = .ok (.iload_n 0, 1) := by decide +kernel
theorem dJ6_bitCount_0f7a4_26 : decode cJ6_bitCount_0f7a4 26 = .ok (.iconst 4, 1) := by decide +kernel
theorem dJ6_bitCount_0f7a4_27 : decode cJ6_bitCount_0f7a4 27 = .ok (.iushr, 1) := by decide +kernel
theorem dJ6_bitCount_0f7a4_28 : decode cJ6_bitCount_0f7a4 28 = .ok (.iadd, 1) := by decide +kernel
theorem dJ6_bitCount_0f7a4_29 : decode cJ6_bitCount_0f7a4 29 = .ok (.ldc_w 267, 3) := by decide +kernel
theorem dJ6_bitCount_0f7a4_32 : decode cJ6_bitCount_0f7a4 32 = .ok (.iand, 1) := by decide +kernel
theorem dJ6_bitCount_0f7a4_33 : decode cJ6_bitCount_0f7a4 33 = .ok (.istore_n 0, 1) := by decide +kernel
theorem dJ6_bitCount_0f7a4_34 : decode cJ6_bitCount_0f7a4 34 = .ok (.iload_n 0, 1) := by decide +kernel
theorem dJ6_bitCount_0f7a4_35 : decode cJ6_bitCount_0f7a4 35 = .ok (.iload_n 0, 1) := by decide +kernel
theorem dJ6_bitCount_0f7a4_36 : decode cJ6_bitCount_0f7a4 36 = .ok (.bipush 8, 2) := by decide +kernel
theorem dJ6_bitCount_0f7a4_38 : decode cJ6_bitCount_0f7a4 38 = .ok (.iushr, 1) := by decide +kernel
theorem dJ6_bitCount_0f7a4_39 : decode cJ6_bitCount_0f7a4 39 = .ok (.iadd, 1) := by decide +kernel
theorem dJ6_bitCount_0f7a4_40 : decode cJ6_bitCount_0f7a4 40 = .ok (.istore_n 0, 1) := by decide +kernel
theorem dJ6_bitCount_0f7a4_41 : decode cJ6_bitCount_0f7a4 41 = .ok (.iload_n 0, 1) := by decide +kernel
theorem dJ6_bitCount_0f7a4_42 : decode cJ6_bitCount_0f7a4 42 = .ok (.iload_n 0, 1) := by decide +kernel
theorem dJ6_bitCount_0f7a4_43 : decode cJ6_bitCount_0f7a4 43 = .ok (.bipush 16, 2) := by decide +kernel
theorem dJ6_bitCount_0f7a4_45 : decode cJ6_bitCount_0f7a4 45 = .ok (.iushr, 1) := by decide +kernel
theorem dJ6_bitCount_0f7a4_46 : decode cJ6_bitCount_0f7a4 46 = .ok (.iadd, 1) := by decide +kernel
theorem dJ6_bitCount_0f7a4_47 : decode cJ6_bitCount_0f7a4 47 = .ok (.istore_n 0, 1) := by decide +kernel
theorem dJ6_bitCount_0f7a4_48 : decode cJ6_bitCount_0f7a4 48 = .ok (.iload_n 0, 1) := by decide +kernel
theorem dJ6_bitCount_0f7a4_49 : decode cJ6_bitCount_0f7a4 49 = .ok (.bipush 63, 2) := by decide +kernel
theorem dJ6_bitCount_0f7a4_51 : decode cJ6_bitCount_0f7a4 51 = .ok (.iand, 1) := by decide +kernel
theorem dJ6_bitCount_0f7a4_52 : decode cJ6_bitCount_0f7a4 52 = .ok (.ireturn, 1) := by decide +kernel
theorem dJ13_bitCount_95d88_0 : decode cJ13_bitCount_95d88 0 = .ok (.lload_n 0, 1) := by decide +kernel
theorem dJ13_bitCount_95d88_1 : decode cJ13_bitCount_95d88 1 = .ok (.lload_n 0, 1) := by decide +kernel
theorem dJ13_bitCount_95d88_2 : decode cJ13_bitCount_95d88 2 = .ok (.iconst 1, 1) := by decide +kernel
theorem dJ13_bitCount_95d88_3 : decode cJ13_bitCount_95d88 3 = .ok (.lushr, 1) := by decide +kernel
theorem dJ13_bitCount_95d88_4 : decode cJ13_bitCount_95d88 4 = .ok (.ldc2_w 314, 3) := by decide +kernel
theorem dJ13_bitCount_95d88_7 : decode cJ13_bitCount_95d88 7 = .ok (.land, 1) := by decide +kernel
theorem dJ13_bitCount_95d88_8 : decode cJ13_bitCount_95d88 8 = .ok (.lsub, 1) := by decide +kernel
theorem dJ13_bitCount_95d88_9 : decode cJ13_bitCount_95d88 9 = .ok (.lstore_n 0, 1) := by decide +kernel
theorem dJ13_bitCount_95d88_10 : decode cJ13_bitCount_95d88 10 = .ok (.lload_n 0, 1) := by decide +kernel
theorem dJ13_bitCount_95d88_11 : decode cJ13_bitCount_95d88 11 = .ok (.ldc2_w 316, 3) := by decide +kernel
theorem dJ13_bitCount_95d88_14 : decode cJ13_bitCount_95d88 14 = .ok (.land, 1) := by decide +kernel
theorem dJ13_bitCount_95d88_15 : decode cJ13_bitCount_95d88 15 = .ok (.lload_n 0, 1) := by decide +kernel
theorem dJ13_bitCount_95d88_16 : decode cJ13_bitCount_95d88 16 = .ok (.iconst 2, 1) := by decide +kernel
theorem dJ13_bitCount_95d88_17 : decode cJ13_bitCount_95d88 17 = .ok (.lushr, 1) := by decide +kernel
theorem dJ13_bitCount_95d88_18 : decode cJ13_bitCount_95d88 18 = .ok (.ldc2_w 316, 3) := by decide +kernel
theorem dJ13_bitCount_95d88_21 : decode cJ13_bitCount_95d88 21 = .ok (.land, 1) := by decide +kernel
theorem dJ13_bitCount_95d88_22 : decode cJ13_bitCount_95d88 22 = .ok (.ladd, 1) := by decide +kernel
theorem dJ13_bitCount_95d88_23 : decode cJ13_bitCount_95d88 23 = .ok (.lstore_n 0, 1) := by decide +kernel
theorem dJ13_bitCount_95d88_24 : decode cJ13_bitCount_95d88 24 = .ok (.lload_n 0, 1) := by decide +kernel
theorem dJ13_bitCount_95d88_25 : decode cJ13_bitCount_95d88 25 = .ok (.lload_n 0, 1) := by decide +kernel
theorem dJ13_bitCount_95d88_26 : decode cJ13_bitCount_95d88 26 = .ok (.iconst 4, 1) := by decide +kernel
theorem dJ13_bitCount_95d88_27 : decode cJ13_bitCount_95d88 27 = .ok (.lushr, 1) := by decide +kernel
theorem dJ13_bitCount_95d88_28 : decode cJ13_bitCount_95d88 28 = .ok (.ladd, 1) := by decide +kernel
theorem dJ13_bitCount_95d88_29 : decode cJ13_bitCount_95d88 29 = .ok (.ldc2_w 318, 3) := by decide +kernel
theorem dJ13_bitCount_95d88_32 : decode cJ13_bitCount_95d88 32 = .ok (.land, 1) := by decide +kernel
theorem dJ13_bitCount_95d88_33 : decode cJ13_bitCount_95d88 33 = .ok (.lstore_n 0, 1) := by decide +kernel
theorem dJ13_bitCount_95d88_34 : decode cJ13_bitCount_95d88 34 = .ok (.lload_n 0, 1) := by decide +kernel
theorem dJ13_bitCount_95d88_35 : decode cJ13_bitCount_95d88 35 = .ok (.lload_n 0, 1) := by decide +kernel
theorem dJ13_bitCount_95d88_36 : decode cJ13_bitCount_95d88 36 = .ok (.bipush 8, 2) := by decide +kernel
theorem dJ13_bitCount_95d88_38 : decode cJ13_bitCount_95d88 38 = .ok (.lushr, 1) := by decide +kernel
theorem dJ13_bitCount_95d88_39 : decode cJ13_bitCount_95d88 39 = .ok (.ladd, 1) := by decide +kernel
theorem dJ13_bitCount_95d88_40 : decode cJ13_bitCount_95d88 40 = .ok (.lstore_n 0, 1) := by decide +kernel
theorem dJ13_bitCount_95d88_41 : decode cJ13_bitCount_95d88 41 = .ok (.lload_n 0, 1) := by decide +kernel
theorem dJ13_bitCount_95d88_42 : decode cJ13_bitCount_95d88 42 = .ok (.lload_n 0, 1) := by decide +kernel
theorem dJ13_bitCount_95d88_43 : decode cJ13_bitCount_95d88 43 = .ok (.bipush 16, 2) := by decide +kernel
theorem dJ13_bitCount_95d88_45 : decode cJ13_bitCount_95d88 45 = .ok (.lushr, 1) := by decide +kernel
theorem dJ13_bitCount_95d88_46 : decode cJ13_bitCount_95d88 46 = .ok (.ladd, 1) := by decide +kernel
theorem dJ13_bitCount_95d88_47 : decode cJ13_bitCount_95d88 47 = .ok (.lstore_n 0, 1) := by decide +kernel
theorem dJ13_bitCount_95d88_48 : decode cJ13_bitCount_95d88 48 = .ok (.lload_n 0, 1) := by decide +kernel
theorem dJ13_bitCount_95d88_49 : decode cJ13_bitCount_95d88 49 = .ok (.lload_n 0, 1) := by decide +kernel
theorem dJ13_bitCount_95d88_50 : decode cJ13_bitCount_95d88 50 = .ok (.bipush 32, 2) := by decide +kernel
theorem dJ13_bitCount_95d88_52 : decode cJ13_bitCount_95d88 52 = .ok (.lushr, 1) := by decide +kernel
theorem dJ13_bitCount_95d88_53 : decode cJ13_bitCount_95d88 53 = .ok (.ladd, 1) := by decide +kernel
theorem dJ13_bitCount_95d88_54 : decode cJ13_bitCount_95d88 54 = .ok (.lstore_n 0, 1) := by decide +kernel
theorem dJ13_bitCount_95d88_55 : decode cJ13_bitCount_95d88 55 = .ok (.lload_n 0, 1) := by decide +kernel
theorem dJ13_bitCount_95d88_56 : decode cJ13_bitCount_95d88 56 = .ok (.l2i, 1) := by decide +kernel
theorem dJ13_bitCount_95d88_57 : decode cJ13_bitCount_95d88 57 = .ok (.bipush 127, 2) := by decide +kernel
theorem dJ13_bitCount_95d88_59 : decode cJ13_bitCount_95d88 59 = .ok (.iand, 1) := by decide +kernel
theorem dJ13_bitCount_95d88_60 : decode cJ13_bitCount_95d88 60 = .ok (.ireturn, 1) := by decide +kernel
theorem dJ9_max_7cf53_0 : decode cJ9_max_7cf53 0 = .ok (.iload_n 0, 1) := by decide +kernel
theorem dJ9_max_7cf53_1 : decode cJ9_max_7cf53 1 = .ok (.iload_n 1, 1) := by decide +kernel
theorem dJ9_max_7cf53_2 : decode cJ9_max_7cf53 2 = .ok (.if_icmp .lt 7, 3) := by decide +kernel
theorem dJ9_max_7cf53_5 : decode cJ9_max_7cf53 5 = .ok (.iload_n 0, 1) := by decide +kernel
theorem dJ9_max_7cf53_6 : decode cJ9_max_7cf53 6 = .ok (.goto 4, 3) := by decide +kernel
theorem dJ9_max_7cf53_9 : decode cJ9_max_7cf53 9 = .ok (.iload_n 1, 1) := by decide +kernel
theorem dJ9_max_7cf53_10 : decode cJ9_max_7cf53 10 = .ok (.ireturn, 1) := by decide +kernel
theorem dJ9_min_7cf53_0 : decode cJ9_min_7cf53 0 = .ok (.iload_n 0, 1) := by decide +kernel
theorem dJ9_min_7cf53_1 : decode cJ9_min_7cf53 1 = .ok (.iload_n 1, 1) := by decide +kernel
theorem dJ9_min_7cf53_2 : decode cJ9_min_7cf53 2 = .ok (.if_icmp .gt 7, 3) := by decide +kernel
theorem dJ9_min_7cf53_5 : decode cJ9_min_7cf53 5 = .ok (.iload_n 0, 1) := by decide +kernel
theorem dJ9_min_7cf53_6 : decode cJ9_min_7cf53 6 = .ok (.goto 4, 3) := by decide +kernel
theorem dJ9_min_7cf53_9 : decode cJ9_min_7cf53 9 = .ok (.iload_n 1, 1) := by decide +kernel
theorem dJ9_min_7cf53_10 : decode cJ9_min_7cf53 10 = .ok (.ireturn, 1) := by decide +kernel
theorem dJ9_min_f86c9_0 : decode cJ9_min_f86c9 0 = .ok (.lload_n 0, 1) := by decide +kernel
theorem dJ9_min_f86c9_1 : decode cJ9_min_f86c9 1 = .ok (.lload_n 2, 1) := by decide +kernel
theorem dJ9_min_f86c9_2 : decode cJ9_min_f86c9 2 = .ok (.lcmp, 1) := by decide +kernel
theorem dJ9_min_f86c9_3 : decode cJ9_min_f86c9 3 = .ok (.ifCond .gt 7, 3) := by decide +kernel
theorem dJ9_min_f86c9_6 : decode cJ9_min_f86c9 6 = .ok (.lload_n 0, 1) := by decide +kernel
theorem dJ9_min_f86c9_7 : decode cJ9_min_f86c9 7 = .ok (.goto 4, 3) := by decide +kernel
theorem dJ9_min_f86c9_10 : decode cJ9_min_f86c9 10 = .ok (.lload_n 2, 1) := by decide +kernel
theorem dJ9_min_f86c9_11 : decode cJ9_min_f86c9 11 = .ok (.lreturn, 1) := by decide +kernel
theorem dJ0_length_8abf5_0 : decode cJ0_length_8abf5 0 = .ok (.aload_n 0, 1) := by decide +kernel
theorem dJ0_length_8abf5_1 : decode cJ0_length_8abf5 1 = .ok (.getfield 9, 3) := by decide +kernel
theorem dJ0_length_8abf5_4 : decode cJ0_length_8abf5 4 = .ok (.arraylength, 1) := by decide +kernel
theorem dJ0_length_8abf5_5 : decode cJ0_length_8abf5 5 = .ok (.aload_n 0, 1) := by decide +kernel
theorem dJ0_length_8abf5_6 : decode cJ0_length_8abf5 6 = .ok (.invokevirtual 335, 3) := by decide +kernel
theorem dJ0_length_8abf5_9 : decode cJ0_length_8abf5 9 = .ok (.ishr, 1) := by decide +kernel
theorem dJ0_length_8abf5_10 : decode cJ0_length_8abf5 10 = .ok (.ireturn, 1) := by decide +kernel
theorem dJ0_charAt_5068e_0 : decode cJ0_charAt_5068e 0 = .ok (.aload_n 0, 1) := by decide +kernel
theorem dJ0_charAt_5068e_1 : decode cJ0_charAt_5068e 1 = .ok (.invokevirtual 492, 3) := by decide +kernel
theorem dJ0_charAt_5068e_4 : decode cJ0_charAt_5068e 4 = .ok (.ifCond .eq 12, 3) := by decide +kernel
theorem dJ0_charAt_5068e_7 : decode cJ0_charAt_5068e 7 = .ok (.aload_n 0, 1) := by decide +kernel
theorem dJ0_charAt_5068e_8 : decode cJ0_charAt_5068e 8 = .ok (.getfield 9, 3) := by decide +kernel
theorem dJ0_charAt_5068e_11 : decode cJ0_charAt_5068e 11 = .ok (.iload_n 1, 1) := by decide +kernel
theorem dJ0_charAt_5068e_12 : decode cJ0_charAt_5068e 12 = .ok (.invokestatic 495, 3) := by decide +kernel
theorem dJ0_charAt_5068e_15 : decode cJ0_charAt_5068e 15 = .ok (.ireturn, 1) := by decide +kernel
theorem dJ0_charAt_5068e_16 : decode cJ0_charAt_5068e 16 = .ok (.aload_n 0, 1) := by decide +kernel
theorem dJ0_charAt_5068e_17 : decode cJ0_charAt_5068e 17 = .ok (.getfield 9, 3) := by decide +kernel
theorem dJ0_charAt_5068e_20 : decode cJ0_charAt_5068e 20 = .ok (.iload_n 1, 1) := by decide +kernel
theorem dJ0_charAt_5068e_21 : decode cJ0_charAt_5068e 21 = .ok (.invokestatic 498, 3) := by decide +kernel
theorem dJ0_charAt_5068e_24 : decode cJ0_charAt_5068e 24 = .ok (.ireturn, 1) := by decide +kernel
theorem dJ0_coder_7d493_0 : decode cJ0_coder_7d493 0 = .ok (.getstatic 38, 3) := by decide +kernel
theorem dJ0_coder_7d493_3 : decode cJ0_coder_7d493 3 = .ok (.ifCond .eq 10, 3) := by decide +kernel
theorem dJ0_coder_7d493_6 : decode cJ0_coder_7d493 6 = .ok (.aload_n 0, 1) := by decide +kernel
theorem dJ0_coder_7d493_7 : decode cJ0_coder_7d493 7 = .ok (.getfield 15, 3) := by decide +kernel
theorem dJ0_coder_7d493_10 : decode cJ0_coder_7d493 10 = .ok (.goto 4, 3) := by decide +kernel
theorem dJ0_coder_7d493_13 : decode cJ0_coder_7d493 13 = .ok (.iconst 1, 1) := by decide +kernel
theorem dJ0_coder_7d493_14 : decode cJ0_coder_7d493 14 = .ok (.ireturn, 1) := by decide +kernel
theorem dJ0_isLatin1_aae02_0 : decode cJ0_isLatin1_aae02 0 = .ok (.getstatic 38, 3) := by decide +kernel
theorem dJ0_isLatin1_aae02_3 : decode cJ0_isLatin1_aae02 3 = .ok (.ifCond .eq 14, 3) := by decide +kernel
theorem dJ0_isLatin1_aae02_6 : decode cJ0_isLatin1_aae02 6 = .ok (.aload_n 0, 1) := by decide +kernel
theorem dJ0_isLatin1_aae02_7 : decode cJ0_isLatin1_aae02 7 = .ok (.getfield 15, 3) := by decide +kernel
theorem dJ0_isLatin1_aae02_10 : decode cJ0_isLatin1_aae02 10 = .ok (.ifCond .ne 7, 3) := by decide +kernel
theorem dJ0_isLatin1_aae02_13 : decode cJ0_isLatin1_aae02 13 = .ok (.iconst 1, 1) := by decide +kernel
theorem dJ0_isLatin1_aae02_14 : decode cJ0_isLatin1_aae02 14 = .ok (.goto 4, 3) := by decide +kernel
theorem dJ0_isLatin1_aae02_17 : decode cJ0_isLatin1_aae02 17 = .ok (.iconst 0, 1) := by decide +kernel
theorem dJ0_isLatin1_aae02_18 : decode cJ0_isLatin1_aae02 18 = .ok (.ireturn, 1) := by decide +kernel
theorem dJ0_checkIndex_df160_0 : decode cJ0_checkIndex_df160 0 = .ok (.iload_n 0, 1) := by decide +kernel
theorem dJ0_checkIndex_df160_1 : decode cJ0_checkIndex_df160 1 = .ok (.iload_n 1, 1) := by decide +kernel
theorem dJ0_checkIndex_df160_2 : decode cJ0_checkIndex_df160 2 = .ok (.getstatic 1053, 3) := by decide +kernel
theorem dJ0_checkIndex_df160_5 : decode cJ0_checkIndex_df160 5 = .ok (.invokestatic 1059, 3) := by decide +kernel
theorem dJ0_checkIndex_df160_8 : decode cJ0_checkIndex_df160 8 = .ok (.pop, 1) := by decide +kernel
theorem dJ0_checkIndex_df160_9 : decode cJ0_checkIndex_df160 9 = .ok (.return_, 1) := by decide +kernel
theorem dJ1_charAt_3b067_0 : decode cJ1_charAt_3b067 0 = .ok (.iload_n 1, 1) := by decide +kernel
theorem dJ1_charAt_3b067_1 : decode cJ1_charAt_3b067 1 = .ok (.aload_n 0, 1) := by decide +kernel
theorem dJ1_charAt_3b067_2 : decode cJ1_charAt_3b067 2 = .ok (.arraylength, 1) := by decide +kernel
theorem dJ1_charAt_3b067_3 : decode cJ1_charAt_3b067 3 = .ok (.invokestatic 9, 3) := by decide +kernel
theorem dJ1_charAt_3b067_6 : decode cJ1_charAt_3b067 6 = .ok (.aload_n 0, 1) := by decide +kernel
theorem dJ1_charAt_3b067_7 : decode cJ1_charAt_3b067 7 = .ok (.iload_n 1, 1) := by decide +kernel
theorem dJ1_charAt_3b067_8 : decode cJ1_charAt_3b067 8 = .ok (.baload, 1) := by decide +kernel
theorem dJ1_charAt_3b067_9 : decode cJ1_charAt_3b067 9 = .ok (.sipush 255, 3) := by decide +kernel
theorem dJ1_charAt_3b067_12 : decode cJ1_charAt_3b067 12 = .ok (.iand, 1) := by decide +kernel
theorem dJ1_charAt_3b067_13 : decode cJ1_charAt_3b067 13 = .ok (.i2c, 1) := by decide +kernel
theorem dJ1_charAt_3b067_14 : decode cJ1_charAt_3b067 14 = .ok (.ireturn, 1) := by decide +kernel
theorem dJ2_getChar_3b067_0 : decode cJ2_getChar_3b067 0 = .ok (.getstatic 44, 3) := by decide +kernel
theorem dJ2_getChar_3b067_3 : decode cJ2_getChar_3b067 3 = .ok (.ifCond .ne 25, 3) := by decide +kernel
theorem dJ2_getChar_3b067_6 : decode cJ2_getChar_3b067 6 = .ok (.iload_n 1, 1) := by decide +kernel
theorem dJ2_getChar_3b067_7 : decode cJ2_getChar_3b067 7 = .ok (.ifCond .lt 11, 3) := by decide +kernel
theorem dJ2_getChar_3b067_10 : decode cJ2_getChar_3b067 10 = .ok (.iload_n 1, 1) := by decide +kernel
theorem dJ2_getChar_3b067_11 : decode cJ2_getChar_3b067 11 = .ok (.aload_n 0, 1) := by decide +kernel
theorem dJ2_getChar_3b067_12 : decode cJ2_getChar_3b067 12 = .ok (.invokestatic 48, 3) := by decide +kernel
theorem dJ2_getChar_3b067_15 : decode cJ2_getChar_3b067 15 = .ok (.if_icmp .lt 13, 3) := by decide +kernel
theorem dJ2_getChar_3b067_18 : decode cJ2_getChar_3b067 18 = .ok (.new 52, 3) := by decide +kernel
theorem dJ2_getChar_3b067_21 : decode cJ2_getChar_3b067 21 = .ok (.dup, 1) := by decide +kernel
theorem dJ2_getChar_3b067_22 : decode cJ2_getChar_3b067 22 = .ok (.ldc 54, 2) := by decide +kernel
theorem dJ2_getChar_3b067_24 : decode cJ2_getChar_3b067 24 = .ok (.invokespecial 56, 3) := by decide +kernel
theorem dJ2_getChar_3b067_27 : decode cJ2_getChar_3b067 27 = .ok (.athrow, 1) := by decide +kernel
theorem dJ2_getChar_3b067_28 : decode cJ2_getChar_3b067 28 = .ok (.iload_n 1, 1) := by decide +kernel
theorem dJ2_getChar_3b067_29 : decode cJ2_getChar_3b067 29 = .ok (.iconst 1, 1) := by decide +kernel
theorem dJ2_getChar_3b067_30 : decode cJ2_getChar_3b067 30 = .ok (.ishl, 1) := by decide +kernel
theorem dJ2_getChar_3b067_31 : decode cJ2_getChar_3b067 31 = .ok (.istore_n 1, 1) := by decide +kernel
theorem dJ2_getChar_3b067_32 : decode cJ2_getChar_3b067 32 = .ok (.aload_n 0, 1) := by decide +kernel
theorem dJ2_getChar_3b067_33 : decode cJ2_getChar_3b067 33 = .ok (.iload_n 1, 1) := by decide +kernel
theorem dJ2_getChar_3b067_34 : decode cJ2_getChar_3b067 34 = .ok (.iinc 1 1, 3) := by decide +kernel
theorem dJ2_getChar_3b067_37 : decode cJ2_getChar_3b067 37 = .ok (.baload, 1) := by decide +kernel
theorem dJ2_getChar_3b067_38 : decode cJ2_getChar_3b067 38 = .ok (.sipush 255, 3) := by decide +kernel
theorem dJ2_getChar_3b067_41 : decode cJ2_getChar_3b067 41 = .ok (.iand, 1) := by decide +kernel
theorem dJ2_getChar_3b067_42 : decode cJ2_getChar_3b067 42 = .ok (.getstatic 59, 3) := by decide +kernel
theorem dJ2_getChar_3b067_45 : decode cJ2_getChar_3b067 45 = .ok (.ishl, 1) := by decide +kernel
theorem dJ2_getChar_3b067_46 : decode cJ2_getChar_3b067 46 = .ok (.aload_n 0, 1) := by decide +kernel
theorem dJ2_getChar_3b067_47 : decode cJ2_getChar_3b067 47 = .ok (.iload_n 1, 1) := by decide +kernel
theorem dJ2_getChar_3b067_48 : decode cJ2_getChar_3b067 48 = .ok (.baload, 1) := by decide +kernel
theorem dJ2_getChar_3b067_49 : decode cJ2_getChar_3b067 49 = .ok (.sipush 255, 3) := by decide +kernel
theorem dJ2_getChar_3b067_52 : decode cJ2_getChar_3b067 52 = .ok (.iand, 1) := by decide +kernel
theorem dJ2_getChar_3b067_53 : decode cJ2_getChar_3b067 53 = .ok (.getstatic 63, 3) := by decide +kernel
theorem dJ2_getChar_3b067_56 : decode cJ2_getChar_3b067 56 = .ok (.ishl, 1) := by decide +kernel
theorem dJ2_getChar_3b067_57 : decode cJ2_getChar_3b067 57 = .ok (.ior, 1) := by decide +kernel
theorem dJ2_getChar_3b067_58 : decode cJ2_getChar_3b067 58 = .ok (.i2c, 1) := by decide +kernel
theorem dJ2_getChar_3b067_59 : decode cJ2_getChar_3b067 59 = .ok (.ireturn, 1) := by decide +kernel
theorem dJ2_length_9d52b_0 : decode cJ2_length_9d52b 0 = .ok (.aload_n 0, 1) := by decide +kernel
theorem dJ2_length_9d52b_1 : decode cJ2_length_9d52b 1 = .ok (.arraylength, 1) := by decide +kernel
theorem dJ2_length_9d52b_2 : decode cJ2_length_9d52b 2 = .ok (.iconst 1, 1) := by decide +kernel
theorem dJ2_length_9d52b_3 : decode cJ2_length_9d52b 3 = .ok (.ishr, 1) := by decide +kernel
theorem dJ2_length_9d52b_4 : decode cJ2_length_9d52b 4 = .ok (.ireturn, 1) := by decide +kernel
theorem dJ2_charAt_3b067_0 : decode cJ2_charAt_3b067 0 = .ok (.iload_n 1, 1) := by decide +kernel
theorem dJ2_charAt_3b067_1 : decode cJ2_charAt_3b067 1 = .ok (.aload_n 0, 1) := by decide +kernel
theorem dJ2_charAt_3b067_2 : decode cJ2_charAt_3b067 2 = .ok (.invokestatic 67, 3) := by decide +kernel
theorem dJ2_charAt_3b067_5 : decode cJ2_charAt_3b067 5 = .ok (.aload_n 0, 1) := by decide +kernel
theorem dJ2_charAt_3b067_6 : decode cJ2_charAt_3b067 6 = .ok (.iload_n 1, 1) := by decide +kernel
theorem dJ2_charAt_3b067_7 : decode cJ2_charAt_3b067 7 = .ok (.invokestatic 71, 3) := by decide +kernel
theorem dJ2_charAt_3b067_10 : decode cJ2_charAt_3b067 10 = .ok (.ireturn, 1) := by decide +kernel
theorem dJ2_checkIndex_2214a_0 : decode cJ2_checkIndex_2214a 0 = .ok (.iload_n 0, 1) := by decide +kernel
theorem dJ2_checkIndex_2214a_1 : decode cJ2_checkIndex_2214a 1 = .ok (.aload_n 1, 1) := by decide +kernel
theorem dJ2_checkIndex_2214a_2 : decode cJ2_checkIndex_2214a 2 = .ok (.invokestatic 48, 3) := by decide +kernel
theorem dJ2_checkIndex_2214a_5 : decode cJ2_checkIndex_2214a 5 = .ok (.invokestatic 414, 3) := by decide +kernel
theorem dJ2_checkIndex_2214a_8 : decode cJ2_checkIndex_2214a 8 = .ok (.return_, 1) := by decide +kernel
theorem dJ3_checkIndex_8e157_0 : decode cJ3_checkIndex_8e157 0 = .ok (.iload_n 0, 1) := by decide +kernel
theorem dJ3_checkIndex_8e157_1 : decode cJ3_checkIndex_8e157 1 = .ok (.ifCond .lt 8, 3) := by decide +kernel
theorem dJ3_checkIndex_8e157_4 : decode cJ3_checkIndex_8e157 4 = .ok (.iload_n 0, 1) := by decide +kernel
theorem dJ3_checkIndex_8e157_5 : decode cJ3_checkIndex_8e157 5 = .ok (.iload_n 1, 1) := by decide +kernel
theorem dJ3_checkIndex_8e157_6 : decode cJ3_checkIndex_8e157 6 = .ok (.if_icmp .lt 10, 3) := by decide +kernel
theorem dJ3_checkIndex_8e157_9 : decode cJ3_checkIndex_8e157 9 = .ok (.aload_n 2, 1) := by decide +kernel
theorem dJ3_checkIndex_8e157_10 : decode cJ3_checkIndex_8e157 10 = .ok (.iload_n 0, 1) := by decide +kernel
theorem dJ3_checkIndex_8e157_11 : decode cJ3_checkIndex_8e157 11 = .ok (.iload_n 1, 1) := by decide +kernel
theorem dJ3_checkIndex_8e157_12 : decode cJ3_checkIndex_8e157 12 = .ok (.invokestatic 95, 3) := by decide +kernel
theorem dJ3_checkIndex_8e157_15 : decode cJ3_checkIndex_8e157 15 = .ok (.athrow, 1) := by decide +kernel
theorem dJ3_checkIndex_8e157_16 : decode cJ3_checkIndex_8e157 16 = .ok (.iload_n 0, 1) := by decide +kernel
theorem dJ3_checkIndex_8e157_17 : decode cJ3_checkIndex_8e157 17 = .ok (.ireturn, 1) := by decide +kernel
theorem dL_law_0 : decode cL_law 0 = .ok (.new 7, 3) := by decide +kernel
theorem dL_law_3 : decode cL_law 3 = .ok (.dup, 1) := by decide +kernel
theorem dL_law_4 : decode cL_law 4 = .ok (.invokespecial 9, 3) := by decide +kernel
theorem dL_law_7 : decode cL_law 7 = .ok (.astore_n 1, 1) := by decide +kernel
theorem dL_law_8 : decode cL_law 8 = .ok (.new 10, 3) := by decide +kernel
theorem dL_law_11 : decode cL_law 11 = .ok (.dup, 1) := by decide +kernel
theorem dL_law_12 : decode cL_law 12 = .ok (.invokespecial 12, 3) := by decide +kernel
theorem dL_law_15 : decode cL_law 15 = .ok (.astore_n 2, 1) := by decide +kernel
theorem dL_law_16 : decode cL_law 16 = .ok (.iconst 0, 1) := by decide +kernel
theorem dL_law_17 : decode cL_law 17 = .ok (.istore_n 3, 1) := by decide +kernel
theorem dL_law_18 : decode cL_law 18 = .ok (.iload_n 3, 1) := by decide +kernel
theorem dL_law_19 : decode cL_law 19 = .ok (.aload_n 0, 1) := by decide +kernel
theorem dL_law_20 : decode cL_law 20 = .ok (.arraylength, 1) := by decide +kernel
theorem dL_law_21 : decode cL_law 21 = .ok (.bipush 6, 2) := by decide +kernel
theorem dL_law_23 : decode cL_law 23 = .ok (.isub, 1) := by decide +kernel
theorem dL_law_24 : decode cL_law 24 = .ok (.if_icmp .gt 1204, 3) := by decide +kernel
theorem dL_law_27 : decode cL_law 27 = .ok (.aload_n 0, 1) := by decide +kernel
theorem dL_law_28 : decode cL_law 28 = .ok (.iload_n 3, 1) := by decide +kernel
theorem dL_law_29 : decode cL_law 29 = .ok (.iaload, 1) := by decide +kernel
theorem dL_law_30 : decode cL_law 30 = .ok (.bipush 63, 2) := by decide +kernel
theorem dL_law_32 : decode cL_law 32 = .ok (.iand, 1) := by decide +kernel
theorem dL_law_33 : decode cL_law 33 = .ok (.tableswitch 1189 0 41 #[183, 216, 249, 272, 305, 338, 401, 424, 467, 500, 513, 526, 539, 552, 575, 598, 611, 644, 667, 680, 693, 726, 759, 772, 785, 808, 821, 834, 847, 870, 903, 936, 949, 972, 1015, 1028, 1051, 1084, 1107, 1130, 1153, 1176], 183) := by decide +kernel
theorem dL_law_216 : decode cL_law 216 = .ok (.aload_n 1, 1) := by decide +kernel
theorem dL_law_217 : decode cL_law 217 = .ok (.aload_n 0, 1) := by decide +kernel
theorem dL_law_218 : decode cL_law 218 = .ok (.iload_n 3, 1) := by decide +kernel
theorem dL_law_219 : decode cL_law 219 = .ok (.iconst 1, 1) := by decide +kernel
theorem dL_law_220 : decode cL_law 220 = .ok (.iadd, 1) := by decide +kernel
theorem dL_law_221 : decode cL_law 221 = .ok (.iaload, 1) := by decide +kernel
theorem dL_law_222 : decode cL_law 222 = .ok (.aload_n 0, 1) := by decide +kernel
theorem dL_law_223 : decode cL_law 223 = .ok (.iload_n 3, 1) := by decide +kernel
theorem dL_law_224 : decode cL_law 224 = .ok (.iconst 2, 1) := by decide +kernel
theorem dL_law_225 : decode cL_law 225 = .ok (.iadd, 1) := by decide +kernel
theorem dL_law_226 : decode cL_law 226 = .ok (.iaload, 1) := by decide +kernel
theorem dL_law_227 : decode cL_law 227 = .ok (.invokevirtual 13, 3) := by decide +kernel
theorem dL_law_230 : decode cL_law 230 = .ok (.aload_n 2, 1) := by decide +kernel
theorem dL_law_231 : decode cL_law 231 = .ok (.aload_n 0, 1) := by decide +kernel
theorem dL_law_232 : decode cL_law 232 = .ok (.iload_n 3, 1) := by decide +kernel
theorem dL_law_233 : decode cL_law 233 = .ok (.iconst 1, 1) := by decide +kernel
theorem dL_law_234 : decode cL_law 234 = .ok (.iadd, 1) := by decide +kernel
theorem dL_law_235 : decode cL_law 235 = .ok (.iaload, 1) := by decide +kernel
theorem dL_law_236 : decode cL_law 236 = .ok (.aload_n 0, 1) := by decide +kernel
theorem dL_law_237 : decode cL_law 237 = .ok (.iload_n 3, 1) := by decide +kernel
theorem dL_law_238 : decode cL_law 238 = .ok (.iconst 2, 1) := by decide +kernel
theorem dL_law_239 : decode cL_law 239 = .ok (.iadd, 1) := by decide +kernel
theorem dL_law_240 : decode cL_law 240 = .ok (.iaload, 1) := by decide +kernel
theorem dL_law_241 : decode cL_law 241 = .ok (.invokevirtual 17, 3) := by decide +kernel
theorem dL_law_244 : decode cL_law 244 = .ok (.if_icmp .eq 978, 3) := by decide +kernel
theorem dL_law_247 : decode cL_law 247 = .ok (.iconst 0, 1) := by decide +kernel
theorem dL_law_248 : decode cL_law 248 = .ok (.ireturn, 1) := by decide +kernel
theorem dL_law_249 : decode cL_law 249 = .ok (.aload_n 1, 1) := by decide +kernel
theorem dL_law_250 : decode cL_law 250 = .ok (.aload_n 0, 1) := by decide +kernel
theorem dL_law_251 : decode cL_law 251 = .ok (.iload_n 3, 1) := by decide +kernel
theorem dL_law_252 : decode cL_law 252 = .ok (.iconst 1, 1) := by decide +kernel
theorem dL_law_253 : decode cL_law 253 = .ok (.iadd, 1) := by decide +kernel
theorem dL_law_254 : decode cL_law 254 = .ok (.iaload, 1) := by decide +kernel
theorem dL_law_255 : decode cL_law 255 = .ok (.aload_n 0, 1) := by decide +kernel
theorem dL_law_256 : decode cL_law 256 = .ok (.iload_n 3, 1) := by decide +kernel
theorem dL_law_257 : decode cL_law 257 = .ok (.iconst 2, 1) := by decide +kernel
theorem dL_law_258 : decode cL_law 258 = .ok (.iadd, 1) := by decide +kernel
theorem dL_law_259 : decode cL_law 259 = .ok (.iaload, 1) := by decide +kernel
theorem dL_law_260 : decode cL_law 260 = .ok (.invokevirtual 18, 3) := by decide +kernel
theorem dL_law_263 : decode cL_law 263 = .ok (.aload_n 2, 1) := by decide +kernel
theorem dL_law_264 : decode cL_law 264 = .ok (.aload_n 0, 1) := by decide +kernel
theorem dL_law_265 : decode cL_law 265 = .ok (.iload_n 3, 1) := by decide +kernel
theorem dL_law_266 : decode cL_law 266 = .ok (.iconst 1, 1) := by decide +kernel
theorem dL_law_267 : decode cL_law 267 = .ok (.iadd, 1) := by decide +kernel
theorem dL_law_268 : decode cL_law 268 = .ok (.iaload, 1) := by decide +kernel
theorem dL_law_269 : decode cL_law 269 = .ok (.aload_n 0, 1) := by decide +kernel
theorem dL_law_270 : decode cL_law 270 = .ok (.iload_n 3, 1) := by decide +kernel
theorem dL_law_271 : decode cL_law 271 = .ok (.iconst 2, 1) := by decide +kernel
theorem dL_law_272 : decode cL_law 272 = .ok (.iadd, 1) := by decide +kernel
theorem dL_law_273 : decode cL_law 273 = .ok (.iaload, 1) := by decide +kernel
theorem dL_law_274 : decode cL_law 274 = .ok (.invokevirtual 21, 3) := by decide +kernel
theorem dL_law_277 : decode cL_law 277 = .ok (.if_icmp .eq 945, 3) := by decide +kernel
theorem dL_law_280 : decode cL_law 280 = .ok (.iconst 0, 1) := by decide +kernel
theorem dL_law_281 : decode cL_law 281 = .ok (.ireturn, 1) := by decide +kernel
theorem dL_law_282 : decode cL_law 282 = .ok (.aload_n 1, 1) := by decide +kernel
theorem dL_law_283 : decode cL_law 283 = .ok (.aload_n 0, 1) := by decide +kernel
theorem dL_law_284 : decode cL_law 284 = .ok (.iload_n 3, 1) := by decide +kernel
theorem dL_law_285 : decode cL_law 285 = .ok (.iconst 1, 1) := by decide +kernel
theorem dL_law_286 : decode cL_law 286 = .ok (.iadd, 1) := by decide +kernel
theorem dL_law_287 : decode cL_law 287 = .ok (.iaload, 1) := by decide +kernel
theorem dL_law_288 : decode cL_law 288 = .ok (.invokevirtual 22, 3) := by decide +kernel
theorem dL_law_291 : decode cL_law 291 = .ok (.aload_n 2, 1) := by decide +kernel
theorem dL_law_292 : decode cL_law 292 = .ok (.aload_n 0, 1) := by decide +kernel
theorem dL_law_293 : decode cL_law 293 = .ok (.iload_n 3, 1) := by decide +kernel
theorem dL_law_294 : decode cL_law 294 = .ok (.iconst 1, 1) := by decide +kernel
theorem dL_law_295 : decode cL_law 295 = .ok (.iadd, 1) := by decide +kernel
theorem dL_law_296 : decode cL_law 296 = .ok (.iaload, 1) := by decide +kernel
theorem dL_law_297 : decode cL_law 297 = .ok (.invokevirtual 26, 3) := by decide +kernel
theorem dL_law_300 : decode cL_law 300 = .ok (.if_icmp .eq 922, 3) := by decide +kernel
theorem dL_law_303 : decode cL_law 303 = .ok (.iconst 0, 1) := by decide +kernel
theorem dL_law_304 : decode cL_law 304 = .ok (.ireturn, 1) := by decide +kernel
theorem dL_law_305 : decode cL_law 305 = .ok (.aload_n 1, 1) := by decide +kernel
theorem dL_law_306 : decode cL_law 306 = .ok (.aload_n 0, 1) := by decide +kernel
theorem dL_law_307 : decode cL_law 307 = .ok (.iload_n 3, 1) := by decide +kernel
theorem dL_law_308 : decode cL_law 308 = .ok (.iconst 1, 1) := by decide +kernel
theorem dL_law_309 : decode cL_law 309 = .ok (.iadd, 1) := by decide +kernel
theorem dL_law_310 : decode cL_law 310 = .ok (.iaload, 1) := by decide +kernel
theorem dL_law_311 : decode cL_law 311 = .ok (.aload_n 0, 1) := by decide +kernel
theorem dL_law_312 : decode cL_law 312 = .ok (.iload_n 3, 1) := by decide +kernel
theorem dL_law_313 : decode cL_law 313 = .ok (.iconst 2, 1) := by decide +kernel
theorem dL_law_314 : decode cL_law 314 = .ok (.iadd, 1) := by decide +kernel
theorem dL_law_315 : decode cL_law 315 = .ok (.iaload, 1) := by decide +kernel
theorem dL_law_316 : decode cL_law 316 = .ok (.invokevirtual 27, 3) := by decide +kernel
theorem dL_law_319 : decode cL_law 319 = .ok (.aload_n 2, 1) := by decide +kernel
theorem dL_law_320 : decode cL_law 320 = .ok (.aload_n 0, 1) := by decide +kernel
theorem dL_law_321 : decode cL_law 321 = .ok (.iload_n 3, 1) := by decide +kernel
theorem dL_law_322 : decode cL_law 322 = .ok (.iconst 1, 1) := by decide +kernel
theorem dL_law_323 : decode cL_law 323 = .ok (.iadd, 1) := by decide +kernel
theorem dL_law_324 : decode cL_law 324 = .ok (.iaload, 1) := by decide +kernel
theorem dL_law_325 : decode cL_law 325 = .ok (.aload_n 0, 1) := by decide +kernel
theorem dL_law_326 : decode cL_law 326 = .ok (.iload_n 3, 1) := by decide +kernel
theorem dL_law_327 : decode cL_law 327 = .ok (.iconst 2, 1) := by decide +kernel
theorem dL_law_328 : decode cL_law 328 = .ok (.iadd, 1) := by decide +kernel
theorem dL_law_329 : decode cL_law 329 = .ok (.iaload, 1) := by decide +kernel
theorem dL_law_330 : decode cL_law 330 = .ok (.invokevirtual 30, 3) := by decide +kernel
theorem dL_law_333 : decode cL_law 333 = .ok (.if_icmp .eq 889, 3) := by decide +kernel
theorem dL_law_336 : decode cL_law 336 = .ok (.iconst 0, 1) := by decide +kernel
theorem dL_law_337 : decode cL_law 337 = .ok (.ireturn, 1) := by decide +kernel
theorem dL_law_338 : decode cL_law 338 = .ok (.aload_n 1, 1) := by decide +kernel
theorem dL_law_339 : decode cL_law 339 = .ok (.aload_n 0, 1) := by decide +kernel
theorem dL_law_340 : decode cL_law 340 = .ok (.iload_n 3, 1) := by decide +kernel
theorem dL_law_341 : decode cL_law 341 = .ok (.iconst 1, 1) := by decide +kernel
theorem dL_law_342 : decode cL_law 342 = .ok (.iadd, 1) := by decide +kernel
theorem dL_law_343 : decode cL_law 343 = .ok (.iaload, 1) := by decide +kernel
theorem dL_law_344 : decode cL_law 344 = .ok (.aload_n 0, 1) := by decide +kernel
theorem dL_law_345 : decode cL_law 345 = .ok (.iload_n 3, 1) := by decide +kernel
theorem dL_law_346 : decode cL_law 346 = .ok (.iconst 2, 1) := by decide +kernel
theorem dL_law_347 : decode cL_law 347 = .ok (.iadd, 1) := by decide +kernel
theorem dL_law_348 : decode cL_law 348 = .ok (.iaload, 1) := by decide +kernel
theorem dL_law_349 : decode cL_law 349 = .ok (.invokevirtual 31, 3) := by decide +kernel
theorem dL_law_352 : decode cL_law 352 = .ok (.aload_n 2, 1) := by decide +kernel
theorem dL_law_353 : decode cL_law 353 = .ok (.aload_n 0, 1) := by decide +kernel
theorem dL_law_354 : decode cL_law 354 = .ok (.iload_n 3, 1) := by decide +kernel
theorem dL_law_355 : decode cL_law 355 = .ok (.iconst 1, 1) := by decide +kernel
theorem dL_law_356 : decode cL_law 356 = .ok (.iadd, 1) := by decide +kernel
theorem dL_law_357 : decode cL_law 357 = .ok (.iaload, 1) := by decide +kernel
theorem dL_law_358 : decode cL_law 358 = .ok (.aload_n 0, 1) := by decide +kernel
theorem dL_law_359 : decode cL_law 359 = .ok (.iload_n 3, 1) := by decide +kernel
theorem dL_law_360 : decode cL_law 360 = .ok (.iconst 2, 1) := by decide +kernel
theorem dL_law_361 : decode cL_law 361 = .ok (.iadd, 1) := by decide +kernel
theorem dL_law_362 : decode cL_law 362 = .ok (.iaload, 1) := by decide +kernel
theorem dL_law_363 : decode cL_law 363 = .ok (.invokevirtual 34, 3) := by decide +kernel
theorem dL_law_366 : decode cL_law 366 = .ok (.if_icmp .eq 856, 3) := by decide +kernel
theorem dL_law_369 : decode cL_law 369 = .ok (.iconst 0, 1) := by decide +kernel
theorem dL_law_370 : decode cL_law 370 = .ok (.ireturn, 1) := by decide +kernel
theorem dL_law_371 : decode cL_law 371 = .ok (.aload_n 1, 1) := by decide +kernel
theorem dL_law_372 : decode cL_law 372 = .ok (.aload_n 0, 1) := by decide +kernel
theorem dL_law_373 : decode cL_law 373 = .ok (.iload_n 3, 1) := by decide +kernel
theorem dL_law_374 : decode cL_law 374 = .ok (.iconst 1, 1) := by decide +kernel
theorem dL_law_375 : decode cL_law 375 = .ok (.iadd, 1) := by decide +kernel
theorem dL_law_376 : decode cL_law 376 = .ok (.iaload, 1) := by decide +kernel
theorem dL_law_377 : decode cL_law 377 = .ok (.aload_n 0, 1) := by decide +kernel
theorem dL_law_378 : decode cL_law 378 = .ok (.iload_n 3, 1) := by decide +kernel
theorem dL_law_379 : decode cL_law 379 = .ok (.iconst 2, 1) := by decide +kernel
theorem dL_law_380 : decode cL_law 380 = .ok (.iadd, 1) := by decide +kernel
theorem dL_law_381 : decode cL_law 381 = .ok (.iaload, 1) := by decide +kernel
theorem dL_law_382 : decode cL_law 382 = .ok (.aload_n 0, 1) := by decide +kernel
theorem dL_law_383 : decode cL_law 383 = .ok (.iload_n 3, 1) := by decide +kernel
theorem dL_law_384 : decode cL_law 384 = .ok (.iconst 3, 1) := by decide +kernel
theorem dL_law_385 : decode cL_law 385 = .ok (.iadd, 1) := by decide +kernel
theorem dL_law_386 : decode cL_law 386 = .ok (.iaload, 1) := by decide +kernel
theorem dL_law_387 : decode cL_law 387 = .ok (.aload_n 0, 1) := by decide +kernel
theorem dL_law_388 : decode cL_law 388 = .ok (.iload_n 3, 1) := by decide +kernel
theorem dL_law_389 : decode cL_law 389 = .ok (.iconst 4, 1) := by decide +kernel
theorem dL_law_390 : decode cL_law 390 = .ok (.iadd, 1) := by decide +kernel
theorem dL_law_391 : decode cL_law 391 = .ok (.iaload, 1) := by decide +kernel
theorem dL_law_392 : decode cL_law 392 = .ok (.aload_n 0, 1) := by decide +kernel
theorem dL_law_393 : decode cL_law 393 = .ok (.iload_n 3, 1) := by decide +kernel
theorem dL_law_394 : decode cL_law 394 = .ok (.iconst 5, 1) := by decide +kernel
theorem dL_law_395 : decode cL_law 395 = .ok (.iadd, 1) := by decide +kernel
theorem dL_law_396 : decode cL_law 396 = .ok (.iaload, 1) := by decide +kernel
theorem dL_law_397 : decode cL_law 397 = .ok (.invokevirtual 35, 3) := by decide +kernel
theorem dL_law_400 : decode cL_law 400 = .ok (.aload_n 2, 1) := by decide +kernel
theorem dL_law_401 : decode cL_law 401 = .ok (.aload_n 0, 1) := by decide +kernel
theorem dL_law_402 : decode cL_law 402 = .ok (.iload_n 3, 1) := by decide +kernel
theorem dL_law_403 : decode cL_law 403 = .ok (.iconst 1, 1) := by decide +kernel
theorem dL_law_404 : decode cL_law 404 = .ok (.iadd, 1) := by decide +kernel
theorem dL_law_405 : decode cL_law 405 = .ok (.iaload, 1) := by decide +kernel
theorem dL_law_406 : decode cL_law 406 = .ok (.aload_n 0, 1) := by decide +kernel
theorem dL_law_407 : decode cL_law 407 = .ok (.iload_n 3, 1) := by decide +kernel
theorem dL_law_408 : decode cL_law 408 = .ok (.iconst 2, 1) := by decide +kernel
theorem dL_law_409 : decode cL_law 409 = .ok (.iadd, 1) := by decide +kernel
theorem dL_law_410 : decode cL_law 410 = .ok (.iaload, 1) := by decide +kernel
theorem dL_law_411 : decode cL_law 411 = .ok (.aload_n 0, 1) := by decide +kernel
theorem dL_law_412 : decode cL_law 412 = .ok (.iload_n 3, 1) := by decide +kernel
theorem dL_law_413 : decode cL_law 413 = .ok (.iconst 3, 1) := by decide +kernel
theorem dL_law_414 : decode cL_law 414 = .ok (.iadd, 1) := by decide +kernel
theorem dL_law_415 : decode cL_law 415 = .ok (.iaload, 1) := by decide +kernel
theorem dL_law_416 : decode cL_law 416 = .ok (.aload_n 0, 1) := by decide +kernel
theorem dL_law_417 : decode cL_law 417 = .ok (.iload_n 3, 1) := by decide +kernel
theorem dL_law_418 : decode cL_law 418 = .ok (.iconst 4, 1) := by decide +kernel
theorem dL_law_419 : decode cL_law 419 = .ok (.iadd, 1) := by decide +kernel
theorem dL_law_420 : decode cL_law 420 = .ok (.iaload, 1) := by decide +kernel
theorem dL_law_421 : decode cL_law 421 = .ok (.aload_n 0, 1) := by decide +kernel
theorem dL_law_422 : decode cL_law 422 = .ok (.iload_n 3, 1) := by decide +kernel
theorem dL_law_423 : decode cL_law 423 = .ok (.iconst 5, 1) := by decide +kernel
theorem dL_law_424 : decode cL_law 424 = .ok (.iadd, 1) := by decide +kernel
theorem dL_law_425 : decode cL_law 425 = .ok (.iaload, 1) := by decide +kernel
theorem dL_law_426 : decode cL_law 426 = .ok (.invokevirtual 39, 3) := by decide +kernel
theorem dL_law_429 : decode cL_law 429 = .ok (.if_icmp .eq 793, 3) := by decide +kernel
theorem dL_law_432 : decode cL_law 432 = .ok (.iconst 0, 1) := by decide +kernel
theorem dL_law_433 : decode cL_law 433 = .ok (.ireturn, 1) := by decide +kernel
theorem dL_law_434 : decode cL_law 434 = .ok (.aload_n 1, 1) := by decide +kernel
theorem dL_law_435 : decode cL_law 435 = .ok (.aload_n 0, 1) := by decide +kernel
theorem dL_law_436 : decode cL_law 436 = .ok (.iload_n 3, 1) := by decide +kernel
theorem dL_law_437 : decode cL_law 437 = .ok (.iconst 1, 1) := by decide +kernel
theorem dL_law_438 : decode cL_law 438 = .ok (.iadd, 1) := by decide +kernel
theorem dL_law_439 : decode cL_law 439 = .ok (.iaload, 1) := by decide +kernel
theorem dL_law_440 : decode cL_law 440 = .ok (.invokevirtual 40, 3) := by decide +kernel
theorem dL_law_443 : decode cL_law 443 = .ok (.aload_n 2, 1) := by decide +kernel
theorem dL_law_444 : decode cL_law 444 = .ok (.aload_n 0, 1) := by decide +kernel
theorem dL_law_445 : decode cL_law 445 = .ok (.iload_n 3, 1) := by decide +kernel
theorem dL_law_446 : decode cL_law 446 = .ok (.iconst 1, 1) := by decide +kernel
theorem dL_law_447 : decode cL_law 447 = .ok (.iadd, 1) := by decide +kernel
theorem dL_law_448 : decode cL_law 448 = .ok (.iaload, 1) := by decide +kernel
theorem dL_law_449 : decode cL_law 449 = .ok (.invokevirtual 43, 3) := by decide +kernel
theorem dL_law_452 : decode cL_law 452 = .ok (.if_icmp .eq 770, 3) := by decide +kernel
theorem dL_law_455 : decode cL_law 455 = .ok (.iconst 0, 1) := by decide +kernel
theorem dL_law_456 : decode cL_law 456 = .ok (.ireturn, 1) := by decide +kernel
theorem dL_law_457 : decode cL_law 457 = .ok (.aload_n 1, 1) := by decide +kernel
theorem dL_law_458 : decode cL_law 458 = .ok (.aload_n 0, 1) := by decide +kernel
theorem dL_law_459 : decode cL_law 459 = .ok (.iload_n 3, 1) := by decide +kernel
theorem dL_law_460 : decode cL_law 460 = .ok (.iconst 1, 1) := by decide +kernel
theorem dL_law_461 : decode cL_law 461 = .ok (.iadd, 1) := by decide +kernel
theorem dL_law_462 : decode cL_law 462 = .ok (.iaload, 1) := by decide +kernel
theorem dL_law_463 : decode cL_law 463 = .ok (.aload_n 0, 1) := by decide +kernel
theorem dL_law_464 : decode cL_law 464 = .ok (.iload_n 3, 1) := by decide +kernel
theorem dL_law_465 : decode cL_law 465 = .ok (.iconst 2, 1) := by decide +kernel
theorem dL_law_466 : decode cL_law 466 = .ok (.iadd, 1) := by decide +kernel
theorem dL_law_467 : decode cL_law 467 = .ok (.iaload, 1) := by decide +kernel
theorem dL_law_468 : decode cL_law 468 = .ok (.aload_n 0, 1) := by decide +kernel
theorem dL_law_469 : decode cL_law 469 = .ok (.iload_n 3, 1) := by decide +kernel
theorem dL_law_470 : decode cL_law 470 = .ok (.iconst 3, 1) := by decide +kernel
theorem dL_law_471 : decode cL_law 471 = .ok (.iadd, 1) := by decide +kernel
theorem dL_law_472 : decode cL_law 472 = .ok (.iaload, 1) := by decide +kernel
theorem dL_law_473 : decode cL_law 473 = .ok (.invokevirtual 44, 3) := by decide +kernel
theorem dL_law_476 : decode cL_law 476 = .ok (.aload_n 2, 1) := by decide +kernel
theorem dL_law_477 : decode cL_law 477 = .ok (.aload_n 0, 1) := by decide +kernel
theorem dL_law_478 : decode cL_law 478 = .ok (.iload_n 3, 1) := by decide +kernel
theorem dL_law_479 : decode cL_law 479 = .ok (.iconst 1, 1) := by decide +kernel
theorem dL_law_480 : decode cL_law 480 = .ok (.iadd, 1) := by decide +kernel
theorem dL_law_481 : decode cL_law 481 = .ok (.iaload, 1) := by decide +kernel
theorem dL_law_482 : decode cL_law 482 = .ok (.aload_n 0, 1) := by decide +kernel
theorem dL_law_483 : decode cL_law 483 = .ok (.iload_n 3, 1) := by decide +kernel
theorem dL_law_484 : decode cL_law 484 = .ok (.iconst 2, 1) := by decide +kernel
theorem dL_law_485 : decode cL_law 485 = .ok (.iadd, 1) := by decide +kernel
theorem dL_law_486 : decode cL_law 486 = .ok (.iaload, 1) := by decide +kernel
theorem dL_law_487 : decode cL_law 487 = .ok (.aload_n 0, 1) := by decide +kernel
theorem dL_law_488 : decode cL_law 488 = .ok (.iload_n 3, 1) := by decide +kernel
theorem dL_law_489 : decode cL_law 489 = .ok (.iconst 3, 1) := by decide +kernel
theorem dL_law_490 : decode cL_law 490 = .ok (.iadd, 1) := by decide +kernel
theorem dL_law_491 : decode cL_law 491 = .ok (.iaload, 1) := by decide +kernel
theorem dL_law_492 : decode cL_law 492 = .ok (.invokevirtual 48, 3) := by decide +kernel
theorem dL_law_495 : decode cL_law 495 = .ok (.if_icmp .eq 727, 3) := by decide +kernel
theorem dL_law_498 : decode cL_law 498 = .ok (.iconst 0, 1) := by decide +kernel
theorem dL_law_499 : decode cL_law 499 = .ok (.ireturn, 1) := by decide +kernel
theorem dL_law_500 : decode cL_law 500 = .ok (.aload_n 1, 1) := by decide +kernel
theorem dL_law_501 : decode cL_law 501 = .ok (.aload_n 0, 1) := by decide +kernel
theorem dL_law_502 : decode cL_law 502 = .ok (.iload_n 3, 1) := by decide +kernel
theorem dL_law_503 : decode cL_law 503 = .ok (.iconst 1, 1) := by decide +kernel
theorem dL_law_504 : decode cL_law 504 = .ok (.iadd, 1) := by decide +kernel
theorem dL_law_505 : decode cL_law 505 = .ok (.iaload, 1) := by decide +kernel
theorem dL_law_506 : decode cL_law 506 = .ok (.aload_n 0, 1) := by decide +kernel
theorem dL_law_507 : decode cL_law 507 = .ok (.iload_n 3, 1) := by decide +kernel
theorem dL_law_508 : decode cL_law 508 = .ok (.iconst 2, 1) := by decide +kernel
theorem dL_law_509 : decode cL_law 509 = .ok (.iadd, 1) := by decide +kernel
theorem dL_law_510 : decode cL_law 510 = .ok (.iaload, 1) := by decide +kernel
theorem dL_law_511 : decode cL_law 511 = .ok (.invokevirtual 49, 3) := by decide +kernel
theorem dL_law_514 : decode cL_law 514 = .ok (.aload_n 2, 1) := by decide +kernel
theorem dL_law_515 : decode cL_law 515 = .ok (.aload_n 0, 1) := by decide +kernel
theorem dL_law_516 : decode cL_law 516 = .ok (.iload_n 3, 1) := by decide +kernel
theorem dL_law_517 : decode cL_law 517 = .ok (.iconst 1, 1) := by decide +kernel
theorem dL_law_518 : decode cL_law 518 = .ok (.iadd, 1) := by decide +kernel
theorem dL_law_519 : decode cL_law 519 = .ok (.iaload, 1) := by decide +kernel
theorem dL_law_520 : decode cL_law 520 = .ok (.aload_n 0, 1) := by decide +kernel
theorem dL_law_521 : decode cL_law 521 = .ok (.iload_n 3, 1) := by decide +kernel
theorem dL_law_522 : decode cL_law 522 = .ok (.iconst 2, 1) := by decide +kernel
theorem dL_law_523 : decode cL_law 523 = .ok (.iadd, 1) := by decide +kernel
theorem dL_law_524 : decode cL_law 524 = .ok (.iaload, 1) := by decide +kernel
theorem dL_law_525 : decode cL_law 525 = .ok (.invokevirtual 52, 3) := by decide +kernel
theorem dL_law_528 : decode cL_law 528 = .ok (.if_icmp .eq 694, 3) := by decide +kernel
theorem dL_law_531 : decode cL_law 531 = .ok (.iconst 0, 1) := by decide +kernel
theorem dL_law_532 : decode cL_law 532 = .ok (.ireturn, 1) := by decide +kernel
theorem dL_law_533 : decode cL_law 533 = .ok (.aload_n 1, 1) := by decide +kernel
theorem dL_law_534 : decode cL_law 534 = .ok (.invokevirtual 53, 3) := by decide +kernel
theorem dL_law_537 : decode cL_law 537 = .ok (.aload_n 2, 1) := by decide +kernel
theorem dL_law_538 : decode cL_law 538 = .ok (.invokevirtual 57, 3) := by decide +kernel
theorem dL_law_541 : decode cL_law 541 = .ok (.if_icmp .eq 681, 3) := by decide +kernel
theorem dL_law_544 : decode cL_law 544 = .ok (.iconst 0, 1) := by decide +kernel
theorem dL_law_545 : decode cL_law 545 = .ok (.ireturn, 1) := by decide +kernel
theorem dL_law_546 : decode cL_law 546 = .ok (.aload_n 1, 1) := by decide +kernel
theorem dL_law_547 : decode cL_law 547 = .ok (.invokevirtual 58, 3) := by decide +kernel
theorem dL_law_550 : decode cL_law 550 = .ok (.aload_n 2, 1) := by decide +kernel
theorem dL_law_551 : decode cL_law 551 = .ok (.invokevirtual 61, 3) := by decide +kernel
theorem dL_law_554 : decode cL_law 554 = .ok (.if_icmp .eq 668, 3) := by decide +kernel
theorem dL_law_557 : decode cL_law 557 = .ok (.iconst 0, 1) := by decide +kernel
theorem dL_law_558 : decode cL_law 558 = .ok (.ireturn, 1) := by decide +kernel
theorem dL_law_559 : decode cL_law 559 = .ok (.aload_n 1, 1) := by decide +kernel
theorem dL_law_560 : decode cL_law 560 = .ok (.invokevirtual 62, 3) := by decide +kernel
theorem dL_law_563 : decode cL_law 563 = .ok (.aload_n 2, 1) := by decide +kernel
theorem dL_law_564 : decode cL_law 564 = .ok (.invokevirtual 65, 3) := by decide +kernel
theorem dL_law_567 : decode cL_law 567 = .ok (.if_icmp .eq 655, 3) := by decide +kernel
theorem dL_law_570 : decode cL_law 570 = .ok (.iconst 0, 1) := by decide +kernel
theorem dL_law_571 : decode cL_law 571 = .ok (.ireturn, 1) := by decide +kernel
theorem dL_law_572 : decode cL_law 572 = .ok (.aload_n 1, 1) := by decide +kernel
theorem dL_law_573 : decode cL_law 573 = .ok (.invokevirtual 66, 3) := by decide +kernel
theorem dL_law_576 : decode cL_law 576 = .ok (.aload_n 2, 1) := by decide +kernel
theorem dL_law_577 : decode cL_law 577 = .ok (.invokevirtual 69, 3) := by decide +kernel
theorem dL_law_580 : decode cL_law 580 = .ok (.if_icmp .eq 642, 3) := by decide +kernel
theorem dL_law_583 : decode cL_law 583 = .ok (.iconst 0, 1) := by decide +kernel
theorem dL_law_584 : decode cL_law 584 = .ok (.ireturn, 1) := by decide +kernel
theorem dL_law_585 : decode cL_law 585 = .ok (.aload_n 1, 1) := by decide +kernel
theorem dL_law_586 : decode cL_law 586 = .ok (.aload_n 0, 1) := by decide +kernel
theorem dL_law_587 : decode cL_law 587 = .ok (.iload_n 3, 1) := by decide +kernel
theorem dL_law_588 : decode cL_law 588 = .ok (.iconst 1, 1) := by decide +kernel
theorem dL_law_589 : decode cL_law 589 = .ok (.iadd, 1) := by decide +kernel
theorem dL_law_590 : decode cL_law 590 = .ok (.iaload, 1) := by decide +kernel
theorem dL_law_591 : decode cL_law 591 = .ok (.invokevirtual 70, 3) := by decide +kernel
theorem dL_law_594 : decode cL_law 594 = .ok (.aload_n 2, 1) := by decide +kernel
theorem dL_law_595 : decode cL_law 595 = .ok (.aload_n 0, 1) := by decide +kernel
theorem dL_law_596 : decode cL_law 596 = .ok (.iload_n 3, 1) := by decide +kernel
theorem dL_law_597 : decode cL_law 597 = .ok (.iconst 1, 1) := by decide +kernel
theorem dL_law_598 : decode cL_law 598 = .ok (.iadd, 1) := by decide +kernel
theorem dL_law_599 : decode cL_law 599 = .ok (.iaload, 1) := by decide +kernel
theorem dL_law_600 : decode cL_law 600 = .ok (.invokevirtual 73, 3) := by decide +kernel
theorem dL_law_603 : decode cL_law 603 = .ok (.if_icmp .eq 619, 3) := by decide +kernel
theorem dL_law_606 : decode cL_law 606 = .ok (.iconst 0, 1) := by decide +kernel
theorem dL_law_607 : decode cL_law 607 = .ok (.ireturn, 1) := by decide +kernel
theorem dL_law_608 : decode cL_law 608 = .ok (.aload_n 1, 1) := by decide +kernel
theorem dL_law_609 : decode cL_law 609 = .ok (.aload_n 0, 1) := by decide +kernel
theorem dL_law_610 : decode cL_law 610 = .ok (.iload_n 3, 1) := by decide +kernel
theorem dL_law_611 : decode cL_law 611 = .ok (.iconst 1, 1) := by decide +kernel
theorem dL_law_612 : decode cL_law 612 = .ok (.iadd, 1) := by decide +kernel
theorem dL_law_613 : decode cL_law 613 = .ok (.iaload, 1) := by decide +kernel
theorem dL_law_614 : decode cL_law 614 = .ok (.invokevirtual 74, 3) := by decide +kernel
theorem dL_law_617 : decode cL_law 617 = .ok (.aload_n 2, 1) := by decide +kernel
theorem dL_law_618 : decode cL_law 618 = .ok (.aload_n 0, 1) := by decide +kernel
theorem dL_law_619 : decode cL_law 619 = .ok (.iload_n 3, 1) := by decide +kernel
theorem dL_law_620 : decode cL_law 620 = .ok (.iconst 1, 1) := by decide +kernel
theorem dL_law_621 : decode cL_law 621 = .ok (.iadd, 1) := by decide +kernel
theorem dL_law_622 : decode cL_law 622 = .ok (.iaload, 1) := by decide +kernel
theorem dL_law_623 : decode cL_law 623 = .ok (.invokevirtual 77, 3) := by decide +kernel
theorem dL_law_626 : decode cL_law 626 = .ok (.if_icmp .eq 596, 3) := by decide +kernel
theorem dL_law_629 : decode cL_law 629 = .ok (.iconst 0, 1) := by decide +kernel
theorem dL_law_630 : decode cL_law 630 = .ok (.ireturn, 1) := by decide +kernel
theorem dL_law_631 : decode cL_law 631 = .ok (.aload_n 1, 1) := by decide +kernel
theorem dL_law_632 : decode cL_law 632 = .ok (.invokevirtual 78, 3) := by decide +kernel
theorem dL_law_635 : decode cL_law 635 = .ok (.aload_n 2, 1) := by decide +kernel
theorem dL_law_636 : decode cL_law 636 = .ok (.invokevirtual 81, 3) := by decide +kernel
theorem dL_law_639 : decode cL_law 639 = .ok (.if_icmp .eq 583, 3) := by decide +kernel
theorem dL_law_642 : decode cL_law 642 = .ok (.iconst 0, 1) := by decide +kernel
theorem dL_law_643 : decode cL_law 643 = .ok (.ireturn, 1) := by decide +kernel
theorem dL_law_644 : decode cL_law 644 = .ok (.aload_n 1, 1) := by decide +kernel
theorem dL_law_645 : decode cL_law 645 = .ok (.aload_n 0, 1) := by decide +kernel
theorem dL_law_646 : decode cL_law 646 = .ok (.iload_n 3, 1) := by decide +kernel
theorem dL_law_647 : decode cL_law 647 = .ok (.iconst 1, 1) := by decide +kernel
theorem dL_law_648 : decode cL_law 648 = .ok (.iadd, 1) := by decide +kernel
theorem dL_law_649 : decode cL_law 649 = .ok (.iaload, 1) := by decide +kernel
theorem dL_law_650 : decode cL_law 650 = .ok (.aload_n 0, 1) := by decide +kernel
theorem dL_law_651 : decode cL_law 651 = .ok (.iload_n 3, 1) := by decide +kernel
theorem dL_law_652 : decode cL_law 652 = .ok (.iconst 2, 1) := by decide +kernel
theorem dL_law_653 : decode cL_law 653 = .ok (.iadd, 1) := by decide +kernel
theorem dL_law_654 : decode cL_law 654 = .ok (.iaload, 1) := by decide +kernel
theorem dL_law_655 : decode cL_law 655 = .ok (.invokevirtual 82, 3) := by decide +kernel
theorem dL_law_658 : decode cL_law 658 = .ok (.aload_n 2, 1) := by decide +kernel
theorem dL_law_659 : decode cL_law 659 = .ok (.aload_n 0, 1) := by decide +kernel
theorem dL_law_660 : decode cL_law 660 = .ok (.iload_n 3, 1) := by decide +kernel
theorem dL_law_661 : decode cL_law 661 = .ok (.iconst 1, 1) := by decide +kernel
theorem dL_law_662 : decode cL_law 662 = .ok (.iadd, 1) := by decide +kernel
theorem dL_law_663 : decode cL_law 663 = .ok (.iaload, 1) := by decide +kernel
theorem dL_law_664 : decode cL_law 664 = .ok (.aload_n 0, 1) := by decide +kernel
theorem dL_law_665 : decode cL_law 665 = .ok (.iload_n 3, 1) := by decide +kernel
theorem dL_law_666 : decode cL_law 666 = .ok (.iconst 2, 1) := by decide +kernel
theorem dL_law_667 : decode cL_law 667 = .ok (.iadd, 1) := by decide +kernel
theorem dL_law_668 : decode cL_law 668 = .ok (.iaload, 1) := by decide +kernel
theorem dL_law_669 : decode cL_law 669 = .ok (.invokevirtual 85, 3) := by decide +kernel
theorem dL_law_672 : decode cL_law 672 = .ok (.if_icmp .eq 550, 3) := by decide +kernel
theorem dL_law_675 : decode cL_law 675 = .ok (.iconst 0, 1) := by decide +kernel
theorem dL_law_676 : decode cL_law 676 = .ok (.ireturn, 1) := by decide +kernel
theorem dL_law_677 : decode cL_law 677 = .ok (.aload_n 1, 1) := by decide +kernel
theorem dL_law_678 : decode cL_law 678 = .ok (.aload_n 0, 1) := by decide +kernel
theorem dL_law_679 : decode cL_law 679 = .ok (.iload_n 3, 1) := by decide +kernel
theorem dL_law_680 : decode cL_law 680 = .ok (.iconst 1, 1) := by decide +kernel
theorem dL_law_681 : decode cL_law 681 = .ok (.iadd, 1) := by decide +kernel
theorem dL_law_682 : decode cL_law 682 = .ok (.iaload, 1) := by decide +kernel
theorem dL_law_683 : decode cL_law 683 = .ok (.invokevirtual 86, 3) := by decide +kernel
theorem dL_law_686 : decode cL_law 686 = .ok (.aload_n 2, 1) := by decide +kernel
theorem dL_law_687 : decode cL_law 687 = .ok (.aload_n 0, 1) := by decide +kernel
theorem dL_law_688 : decode cL_law 688 = .ok (.iload_n 3, 1) := by decide +kernel
theorem dL_law_689 : decode cL_law 689 = .ok (.iconst 1, 1) := by decide +kernel
theorem dL_law_690 : decode cL_law 690 = .ok (.iadd, 1) := by decide +kernel
theorem dL_law_691 : decode cL_law 691 = .ok (.iaload, 1) := by decide +kernel
theorem dL_law_692 : decode cL_law 692 = .ok (.invokevirtual 89, 3) := by decide +kernel
theorem dL_law_695 : decode cL_law 695 = .ok (.if_icmp .eq 527, 3) := by decide +kernel
theorem dL_law_698 : decode cL_law 698 = .ok (.iconst 0, 1) := by decide +kernel
theorem dL_law_699 : decode cL_law 699 = .ok (.ireturn, 1) := by decide +kernel
theorem dL_law_700 : decode cL_law 700 = .ok (.aload_n 1, 1) := by decide +kernel
theorem dL_law_701 : decode cL_law 701 = .ok (.invokevirtual 90, 3) := by decide +kernel
theorem dL_law_704 : decode cL_law 704 = .ok (.aload_n 2, 1) := by decide +kernel
theorem dL_law_705 : decode cL_law 705 = .ok (.invokevirtual 93, 3) := by decide +kernel
theorem dL_law_708 : decode cL_law 708 = .ok (.if_icmp .eq 514, 3) := by decide +kernel
theorem dL_law_711 : decode cL_law 711 = .ok (.iconst 0, 1) := by decide +kernel
theorem dL_law_712 : decode cL_law 712 = .ok (.ireturn, 1) := by decide +kernel
theorem dL_law_713 : decode cL_law 713 = .ok (.aload_n 1, 1) := by decide +kernel
theorem dL_law_714 : decode cL_law 714 = .ok (.invokevirtual 94, 3) := by decide +kernel
theorem dL_law_717 : decode cL_law 717 = .ok (.aload_n 2, 1) := by decide +kernel
theorem dL_law_718 : decode cL_law 718 = .ok (.invokevirtual 97, 3) := by decide +kernel
theorem dL_law_721 : decode cL_law 721 = .ok (.if_icmp .eq 501, 3) := by decide +kernel
theorem dL_law_724 : decode cL_law 724 = .ok (.iconst 0, 1) := by decide +kernel
theorem dL_law_725 : decode cL_law 725 = .ok (.ireturn, 1) := by decide +kernel
theorem dL_law_726 : decode cL_law 726 = .ok (.aload_n 1, 1) := by decide +kernel
theorem dL_law_727 : decode cL_law 727 = .ok (.aload_n 0, 1) := by decide +kernel
theorem dL_law_728 : decode cL_law 728 = .ok (.iload_n 3, 1) := by decide +kernel
theorem dL_law_729 : decode cL_law 729 = .ok (.iconst 1, 1) := by decide +kernel
theorem dL_law_730 : decode cL_law 730 = .ok (.iadd, 1) := by decide +kernel
theorem dL_law_731 : decode cL_law 731 = .ok (.iaload, 1) := by decide +kernel
theorem dL_law_732 : decode cL_law 732 = .ok (.aload_n 0, 1) := by decide +kernel
theorem dL_law_733 : decode cL_law 733 = .ok (.iload_n 3, 1) := by decide +kernel
theorem dL_law_734 : decode cL_law 734 = .ok (.iconst 2, 1) := by decide +kernel
theorem dL_law_735 : decode cL_law 735 = .ok (.iadd, 1) := by decide +kernel
theorem dL_law_736 : decode cL_law 736 = .ok (.iaload, 1) := by decide +kernel
theorem dL_law_737 : decode cL_law 737 = .ok (.invokevirtual 98, 3) := by decide +kernel
theorem dL_law_740 : decode cL_law 740 = .ok (.aload_n 2, 1) := by decide +kernel
theorem dL_law_741 : decode cL_law 741 = .ok (.aload_n 0, 1) := by decide +kernel
theorem dL_law_742 : decode cL_law 742 = .ok (.iload_n 3, 1) := by decide +kernel
theorem dL_law_743 : decode cL_law 743 = .ok (.iconst 1, 1) := by decide +kernel
theorem dL_law_744 : decode cL_law 744 = .ok (.iadd, 1) := by decide +kernel
theorem dL_law_745 : decode cL_law 745 = .ok (.iaload, 1) := by decide +kernel
theorem dL_law_746 : decode cL_law 746 = .ok (.aload_n 0, 1) := by decide +kernel
theorem dL_law_747 : decode cL_law 747 = .ok (.iload_n 3, 1) := by decide +kernel
theorem dL_law_748 : decode cL_law 748 = .ok (.iconst 2, 1) := by decide +kernel
theorem dL_law_749 : decode cL_law 749 = .ok (.iadd, 1) := by decide +kernel
theorem dL_law_750 : decode cL_law 750 = .ok (.iaload, 1) := by decide +kernel
theorem dL_law_751 : decode cL_law 751 = .ok (.invokevirtual 101, 3) := by decide +kernel
theorem dL_law_754 : decode cL_law 754 = .ok (.if_icmp .eq 468, 3) := by decide +kernel
theorem dL_law_757 : decode cL_law 757 = .ok (.iconst 0, 1) := by decide +kernel
theorem dL_law_758 : decode cL_law 758 = .ok (.ireturn, 1) := by decide +kernel
theorem dL_law_759 : decode cL_law 759 = .ok (.aload_n 1, 1) := by decide +kernel
theorem dL_law_760 : decode cL_law 760 = .ok (.aload_n 0, 1) := by decide +kernel
theorem dL_law_761 : decode cL_law 761 = .ok (.iload_n 3, 1) := by decide +kernel
theorem dL_law_762 : decode cL_law 762 = .ok (.iconst 1, 1) := by decide +kernel
theorem dL_law_763 : decode cL_law 763 = .ok (.iadd, 1) := by decide +kernel
theorem dL_law_764 : decode cL_law 764 = .ok (.iaload, 1) := by decide +kernel
theorem dL_law_765 : decode cL_law 765 = .ok (.aload_n 0, 1) := by decide +kernel
theorem dL_law_766 : decode cL_law 766 = .ok (.iload_n 3, 1) := by decide +kernel
theorem dL_law_767 : decode cL_law 767 = .ok (.iconst 2, 1) := by decide +kernel
theorem dL_law_768 : decode cL_law 768 = .ok (.iadd, 1) := by decide +kernel
theorem dL_law_769 : decode cL_law 769 = .ok (.iaload, 1) := by decide +kernel
theorem dL_law_770 : decode cL_law 770 = .ok (.invokevirtual 102, 3) := by decide +kernel
theorem dL_law_773 : decode cL_law 773 = .ok (.aload_n 2, 1) := by decide +kernel
theorem dL_law_774 : decode cL_law 774 = .ok (.aload_n 0, 1) := by decide +kernel
theorem dL_law_775 : decode cL_law 775 = .ok (.iload_n 3, 1) := by decide +kernel
theorem dL_law_776 : decode cL_law 776 = .ok (.iconst 1, 1) := by decide +kernel
theorem dL_law_777 : decode cL_law 777 = .ok (.iadd, 1) := by decide +kernel
theorem dL_law_778 : decode cL_law 778 = .ok (.iaload, 1) := by decide +kernel
theorem dL_law_779 : decode cL_law 779 = .ok (.aload_n 0, 1) := by decide +kernel
theorem dL_law_780 : decode cL_law 780 = .ok (.iload_n 3, 1) := by decide +kernel
theorem dL_law_781 : decode cL_law 781 = .ok (.iconst 2, 1) := by decide +kernel
theorem dL_law_782 : decode cL_law 782 = .ok (.iadd, 1) := by decide +kernel
theorem dL_law_783 : decode cL_law 783 = .ok (.iaload, 1) := by decide +kernel
theorem dL_law_784 : decode cL_law 784 = .ok (.invokevirtual 105, 3) := by decide +kernel
theorem dL_law_787 : decode cL_law 787 = .ok (.if_icmp .eq 435, 3) := by decide +kernel
theorem dL_law_790 : decode cL_law 790 = .ok (.iconst 0, 1) := by decide +kernel
theorem dL_law_791 : decode cL_law 791 = .ok (.ireturn, 1) := by decide +kernel
theorem dL_law_792 : decode cL_law 792 = .ok (.aload_n 1, 1) := by decide +kernel
theorem dL_law_793 : decode cL_law 793 = .ok (.invokevirtual 106, 3) := by decide +kernel
theorem dL_law_796 : decode cL_law 796 = .ok (.aload_n 2, 1) := by decide +kernel
theorem dL_law_797 : decode cL_law 797 = .ok (.invokevirtual 109, 3) := by decide +kernel
theorem dL_law_800 : decode cL_law 800 = .ok (.if_icmp .eq 422, 3) := by decide +kernel
theorem dL_law_803 : decode cL_law 803 = .ok (.iconst 0, 1) := by decide +kernel
theorem dL_law_804 : decode cL_law 804 = .ok (.ireturn, 1) := by decide +kernel
theorem dL_law_805 : decode cL_law 805 = .ok (.aload_n 1, 1) := by decide +kernel
theorem dL_law_806 : decode cL_law 806 = .ok (.invokevirtual 110, 3) := by decide +kernel
theorem dL_law_809 : decode cL_law 809 = .ok (.aload_n 2, 1) := by decide +kernel
theorem dL_law_810 : decode cL_law 810 = .ok (.invokevirtual 113, 3) := by decide +kernel
theorem dL_law_813 : decode cL_law 813 = .ok (.if_icmp .eq 409, 3) := by decide +kernel
theorem dL_law_816 : decode cL_law 816 = .ok (.iconst 0, 1) := by decide +kernel
theorem dL_law_817 : decode cL_law 817 = .ok (.ireturn, 1) := by decide +kernel
theorem dL_law_818 : decode cL_law 818 = .ok (.aload_n 1, 1) := by decide +kernel
theorem dL_law_819 : decode cL_law 819 = .ok (.aload_n 0, 1) := by decide +kernel
theorem dL_law_820 : decode cL_law 820 = .ok (.iload_n 3, 1) := by decide +kernel
theorem dL_law_821 : decode cL_law 821 = .ok (.iconst 1, 1) := by decide +kernel
theorem dL_law_822 : decode cL_law 822 = .ok (.iadd, 1) := by decide +kernel
theorem dL_law_823 : decode cL_law 823 = .ok (.iaload, 1) := by decide +kernel
theorem dL_law_824 : decode cL_law 824 = .ok (.invokevirtual 114, 3) := by decide +kernel
theorem dL_law_827 : decode cL_law 827 = .ok (.aload_n 2, 1) := by decide +kernel
theorem dL_law_828 : decode cL_law 828 = .ok (.aload_n 0, 1) := by decide +kernel
theorem dL_law_829 : decode cL_law 829 = .ok (.iload_n 3, 1) := by decide +kernel
theorem dL_law_830 : decode cL_law 830 = .ok (.iconst 1, 1) := by decide +kernel
theorem dL_law_831 : decode cL_law 831 = .ok (.iadd, 1) := by decide +kernel
theorem dL_law_832 : decode cL_law 832 = .ok (.iaload, 1) := by decide +kernel
theorem dL_law_833 : decode cL_law 833 = .ok (.invokevirtual 117, 3) := by decide +kernel
theorem dL_law_836 : decode cL_law 836 = .ok (.if_icmp .eq 386, 3) := by decide +kernel
theorem dL_law_839 : decode cL_law 839 = .ok (.iconst 0, 1) := by decide +kernel
theorem dL_law_840 : decode cL_law 840 = .ok (.ireturn, 1) := by decide +kernel
theorem dL_law_841 : decode cL_law 841 = .ok (.aload_n 1, 1) := by decide +kernel
theorem dL_law_842 : decode cL_law 842 = .ok (.invokevirtual 118, 3) := by decide +kernel
theorem dL_law_845 : decode cL_law 845 = .ok (.aload_n 2, 1) := by decide +kernel
theorem dL_law_846 : decode cL_law 846 = .ok (.invokevirtual 121, 3) := by decide +kernel
theorem dL_law_849 : decode cL_law 849 = .ok (.if_icmp .eq 373, 3) := by decide +kernel
theorem dL_law_852 : decode cL_law 852 = .ok (.iconst 0, 1) := by decide +kernel
theorem dL_law_853 : decode cL_law 853 = .ok (.ireturn, 1) := by decide +kernel
theorem dL_law_854 : decode cL_law 854 = .ok (.aload_n 1, 1) := by decide +kernel
theorem dL_law_855 : decode cL_law 855 = .ok (.invokevirtual 122, 3) := by decide +kernel
theorem dL_law_858 : decode cL_law 858 = .ok (.aload_n 2, 1) := by decide +kernel
theorem dL_law_859 : decode cL_law 859 = .ok (.invokevirtual 125, 3) := by decide +kernel
theorem dL_law_862 : decode cL_law 862 = .ok (.if_icmp .eq 360, 3) := by decide +kernel
theorem dL_law_865 : decode cL_law 865 = .ok (.iconst 0, 1) := by decide +kernel
theorem dL_law_866 : decode cL_law 866 = .ok (.ireturn, 1) := by decide +kernel
theorem dL_law_867 : decode cL_law 867 = .ok (.aload_n 1, 1) := by decide +kernel
theorem dL_law_868 : decode cL_law 868 = .ok (.invokevirtual 126, 3) := by decide +kernel
theorem dL_law_871 : decode cL_law 871 = .ok (.aload_n 2, 1) := by decide +kernel
theorem dL_law_872 : decode cL_law 872 = .ok (.invokevirtual 129, 3) := by decide +kernel
theorem dL_law_875 : decode cL_law 875 = .ok (.if_icmp .eq 347, 3) := by decide +kernel
theorem dL_law_878 : decode cL_law 878 = .ok (.iconst 0, 1) := by decide +kernel
theorem dL_law_879 : decode cL_law 879 = .ok (.ireturn, 1) := by decide +kernel
theorem dL_law_880 : decode cL_law 880 = .ok (.aload_n 1, 1) := by decide +kernel
theorem dL_law_881 : decode cL_law 881 = .ok (.aload_n 0, 1) := by decide +kernel
theorem dL_law_882 : decode cL_law 882 = .ok (.iload_n 3, 1) := by decide +kernel
theorem dL_law_883 : decode cL_law 883 = .ok (.iconst 1, 1) := by decide +kernel
theorem dL_law_884 : decode cL_law 884 = .ok (.iadd, 1) := by decide +kernel
theorem dL_law_885 : decode cL_law 885 = .ok (.iaload, 1) := by decide +kernel
theorem dL_law_886 : decode cL_law 886 = .ok (.invokevirtual 130, 3) := by decide +kernel
theorem dL_law_889 : decode cL_law 889 = .ok (.aload_n 2, 1) := by decide +kernel
theorem dL_law_890 : decode cL_law 890 = .ok (.aload_n 0, 1) := by decide +kernel
theorem dL_law_891 : decode cL_law 891 = .ok (.iload_n 3, 1) := by decide +kernel
theorem dL_law_892 : decode cL_law 892 = .ok (.iconst 1, 1) := by decide +kernel
theorem dL_law_893 : decode cL_law 893 = .ok (.iadd, 1) := by decide +kernel
theorem dL_law_894 : decode cL_law 894 = .ok (.iaload, 1) := by decide +kernel
theorem dL_law_895 : decode cL_law 895 = .ok (.invokevirtual 133, 3) := by decide +kernel
theorem dL_law_898 : decode cL_law 898 = .ok (.if_icmp .eq 324, 3) := by decide +kernel
theorem dL_law_901 : decode cL_law 901 = .ok (.iconst 0, 1) := by decide +kernel
theorem dL_law_902 : decode cL_law 902 = .ok (.ireturn, 1) := by decide +kernel
theorem dL_law_903 : decode cL_law 903 = .ok (.aload_n 1, 1) := by decide +kernel
theorem dL_law_904 : decode cL_law 904 = .ok (.aload_n 0, 1) := by decide +kernel
theorem dL_law_905 : decode cL_law 905 = .ok (.iload_n 3, 1) := by decide +kernel
theorem dL_law_906 : decode cL_law 906 = .ok (.iconst 1, 1) := by decide +kernel
theorem dL_law_907 : decode cL_law 907 = .ok (.iadd, 1) := by decide +kernel
theorem dL_law_908 : decode cL_law 908 = .ok (.iaload, 1) := by decide +kernel
theorem dL_law_909 : decode cL_law 909 = .ok (.aload_n 0, 1) := by decide +kernel
theorem dL_law_910 : decode cL_law 910 = .ok (.iload_n 3, 1) := by decide +kernel
theorem dL_law_911 : decode cL_law 911 = .ok (.iconst 2, 1) := by decide +kernel
theorem dL_law_912 : decode cL_law 912 = .ok (.iadd, 1) := by decide +kernel
theorem dL_law_913 : decode cL_law 913 = .ok (.iaload, 1) := by decide +kernel
theorem dL_law_914 : decode cL_law 914 = .ok (.invokevirtual 134, 3) := by decide +kernel
theorem dL_law_917 : decode cL_law 917 = .ok (.aload_n 2, 1) := by decide +kernel
theorem dL_law_918 : decode cL_law 918 = .ok (.aload_n 0, 1) := by decide +kernel
theorem dL_law_919 : decode cL_law 919 = .ok (.iload_n 3, 1) := by decide +kernel
theorem dL_law_920 : decode cL_law 920 = .ok (.iconst 1, 1) := by decide +kernel
theorem dL_law_921 : decode cL_law 921 = .ok (.iadd, 1) := by decide +kernel
theorem dL_law_922 : decode cL_law 922 = .ok (.iaload, 1) := by decide +kernel
theorem dL_law_923 : decode cL_law 923 = .ok (.aload_n 0, 1) := by decide +kernel
theorem dL_law_924 : decode cL_law 924 = .ok (.iload_n 3, 1) := by decide +kernel
theorem dL_law_925 : decode cL_law 925 = .ok (.iconst 2, 1) := by decide +kernel
theorem dL_law_926 : decode cL_law 926 = .ok (.iadd, 1) := by decide +kernel
theorem dL_law_927 : decode cL_law 927 = .ok (.iaload, 1) := by decide +kernel
theorem dL_law_928 : decode cL_law 928 = .ok (.invokevirtual 137, 3) := by decide +kernel
theorem dL_law_931 : decode cL_law 931 = .ok (.if_icmp .eq 291, 3) := by decide +kernel
theorem dL_law_934 : decode cL_law 934 = .ok (.iconst 0, 1) := by decide +kernel
theorem dL_law_935 : decode cL_law 935 = .ok (.ireturn, 1) := by decide +kernel
theorem dL_law_936 : decode cL_law 936 = .ok (.aload_n 1, 1) := by decide +kernel
theorem dL_law_937 : decode cL_law 937 = .ok (.aload_n 0, 1) := by decide +kernel
theorem dL_law_938 : decode cL_law 938 = .ok (.iload_n 3, 1) := by decide +kernel
theorem dL_law_939 : decode cL_law 939 = .ok (.iconst 1, 1) := by decide +kernel
theorem dL_law_940 : decode cL_law 940 = .ok (.iadd, 1) := by decide +kernel
theorem dL_law_941 : decode cL_law 941 = .ok (.iaload, 1) := by decide +kernel
theorem dL_law_942 : decode cL_law 942 = .ok (.aload_n 0, 1) := by decide +kernel
theorem dL_law_943 : decode cL_law 943 = .ok (.iload_n 3, 1) := by decide +kernel
theorem dL_law_944 : decode cL_law 944 = .ok (.iconst 2, 1) := by decide +kernel
theorem dL_law_945 : decode cL_law 945 = .ok (.iadd, 1) := by decide +kernel
theorem dL_law_946 : decode cL_law 946 = .ok (.iaload, 1) := by decide +kernel
theorem dL_law_947 : decode cL_law 947 = .ok (.invokevirtual 138, 3) := by decide +kernel
theorem dL_law_950 : decode cL_law 950 = .ok (.aload_n 2, 1) := by decide +kernel
theorem dL_law_951 : decode cL_law 951 = .ok (.aload_n 0, 1) := by decide +kernel
theorem dL_law_952 : decode cL_law 952 = .ok (.iload_n 3, 1) := by decide +kernel
theorem dL_law_953 : decode cL_law 953 = .ok (.iconst 1, 1) := by decide +kernel
theorem dL_law_954 : decode cL_law 954 = .ok (.iadd, 1) := by decide +kernel
theorem dL_law_955 : decode cL_law 955 = .ok (.iaload, 1) := by decide +kernel
theorem dL_law_956 : decode cL_law 956 = .ok (.aload_n 0, 1) := by decide +kernel
theorem dL_law_957 : decode cL_law 957 = .ok (.iload_n 3, 1) := by decide +kernel
theorem dL_law_958 : decode cL_law 958 = .ok (.iconst 2, 1) := by decide +kernel
theorem dL_law_959 : decode cL_law 959 = .ok (.iadd, 1) := by decide +kernel
theorem dL_law_960 : decode cL_law 960 = .ok (.iaload, 1) := by decide +kernel
theorem dL_law_961 : decode cL_law 961 = .ok (.invokevirtual 141, 3) := by decide +kernel
theorem dL_law_964 : decode cL_law 964 = .ok (.if_icmp .eq 258, 3) := by decide +kernel
theorem dL_law_967 : decode cL_law 967 = .ok (.iconst 0, 1) := by decide +kernel
theorem dL_law_968 : decode cL_law 968 = .ok (.ireturn, 1) := by decide +kernel
theorem dL_law_969 : decode cL_law 969 = .ok (.aload_n 1, 1) := by decide +kernel
theorem dL_law_970 : decode cL_law 970 = .ok (.invokevirtual 142, 3) := by decide +kernel
theorem dL_law_973 : decode cL_law 973 = .ok (.aload_n 2, 1) := by decide +kernel
theorem dL_law_974 : decode cL_law 974 = .ok (.invokevirtual 145, 3) := by decide +kernel
theorem dL_law_977 : decode cL_law 977 = .ok (.if_icmp .eq 245, 3) := by decide +kernel
theorem dL_law_980 : decode cL_law 980 = .ok (.iconst 0, 1) := by decide +kernel
theorem dL_law_981 : decode cL_law 981 = .ok (.ireturn, 1) := by decide +kernel
theorem dL_law_982 : decode cL_law 982 = .ok (.aload_n 1, 1) := by decide +kernel
theorem dL_law_983 : decode cL_law 983 = .ok (.aload_n 0, 1) := by decide +kernel
theorem dL_law_984 : decode cL_law 984 = .ok (.iload_n 3, 1) := by decide +kernel
theorem dL_law_985 : decode cL_law 985 = .ok (.iconst 1, 1) := by decide +kernel
theorem dL_law_986 : decode cL_law 986 = .ok (.iadd, 1) := by decide +kernel
theorem dL_law_987 : decode cL_law 987 = .ok (.iaload, 1) := by decide +kernel
theorem dL_law_988 : decode cL_law 988 = .ok (.invokevirtual 146, 3) := by decide +kernel
theorem dL_law_991 : decode cL_law 991 = .ok (.aload_n 2, 1) := by decide +kernel
theorem dL_law_992 : decode cL_law 992 = .ok (.aload_n 0, 1) := by decide +kernel
theorem dL_law_993 : decode cL_law 993 = .ok (.iload_n 3, 1) := by decide +kernel
theorem dL_law_994 : decode cL_law 994 = .ok (.iconst 1, 1) := by decide +kernel
theorem dL_law_995 : decode cL_law 995 = .ok (.iadd, 1) := by decide +kernel
theorem dL_law_996 : decode cL_law 996 = .ok (.iaload, 1) := by decide +kernel
theorem dL_law_997 : decode cL_law 997 = .ok (.invokevirtual 149, 3) := by decide +kernel
theorem dL_law_1000 : decode cL_law 1000 = .ok (.if_icmp .eq 222, 3) := by decide +kernel
theorem dL_law_1003 : decode cL_law 1003 = .ok (.iconst 0, 1) := by decide +kernel
theorem dL_law_1004 : decode cL_law 1004 = .ok (.ireturn, 1) := by decide +kernel
theorem dL_law_1005 : decode cL_law 1005 = .ok (.aload_n 1, 1) := by decide +kernel
theorem dL_law_1006 : decode cL_law 1006 = .ok (.aload_n 0, 1) := by decide +kernel
theorem dL_law_1007 : decode cL_law 1007 = .ok (.iload_n 3, 1) := by decide +kernel
theorem dL_law_1008 : decode cL_law 1008 = .ok (.iconst 1, 1) := by decide +kernel
theorem dL_law_1009 : decode cL_law 1009 = .ok (.iadd, 1) := by decide +kernel
theorem dL_law_1010 : decode cL_law 1010 = .ok (.iaload, 1) := by decide +kernel
theorem dL_law_1011 : decode cL_law 1011 = .ok (.aload_n 0, 1) := by decide +kernel
theorem dL_law_1012 : decode cL_law 1012 = .ok (.iload_n 3, 1) := by decide +kernel
theorem dL_law_1013 : decode cL_law 1013 = .ok (.iconst 2, 1) := by decide +kernel
theorem dL_law_1014 : decode cL_law 1014 = .ok (.iadd, 1) := by decide +kernel
theorem dL_law_1015 : decode cL_law 1015 = .ok (.iaload, 1) := by decide +kernel
theorem dL_law_1016 : decode cL_law 1016 = .ok (.aload_n 0, 1) := by decide +kernel
theorem dL_law_1017 : decode cL_law 1017 = .ok (.iload_n 3, 1) := by decide +kernel
theorem dL_law_1018 : decode cL_law 1018 = .ok (.iconst 3, 1) := by decide +kernel
theorem dL_law_1019 : decode cL_law 1019 = .ok (.iadd, 1) := by decide +kernel
theorem dL_law_1020 : decode cL_law 1020 = .ok (.iaload, 1) := by decide +kernel
theorem dL_law_1021 : decode cL_law 1021 = .ok (.invokevirtual 150, 3) := by decide +kernel
theorem dL_law_1024 : decode cL_law 1024 = .ok (.aload_n 2, 1) := by decide +kernel
theorem dL_law_1025 : decode cL_law 1025 = .ok (.aload_n 0, 1) := by decide +kernel
theorem dL_law_1026 : decode cL_law 1026 = .ok (.iload_n 3, 1) := by decide +kernel
theorem dL_law_1027 : decode cL_law 1027 = .ok (.iconst 1, 1) := by decide +kernel
theorem dL_law_1028 : decode cL_law 1028 = .ok (.iadd, 1) := by decide +kernel
theorem dL_law_1029 : decode cL_law 1029 = .ok (.iaload, 1) := by decide +kernel
theorem dL_law_1030 : decode cL_law 1030 = .ok (.aload_n 0, 1) := by decide +kernel
theorem dL_law_1031 : decode cL_law 1031 = .ok (.iload_n 3, 1) := by decide +kernel
theorem dL_law_1032 : decode cL_law 1032 = .ok (.iconst 2, 1) := by decide +kernel
theorem dL_law_1033 : decode cL_law 1033 = .ok (.iadd, 1) := by decide +kernel
theorem dL_law_1034 : decode cL_law 1034 = .ok (.iaload, 1) := by decide +kernel
theorem dL_law_1035 : decode cL_law 1035 = .ok (.aload_n 0, 1) := by decide +kernel
theorem dL_law_1036 : decode cL_law 1036 = .ok (.iload_n 3, 1) := by decide +kernel
theorem dL_law_1037 : decode cL_law 1037 = .ok (.iconst 3, 1) := by decide +kernel
theorem dL_law_1038 : decode cL_law 1038 = .ok (.iadd, 1) := by decide +kernel
theorem dL_law_1039 : decode cL_law 1039 = .ok (.iaload, 1) := by decide +kernel
theorem dL_law_1040 : decode cL_law 1040 = .ok (.invokevirtual 153, 3) := by decide +kernel
theorem dL_law_1043 : decode cL_law 1043 = .ok (.if_icmp .eq 179, 3) := by decide +kernel
theorem dL_law_1046 : decode cL_law 1046 = .ok (.iconst 0, 1) := by decide +kernel
theorem dL_law_1047 : decode cL_law 1047 = .ok (.ireturn, 1) := by decide +kernel
theorem dL_law_1048 : decode cL_law 1048 = .ok (.aload_n 1, 1) := by decide +kernel
theorem dL_law_1049 : decode cL_law 1049 = .ok (.invokevirtual 154, 3) := by decide +kernel
theorem dL_law_1052 : decode cL_law 1052 = .ok (.aload_n 2, 1) := by decide +kernel
theorem dL_law_1053 : decode cL_law 1053 = .ok (.invokevirtual 157, 3) := by decide +kernel
theorem dL_law_1056 : decode cL_law 1056 = .ok (.if_icmp .eq 166, 3) := by decide +kernel
theorem dL_law_1059 : decode cL_law 1059 = .ok (.iconst 0, 1) := by decide +kernel
theorem dL_law_1060 : decode cL_law 1060 = .ok (.ireturn, 1) := by decide +kernel
theorem dL_law_1061 : decode cL_law 1061 = .ok (.aload_n 1, 1) := by decide +kernel
theorem dL_law_1062 : decode cL_law 1062 = .ok (.aload_n 0, 1) := by decide +kernel
theorem dL_law_1063 : decode cL_law 1063 = .ok (.iload_n 3, 1) := by decide +kernel
theorem dL_law_1064 : decode cL_law 1064 = .ok (.iconst 1, 1) := by decide +kernel
theorem dL_law_1065 : decode cL_law 1065 = .ok (.iadd, 1) := by decide +kernel
theorem dL_law_1066 : decode cL_law 1066 = .ok (.iaload, 1) := by decide +kernel
theorem dL_law_1067 : decode cL_law 1067 = .ok (.invokevirtual 158, 3) := by decide +kernel
theorem dL_law_1070 : decode cL_law 1070 = .ok (.aload_n 2, 1) := by decide +kernel
theorem dL_law_1071 : decode cL_law 1071 = .ok (.aload_n 0, 1) := by decide +kernel
theorem dL_law_1072 : decode cL_law 1072 = .ok (.iload_n 3, 1) := by decide +kernel
theorem dL_law_1073 : decode cL_law 1073 = .ok (.iconst 1, 1) := by decide +kernel
theorem dL_law_1074 : decode cL_law 1074 = .ok (.iadd, 1) := by decide +kernel
theorem dL_law_1075 : decode cL_law 1075 = .ok (.iaload, 1) := by decide +kernel
theorem dL_law_1076 : decode cL_law 1076 = .ok (.invokevirtual 161, 3) := by decide +kernel
theorem dL_law_1079 : decode cL_law 1079 = .ok (.if_icmp .eq 143, 3) := by decide +kernel
theorem dL_law_1082 : decode cL_law 1082 = .ok (.iconst 0, 1) := by decide +kernel
theorem dL_law_1083 : decode cL_law 1083 = .ok (.ireturn, 1) := by decide +kernel
theorem dL_law_1084 : decode cL_law 1084 = .ok (.aload_n 1, 1) := by decide +kernel
theorem dL_law_1085 : decode cL_law 1085 = .ok (.aload_n 0, 1) := by decide +kernel
theorem dL_law_1086 : decode cL_law 1086 = .ok (.iload_n 3, 1) := by decide +kernel
theorem dL_law_1087 : decode cL_law 1087 = .ok (.iconst 1, 1) := by decide +kernel
theorem dL_law_1088 : decode cL_law 1088 = .ok (.iadd, 1) := by decide +kernel
theorem dL_law_1089 : decode cL_law 1089 = .ok (.iaload, 1) := by decide +kernel
theorem dL_law_1090 : decode cL_law 1090 = .ok (.aload_n 0, 1) := by decide +kernel
theorem dL_law_1091 : decode cL_law 1091 = .ok (.iload_n 3, 1) := by decide +kernel
theorem dL_law_1092 : decode cL_law 1092 = .ok (.iconst 2, 1) := by decide +kernel
theorem dL_law_1093 : decode cL_law 1093 = .ok (.iadd, 1) := by decide +kernel
theorem dL_law_1094 : decode cL_law 1094 = .ok (.iaload, 1) := by decide +kernel
theorem dL_law_1095 : decode cL_law 1095 = .ok (.invokevirtual 162, 3) := by decide +kernel
theorem dL_law_1098 : decode cL_law 1098 = .ok (.aload_n 2, 1) := by decide +kernel
theorem dL_law_1099 : decode cL_law 1099 = .ok (.aload_n 0, 1) := by decide +kernel
theorem dL_law_1100 : decode cL_law 1100 = .ok (.iload_n 3, 1) := by decide +kernel
theorem dL_law_1101 : decode cL_law 1101 = .ok (.iconst 1, 1) := by decide +kernel
theorem dL_law_1102 : decode cL_law 1102 = .ok (.iadd, 1) := by decide +kernel
theorem dL_law_1103 : decode cL_law 1103 = .ok (.iaload, 1) := by decide +kernel
theorem dL_law_1104 : decode cL_law 1104 = .ok (.aload_n 0, 1) := by decide +kernel
theorem dL_law_1105 : decode cL_law 1105 = .ok (.iload_n 3, 1) := by decide +kernel
theorem dL_law_1106 : decode cL_law 1106 = .ok (.iconst 2, 1) := by decide +kernel
theorem dL_law_1107 : decode cL_law 1107 = .ok (.iadd, 1) := by decide +kernel
theorem dL_law_1108 : decode cL_law 1108 = .ok (.iaload, 1) := by decide +kernel
theorem dL_law_1109 : decode cL_law 1109 = .ok (.invokevirtual 165, 3) := by decide +kernel
theorem dL_law_1112 : decode cL_law 1112 = .ok (.if_icmp .eq 110, 3) := by decide +kernel
theorem dL_law_1115 : decode cL_law 1115 = .ok (.iconst 0, 1) := by decide +kernel
theorem dL_law_1116 : decode cL_law 1116 = .ok (.ireturn, 1) := by decide +kernel
theorem dL_law_1117 : decode cL_law 1117 = .ok (.aload_n 1, 1) := by decide +kernel
theorem dL_law_1118 : decode cL_law 1118 = .ok (.aload_n 0, 1) := by decide +kernel
theorem dL_law_1119 : decode cL_law 1119 = .ok (.iload_n 3, 1) := by decide +kernel
theorem dL_law_1120 : decode cL_law 1120 = .ok (.iconst 1, 1) := by decide +kernel
theorem dL_law_1121 : decode cL_law 1121 = .ok (.iadd, 1) := by decide +kernel
theorem dL_law_1122 : decode cL_law 1122 = .ok (.iaload, 1) := by decide +kernel
theorem dL_law_1123 : decode cL_law 1123 = .ok (.invokevirtual 166, 3) := by decide +kernel
theorem dL_law_1126 : decode cL_law 1126 = .ok (.aload_n 2, 1) := by decide +kernel
theorem dL_law_1127 : decode cL_law 1127 = .ok (.aload_n 0, 1) := by decide +kernel
theorem dL_law_1128 : decode cL_law 1128 = .ok (.iload_n 3, 1) := by decide +kernel
theorem dL_law_1129 : decode cL_law 1129 = .ok (.iconst 1, 1) := by decide +kernel
theorem dL_law_1130 : decode cL_law 1130 = .ok (.iadd, 1) := by decide +kernel
theorem dL_law_1131 : decode cL_law 1131 = .ok (.iaload, 1) := by decide +kernel
theorem dL_law_1132 : decode cL_law 1132 = .ok (.invokevirtual 169, 3) := by decide +kernel
theorem dL_law_1135 : decode cL_law 1135 = .ok (.if_icmp .eq 87, 3) := by decide +kernel
theorem dL_law_1138 : decode cL_law 1138 = .ok (.iconst 0, 1) := by decide +kernel
theorem dL_law_1139 : decode cL_law 1139 = .ok (.ireturn, 1) := by decide +kernel
theorem dL_law_1140 : decode cL_law 1140 = .ok (.aload_n 1, 1) := by decide +kernel
theorem dL_law_1141 : decode cL_law 1141 = .ok (.aload_n 0, 1) := by decide +kernel
theorem dL_law_1142 : decode cL_law 1142 = .ok (.iload_n 3, 1) := by decide +kernel
theorem dL_law_1143 : decode cL_law 1143 = .ok (.iconst 1, 1) := by decide +kernel
theorem dL_law_1144 : decode cL_law 1144 = .ok (.iadd, 1) := by decide +kernel
theorem dL_law_1145 : decode cL_law 1145 = .ok (.iaload, 1) := by decide +kernel
theorem dL_law_1146 : decode cL_law 1146 = .ok (.invokevirtual 170, 3) := by decide +kernel
theorem dL_law_1149 : decode cL_law 1149 = .ok (.aload_n 2, 1) := by decide +kernel
theorem dL_law_1150 : decode cL_law 1150 = .ok (.aload_n 0, 1) := by decide +kernel
theorem dL_law_1151 : decode cL_law 1151 = .ok (.iload_n 3, 1) := by decide +kernel
theorem dL_law_1152 : decode cL_law 1152 = .ok (.iconst 1, 1) := by decide +kernel
theorem dL_law_1153 : decode cL_law 1153 = .ok (.iadd, 1) := by decide +kernel
theorem dL_law_1154 : decode cL_law 1154 = .ok (.iaload, 1) := by decide +kernel
theorem dL_law_1155 : decode cL_law 1155 = .ok (.invokevirtual 173, 3) := by decide +kernel
theorem dL_law_1158 : decode cL_law 1158 = .ok (.if_icmp .eq 64, 3) := by decide +kernel
theorem dL_law_1161 : decode cL_law 1161 = .ok (.iconst 0, 1) := by decide +kernel
theorem dL_law_1162 : decode cL_law 1162 = .ok (.ireturn, 1) := by decide +kernel
theorem dL_law_1163 : decode cL_law 1163 = .ok (.aload_n 1, 1) := by decide +kernel
theorem dL_law_1164 : decode cL_law 1164 = .ok (.aload_n 0, 1) := by decide +kernel
theorem dL_law_1165 : decode cL_law 1165 = .ok (.iload_n 3, 1) := by decide +kernel
theorem dL_law_1166 : decode cL_law 1166 = .ok (.iconst 1, 1) := by decide +kernel
theorem dL_law_1167 : decode cL_law 1167 = .ok (.iadd, 1) := by decide +kernel
theorem dL_law_1168 : decode cL_law 1168 = .ok (.iaload, 1) := by decide +kernel
theorem dL_law_1169 : decode cL_law 1169 = .ok (.invokevirtual 174, 3) := by decide +kernel
theorem dL_law_1172 : decode cL_law 1172 = .ok (.aload_n 2, 1) := by decide +kernel
theorem dL_law_1173 : decode cL_law 1173 = .ok (.aload_n 0, 1) := by decide +kernel
theorem dL_law_1174 : decode cL_law 1174 = .ok (.iload_n 3, 1) := by decide +kernel
theorem dL_law_1175 : decode cL_law 1175 = .ok (.iconst 1, 1) := by decide +kernel
theorem dL_law_1176 : decode cL_law 1176 = .ok (.iadd, 1) := by decide +kernel
theorem dL_law_1177 : decode cL_law 1177 = .ok (.iaload, 1) := by decide +kernel
theorem dL_law_1178 : decode cL_law 1178 = .ok (.invokevirtual 177, 3) := by decide +kernel
theorem dL_law_1181 : decode cL_law 1181 = .ok (.if_icmp .eq 41, 3) := by decide +kernel
theorem dL_law_1184 : decode cL_law 1184 = .ok (.iconst 0, 1) := by decide +kernel
theorem dL_law_1185 : decode cL_law 1185 = .ok (.ireturn, 1) := by decide +kernel
theorem dL_law_1186 : decode cL_law 1186 = .ok (.aload_n 1, 1) := by decide +kernel
theorem dL_law_1187 : decode cL_law 1187 = .ok (.aload_n 0, 1) := by decide +kernel
theorem dL_law_1188 : decode cL_law 1188 = .ok (.iload_n 3, 1) := by decide +kernel
theorem dL_law_1189 : decode cL_law 1189 = .ok (.iconst 1, 1) := by decide +kernel
theorem dL_law_1190 : decode cL_law 1190 = .ok (.iadd, 1) := by decide +kernel
theorem dL_law_1191 : decode cL_law 1191 = .ok (.iaload, 1) := by decide +kernel
theorem dL_law_1192 : decode cL_law 1192 = .ok (.invokevirtual 178, 3) := by decide +kernel
theorem dL_law_1195 : decode cL_law 1195 = .ok (.aload_n 2, 1) := by decide +kernel
theorem dL_law_1196 : decode cL_law 1196 = .ok (.aload_n 0, 1) := by decide +kernel
theorem dL_law_1197 : decode cL_law 1197 = .ok (.iload_n 3, 1) := by decide +kernel
theorem dL_law_1198 : decode cL_law 1198 = .ok (.iconst 1, 1) := by decide +kernel
theorem dL_law_1199 : decode cL_law 1199 = .ok (.iadd, 1) := by decide +kernel
theorem dL_law_1200 : decode cL_law 1200 = .ok (.iaload, 1) := by decide +kernel
theorem dL_law_1201 : decode cL_law 1201 = .ok (.invokevirtual 181, 3) := by decide +kernel
theorem dL_law_1204 : decode cL_law 1204 = .ok (.if_icmp .eq 18, 3) := by decide +kernel
theorem dL_law_1207 : decode cL_law 1207 = .ok (.iconst 0, 1) := by decide +kernel
theorem dL_law_1208 : decode cL_law 1208 = .ok (.ireturn, 1) := by decide +kernel
theorem dL_law_1209 : decode cL_law 1209 = .ok (.aload_n 1, 1) := by decide +kernel
theorem dL_law_1210 : decode cL_law 1210 = .ok (.invokevirtual 182, 3) := by decide +kernel
theorem dL_law_1213 : decode cL_law 1213 = .ok (.aload_n 2, 1) := by decide +kernel
theorem dL_law_1214 : decode cL_law 1214 = .ok (.invokevirtual 185, 3) := by decide +kernel
theorem dL_law_1217 : decode cL_law 1217 = .ok (.if_icmp .eq 5, 3) := by decide +kernel
theorem dL_law_1220 : decode cL_law 1220 = .ok (.iconst 0, 1) := by decide +kernel
theorem dL_law_1221 : decode cL_law 1221 = .ok (.ireturn, 1) := by decide +kernel
theorem dL_law_1222 : decode cL_law 1222 = .ok (.iinc 3 6, 3) := by decide +kernel
theorem dL_law_1225 : decode cL_law 1225 = .ok (.goto (-1207), 3) := by decide +kernel
theorem dL_law_1228 : decode cL_law 1228 = .ok (.iconst 1, 1) := by decide +kernel
theorem dL_law_1229 : decode cL_law 1229 = .ok (.ireturn, 1) := by decide +kernel
