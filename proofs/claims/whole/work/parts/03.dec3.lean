theorem dX11_edition_50 : decode cX11_edition 50 = .ok (.iconst 3, 1) := by decide +kernel
theorem dX11_edition_51 : decode cX11_edition 51 = .ok (.if_icmp .ge 7, 3) := by decide +kernel
theorem dX11_edition_54 : decode cX11_edition 54 = .ok (.iconst (-1), 1) := by decide +kernel
theorem dX11_edition_55 : decode cX11_edition 55 = .ok (.goto 13, 3) := by decide +kernel
theorem dX11_edition_58 : decode cX11_edition 58 = .ok (.aload_n 0, 1) := by decide +kernel
theorem dX11_edition_59 : decode cX11_edition 59 = .ok (.getfield 59, 3) := by decide +kernel
theorem dX11_edition_62 : decode cX11_edition 62 = .ok (.iload_n 1, 1) := by decide +kernel
theorem dX11_edition_63 : decode cX11_edition 63 = .ok (.iconst 3, 1) := by decide +kernel
theorem dX11_edition_64 : decode cX11_edition 64 = .ok (.isub, 1) := by decide +kernel
theorem dX11_edition_65 : decode cX11_edition 65 = .ok (.invokevirtual 360, 3) := by decide +kernel
theorem dX11_edition_68 : decode cX11_edition 68 = .ok (.ireturn, 1) := by decide +kernel
theorem dX11_readers_0 : decode cX11_readers 0 = .ok (.iload_n 1, 1) := by decide +kernel
theorem dX11_readers_1 : decode cX11_readers 1 = .ok (.iconst 0, 1) := by decide +kernel
theorem dX11_readers_2 : decode cX11_readers 2 = .ok (.ldc_w 363, 3) := by decide +kernel
theorem dX11_readers_5 : decode cX11_readers 5 = .ok (.invokestatic 104, 3) := by decide +kernel
theorem dX11_readers_8 : decode cX11_readers 8 = .ok (.ifCond .eq 13, 3) := by decide +kernel
theorem dX11_readers_11 : decode cX11_readers 11 = .ok (.iload_n 2, 1) := by decide +kernel
theorem dX11_readers_12 : decode cX11_readers 12 = .ok (.iconst 1, 1) := by decide +kernel
theorem dX11_readers_13 : decode cX11_readers 13 = .ok (.bipush 100, 2) := by decide +kernel
theorem dX11_readers_15 : decode cX11_readers 15 = .ok (.invokestatic 104, 3) := by decide +kernel
theorem dX11_readers_18 : decode cX11_readers 18 = .ok (.ifCond .ne 9, 3) := by decide +kernel
theorem dX11_readers_21 : decode cX11_readers 21 = .ok (.aload_n 0, 1) := by decide +kernel
theorem dX11_readers_22 : decode cX11_readers 22 = .ok (.iconst (-1), 1) := by decide +kernel
theorem dX11_readers_23 : decode cX11_readers 23 = .ok (.invokevirtual 108, 3) := by decide +kernel
theorem dX11_readers_26 : decode cX11_readers 26 = .ok (.ireturn, 1) := by decide +kernel
theorem dX11_readers_27 : decode cX11_readers 27 = .ok (.aload_n 0, 1) := by decide +kernel
theorem dX11_readers_28 : decode cX11_readers 28 = .ok (.aload_n 0, 1) := by decide +kernel
theorem dX11_readers_29 : decode cX11_readers 29 = .ok (.getfield 66, 3) := by decide +kernel
theorem dX11_readers_32 : decode cX11_readers 32 = .ok (.aload_n 0, 1) := by decide +kernel
theorem dX11_readers_33 : decode cX11_readers 33 = .ok (.getfield 12, 3) := by decide +kernel
theorem dX11_readers_36 : decode cX11_readers 36 = .ok (.iload_n 1, 1) := by decide +kernel
theorem dX11_readers_37 : decode cX11_readers 37 = .ok (.iload_n 2, 1) := by decide +kernel
theorem dX11_readers_38 : decode cX11_readers 38 = .ok (.invokevirtual 364, 3) := by decide +kernel
theorem dX11_readers_41 : decode cX11_readers 41 = .ok (.invokevirtual 118, 3) := by decide +kernel
theorem dX11_readers_44 : decode cX11_readers 44 = .ok (.ireturn, 1) := by decide +kernel
theorem dX11_drawn_0 : decode cX11_drawn 0 = .ok (.iload_n 1, 1) := by decide +kernel
theorem dX11_drawn_1 : decode cX11_drawn 1 = .ok (.iconst 0, 1) := by decide +kernel
theorem dX11_drawn_2 : decode cX11_drawn 2 = .ok (.aload_n 0, 1) := by decide +kernel
theorem dX11_drawn_3 : decode cX11_drawn 3 = .ok (.getfield 66, 3) := by decide +kernel
theorem dX11_drawn_6 : decode cX11_drawn 6 = .ok (.getfield 368, 3) := by decide +kernel
theorem dX11_drawn_9 : decode cX11_drawn 9 = .ok (.iconst 1, 1) := by decide +kernel
theorem dX11_drawn_10 : decode cX11_drawn 10 = .ok (.isub, 1) := by decide +kernel
theorem dX11_drawn_11 : decode cX11_drawn 11 = .ok (.invokestatic 104, 3) := by decide +kernel
theorem dX11_drawn_14 : decode cX11_drawn 14 = .ok (.ifCond .eq 15, 3) := by decide +kernel
theorem dX11_drawn_17 : decode cX11_drawn 17 = .ok (.aload_n 0, 1) := by decide +kernel
theorem dX11_drawn_18 : decode cX11_drawn 18 = .ok (.getfield 66, 3) := by decide +kernel
theorem dX11_drawn_21 : decode cX11_drawn 21 = .ok (.getfield 369, 3) := by decide +kernel
theorem dX11_drawn_24 : decode cX11_drawn 24 = .ok (.iload_n 1, 1) := by decide +kernel
theorem dX11_drawn_25 : decode cX11_drawn 25 = .ok (.iaload, 1) := by decide +kernel
theorem dX11_drawn_26 : decode cX11_drawn 26 = .ok (.goto 4, 3) := by decide +kernel
theorem dX11_drawn_29 : decode cX11_drawn 29 = .ok (.iconst (-1), 1) := by decide +kernel
theorem dX11_drawn_30 : decode cX11_drawn 30 = .ok (.ireturn, 1) := by decide +kernel
theorem dX11_image_0 : decode cX11_image 0 = .ok (.iload_n 1, 1) := by decide +kernel
theorem dX11_image_1 : decode cX11_image 1 = .ok (.iconst 0, 1) := by decide +kernel
theorem dX11_image_2 : decode cX11_image 2 = .ok (.iconst 1, 1) := by decide +kernel
theorem dX11_image_3 : decode cX11_image 3 = .ok (.invokestatic 104, 3) := by decide +kernel
theorem dX11_image_6 : decode cX11_image 6 = .ok (.ifCond .ne 9, 3) := by decide +kernel
theorem dX11_image_9 : decode cX11_image 9 = .ok (.aload_n 0, 1) := by decide +kernel
theorem dX11_image_10 : decode cX11_image 10 = .ok (.iconst (-1), 1) := by decide +kernel
theorem dX11_image_11 : decode cX11_image 11 = .ok (.invokevirtual 108, 3) := by decide +kernel
theorem dX11_image_14 : decode cX11_image 14 = .ok (.ireturn, 1) := by decide +kernel
theorem dX11_image_15 : decode cX11_image 15 = .ok (.aload_n 0, 1) := by decide +kernel
theorem dX11_image_16 : decode cX11_image 16 = .ok (.getfield 16, 3) := by decide +kernel
theorem dX11_image_19 : decode cX11_image 19 = .ok (.iload_n 1, 1) := by decide +kernel
theorem dX11_image_20 : decode cX11_image 20 = .ok (.aaload, 1) := by decide +kernel
theorem dX11_image_21 : decode cX11_image 21 = .ok (.ifnonnull 16, 3) := by decide +kernel
theorem dX11_image_24 : decode cX11_image 24 = .ok (.aload_n 0, 1) := by decide +kernel
theorem dX11_image_25 : decode cX11_image 25 = .ok (.getfield 16, 3) := by decide +kernel
theorem dX11_image_28 : decode cX11_image 28 = .ok (.iload_n 1, 1) := by decide +kernel
theorem dX11_image_29 : decode cX11_image 29 = .ok (.new 9, 3) := by decide +kernel
theorem dX11_image_32 : decode cX11_image 32 = .ok (.dup, 1) := by decide +kernel
theorem dX11_image_33 : decode cX11_image 33 = .ok (.invokespecial 11, 3) := by decide +kernel
theorem dX11_image_36 : decode cX11_image 36 = .ok (.aastore, 1) := by decide +kernel
theorem dX11_image_37 : decode cX11_image 37 = .ok (.aload_n 0, 1) := by decide +kernel
theorem dX11_image_38 : decode cX11_image 38 = .ok (.getfield 16, 3) := by decide +kernel
theorem dX11_image_41 : decode cX11_image 41 = .ok (.iload_n 1, 1) := by decide +kernel
theorem dX11_image_42 : decode cX11_image 42 = .ok (.aaload, 1) := by decide +kernel
theorem dX11_image_43 : decode cX11_image 43 = .ok (.aload_n 0, 1) := by decide +kernel
theorem dX11_image_44 : decode cX11_image 44 = .ok (.getfield 12, 3) := by decide +kernel
theorem dX11_image_47 : decode cX11_image 47 = .ok (.invokevirtual 372, 3) := by decide +kernel
theorem dX11_image_50 : decode cX11_image 50 = .ok (.aload_n 0, 1) := by decide +kernel
theorem dX11_image_51 : decode cX11_image 51 = .ok (.iconst 0, 1) := by decide +kernel
theorem dX11_image_52 : decode cX11_image 52 = .ok (.invokevirtual 118, 3) := by decide +kernel
theorem dX11_image_55 : decode cX11_image 55 = .ok (.ireturn, 1) := by decide +kernel
theorem dX11_back_0 : decode cX11_back 0 = .ok (.iload_n 1, 1) := by decide +kernel
theorem dX11_back_1 : decode cX11_back 1 = .ok (.iconst 0, 1) := by decide +kernel
theorem dX11_back_2 : decode cX11_back 2 = .ok (.iconst 1, 1) := by decide +kernel
theorem dX11_back_3 : decode cX11_back 3 = .ok (.invokestatic 104, 3) := by decide +kernel
theorem dX11_back_6 : decode cX11_back 6 = .ok (.ifCond .ne 9, 3) := by decide +kernel
theorem dX11_back_9 : decode cX11_back 9 = .ok (.aload_n 0, 1) := by decide +kernel
theorem dX11_back_10 : decode cX11_back 10 = .ok (.iconst (-1), 1) := by decide +kernel
theorem dX11_back_11 : decode cX11_back 11 = .ok (.invokevirtual 108, 3) := by decide +kernel
theorem dX11_back_14 : decode cX11_back 14 = .ok (.ireturn, 1) := by decide +kernel
theorem dX11_back_15 : decode cX11_back 15 = .ok (.aload_n 0, 1) := by decide +kernel
theorem dX11_back_16 : decode cX11_back 16 = .ok (.getfield 16, 3) := by decide +kernel
theorem dX11_back_19 : decode cX11_back 19 = .ok (.iload_n 1, 1) := by decide +kernel
theorem dX11_back_20 : decode cX11_back 20 = .ok (.aaload, 1) := by decide +kernel
theorem dX11_back_21 : decode cX11_back 21 = .ok (.ifnonnull 10, 3) := by decide +kernel
theorem dX11_back_24 : decode cX11_back 24 = .ok (.aload_n 0, 1) := by decide +kernel
theorem dX11_back_25 : decode cX11_back 25 = .ok (.bipush (-2), 2) := by decide +kernel
theorem dX11_back_27 : decode cX11_back 27 = .ok (.invokevirtual 108, 3) := by decide +kernel
theorem dX11_back_30 : decode cX11_back 30 = .ok (.ireturn, 1) := by decide +kernel
theorem dX11_back_31 : decode cX11_back 31 = .ok (.aload_n 0, 1) := by decide +kernel
theorem dX11_back_32 : decode cX11_back 32 = .ok (.getfield 12, 3) := by decide +kernel
theorem dX11_back_35 : decode cX11_back 35 = .ok (.aload_n 0, 1) := by decide +kernel
theorem dX11_back_36 : decode cX11_back 36 = .ok (.getfield 16, 3) := by decide +kernel
theorem dX11_back_39 : decode cX11_back 39 = .ok (.iload_n 1, 1) := by decide +kernel
theorem dX11_back_40 : decode cX11_back 40 = .ok (.aaload, 1) := by decide +kernel
theorem dX11_back_41 : decode cX11_back 41 = .ok (.invokevirtual 372, 3) := by decide +kernel
theorem dX11_back_44 : decode cX11_back 44 = .ok (.aload_n 0, 1) := by decide +kernel
theorem dX11_back_45 : decode cX11_back 45 = .ok (.getfield 73, 3) := by decide +kernel
theorem dX11_back_48 : decode cX11_back 48 = .ok (.invokevirtual 115, 3) := by decide +kernel
theorem dX11_back_51 : decode cX11_back 51 = .ok (.aload_n 0, 1) := by decide +kernel
theorem dX11_back_52 : decode cX11_back 52 = .ok (.iconst 0, 1) := by decide +kernel
theorem dX11_back_53 : decode cX11_back 53 = .ok (.invokevirtual 118, 3) := by decide +kernel
theorem dX11_back_56 : decode cX11_back 56 = .ok (.ireturn, 1) := by decide +kernel
theorem dX11_count_0 : decode cX11_count 0 = .ok (.iload_n 1, 1) := by decide +kernel
theorem dX11_count_1 : decode cX11_count 1 = .ok (.bipush 8, 2) := by decide +kernel
theorem dX11_count_3 : decode cX11_count 3 = .ok (.bipush 12, 2) := by decide +kernel
theorem dX11_count_5 : decode cX11_count 5 = .ok (.invokestatic 104, 3) := by decide +kernel
theorem dX11_count_8 : decode cX11_count 8 = .ok (.ifCond .eq 13, 3) := by decide +kernel
theorem dX11_count_11 : decode cX11_count 11 = .ok (.aload_n 0, 1) := by decide +kernel
theorem dX11_count_12 : decode cX11_count 12 = .ok (.getfield 87, 3) := by decide +kernel
theorem dX11_count_15 : decode cX11_count 15 = .ok (.iload_n 1, 1) := by decide +kernel
theorem dX11_count_16 : decode cX11_count 16 = .ok (.bipush 8, 2) := by decide +kernel
theorem dX11_count_18 : decode cX11_count 18 = .ok (.isub, 1) := by decide +kernel
theorem dX11_count_19 : decode cX11_count 19 = .ok (.iaload, 1) := by decide +kernel
theorem dX11_count_20 : decode cX11_count 20 = .ok (.ireturn, 1) := by decide +kernel
theorem dX11_count_21 : decode cX11_count 21 = .ok (.iload_n 1, 1) := by decide +kernel
theorem dX11_count_22 : decode cX11_count 22 = .ok (.tableswitch 209 0 18 #[90, 101, 109, 120, 128, 136, 144, 152, 209, 209, 209, 209, 209, 157, 165, 175, 185, 193, 201], 90) := by decide +kernel
theorem dX11_count_112 : decode cX11_count 112 = .ok (.aload_n 0, 1) := by decide +kernel
theorem dX11_count_113 : decode cX11_count 113 = .ok (.getfield 12, 3) := by decide +kernel
theorem dX11_count_116 : decode cX11_count 116 = .ok (.getfield 149, 3) := by decide +kernel
theorem dX11_count_119 : decode cX11_count 119 = .ok (.getfield 158, 3) := by decide +kernel
theorem dX11_count_122 : decode cX11_count 122 = .ok (.ireturn, 1) := by decide +kernel
theorem dX11_count_123 : decode cX11_count 123 = .ok (.aload_n 0, 1) := by decide +kernel
theorem dX11_count_124 : decode cX11_count 124 = .ok (.getfield 12, 3) := by decide +kernel
theorem dX11_count_127 : decode cX11_count 127 = .ok (.getfield 231, 3) := by decide +kernel
theorem dX11_count_130 : decode cX11_count 130 = .ok (.ireturn, 1) := by decide +kernel
theorem dX11_count_131 : decode cX11_count 131 = .ok (.aload_n 0, 1) := by decide +kernel
theorem dX11_count_132 : decode cX11_count 132 = .ok (.getfield 12, 3) := by decide +kernel
theorem dX11_count_135 : decode cX11_count 135 = .ok (.getfield 121, 3) := by decide +kernel
theorem dX11_count_138 : decode cX11_count 138 = .ok (.getfield 124, 3) := by decide +kernel
theorem dX11_count_141 : decode cX11_count 141 = .ok (.ireturn, 1) := by decide +kernel
theorem dX11_count_142 : decode cX11_count 142 = .ok (.aload_n 0, 1) := by decide +kernel
theorem dX11_count_143 : decode cX11_count 143 = .ok (.getfield 12, 3) := by decide +kernel
theorem dX11_count_146 : decode cX11_count 146 = .ok (.getfield 324, 3) := by decide +kernel
theorem dX11_count_149 : decode cX11_count 149 = .ok (.ireturn, 1) := by decide +kernel
theorem dX11_count_150 : decode cX11_count 150 = .ok (.aload_n 0, 1) := by decide +kernel
theorem dX11_count_151 : decode cX11_count 151 = .ok (.getfield 12, 3) := by decide +kernel
theorem dX11_count_154 : decode cX11_count 154 = .ok (.getfield 336, 3) := by decide +kernel
theorem dX11_count_157 : decode cX11_count 157 = .ok (.ireturn, 1) := by decide +kernel
theorem dX11_count_158 : decode cX11_count 158 = .ok (.aload_n 0, 1) := by decide +kernel
theorem dX11_count_159 : decode cX11_count 159 = .ok (.getfield 12, 3) := by decide +kernel
theorem dX11_count_162 : decode cX11_count 162 = .ok (.getfield 200, 3) := by decide +kernel
theorem dX11_count_165 : decode cX11_count 165 = .ok (.ireturn, 1) := by decide +kernel
theorem dX11_count_166 : decode cX11_count 166 = .ok (.aload_n 0, 1) := by decide +kernel
theorem dX11_count_167 : decode cX11_count 167 = .ok (.getfield 73, 3) := by decide +kernel
theorem dX11_count_170 : decode cX11_count 170 = .ok (.getfield 269, 3) := by decide +kernel
theorem dX11_count_173 : decode cX11_count 173 = .ok (.ireturn, 1) := by decide +kernel
theorem dX11_count_174 : decode cX11_count 174 = .ok (.aload_n 0, 1) := by decide +kernel
theorem dX11_count_175 : decode cX11_count 175 = .ok (.getfield 91, 3) := by decide +kernel
theorem dX11_count_178 : decode cX11_count 178 = .ok (.ireturn, 1) := by decide +kernel
theorem dX11_count_179 : decode cX11_count 179 = .ok (.aload_n 0, 1) := by decide +kernel
theorem dX11_count_180 : decode cX11_count 180 = .ok (.getfield 12, 3) := by decide +kernel
theorem dX11_count_183 : decode cX11_count 183 = .ok (.getfield 228, 3) := by decide +kernel
theorem dX11_count_186 : decode cX11_count 186 = .ok (.ireturn, 1) := by decide +kernel
theorem dX11_count_187 : decode cX11_count 187 = .ok (.aload_n 0, 1) := by decide +kernel
theorem dX11_count_188 : decode cX11_count 188 = .ok (.getfield 12, 3) := by decide +kernel
theorem dX11_count_191 : decode cX11_count 191 = .ok (.getfield 142, 3) := by decide +kernel
theorem dX11_count_194 : decode cX11_count 194 = .ok (.iconst 0, 1) := by decide +kernel
theorem dX11_count_195 : decode cX11_count 195 = .ok (.iaload, 1) := by decide +kernel
theorem dX11_count_196 : decode cX11_count 196 = .ok (.ireturn, 1) := by decide +kernel
theorem dX11_count_197 : decode cX11_count 197 = .ok (.aload_n 0, 1) := by decide +kernel
theorem dX11_count_198 : decode cX11_count 198 = .ok (.getfield 12, 3) := by decide +kernel
theorem dX11_count_201 : decode cX11_count 201 = .ok (.getfield 142, 3) := by decide +kernel
theorem dX11_count_204 : decode cX11_count 204 = .ok (.iconst 1, 1) := by decide +kernel
theorem dX11_count_205 : decode cX11_count 205 = .ok (.iaload, 1) := by decide +kernel
theorem dX11_count_206 : decode cX11_count 206 = .ok (.ireturn, 1) := by decide +kernel
theorem dX11_count_207 : decode cX11_count 207 = .ok (.aload_n 0, 1) := by decide +kernel
theorem dX11_count_208 : decode cX11_count 208 = .ok (.getfield 12, 3) := by decide +kernel
theorem dX11_count_211 : decode cX11_count 211 = .ok (.getfield 127, 3) := by decide +kernel
theorem dX11_count_214 : decode cX11_count 214 = .ok (.ireturn, 1) := by decide +kernel
theorem dX11_count_215 : decode cX11_count 215 = .ok (.aload_n 0, 1) := by decide +kernel
theorem dX11_count_216 : decode cX11_count 216 = .ok (.getfield 12, 3) := by decide +kernel
theorem dX11_count_219 : decode cX11_count 219 = .ok (.getfield 130, 3) := by decide +kernel
theorem dX11_count_222 : decode cX11_count 222 = .ok (.ireturn, 1) := by decide +kernel
theorem dX11_count_223 : decode cX11_count 223 = .ok (.aload_n 0, 1) := by decide +kernel
theorem dX11_count_224 : decode cX11_count 224 = .ok (.getfield 12, 3) := by decide +kernel
theorem dX11_count_227 : decode cX11_count 227 = .ok (.getfield 183, 3) := by decide +kernel
theorem dX11_count_230 : decode cX11_count 230 = .ok (.ireturn, 1) := by decide +kernel
theorem dX11_count_231 : decode cX11_count 231 = .ok (.iconst (-1), 1) := by decide +kernel
theorem dX11_count_232 : decode cX11_count 232 = .ok (.ireturn, 1) := by decide +kernel
theorem dX11_status_0 : decode cX11_status 0 = .ok (.aload_n 0, 1) := by decide +kernel
theorem dX11_status_1 : decode cX11_status 1 = .ok (.getfield 98, 3) := by decide +kernel
theorem dX11_status_4 : decode cX11_status 4 = .ok (.ireturn, 1) := by decide +kernel
theorem dX11_within_0 : decode cX11_within 0 = .ok (.iload_n 0, 1) := by decide +kernel
theorem dX11_within_1 : decode cX11_within 1 = .ok (.iload_n 1, 1) := by decide +kernel
theorem dX11_within_2 : decode cX11_within 2 = .ok (.if_icmp .lt 12, 3) := by decide +kernel
theorem dX11_within_5 : decode cX11_within 5 = .ok (.iload_n 0, 1) := by decide +kernel
theorem dX11_within_6 : decode cX11_within 6 = .ok (.iload_n 2, 1) := by decide +kernel
theorem dX11_within_7 : decode cX11_within 7 = .ok (.if_icmp .gt 7, 3) := by decide +kernel
theorem dX11_within_10 : decode cX11_within 10 = .ok (.iconst 1, 1) := by decide +kernel
theorem dX11_within_11 : decode cX11_within 11 = .ok (.goto 4, 3) := by decide +kernel
theorem dX11_within_14 : decode cX11_within 14 = .ok (.iconst 0, 1) := by decide +kernel
theorem dX11_within_15 : decode cX11_within 15 = .ok (.ireturn, 1) := by decide +kernel
theorem dX11_granted_0 : decode cX11_granted 0 = .ok (.aload_n 0, 1) := by decide +kernel
theorem dX11_granted_1 : decode cX11_granted 1 = .ok (.iconst 0, 1) := by decide +kernel
theorem dX11_granted_2 : decode cX11_granted 2 = .ok (.putfield 98, 3) := by decide +kernel
theorem dX11_granted_5 : decode cX11_granted 5 = .ok (.aload_n 0, 1) := by decide +kernel
theorem dX11_granted_6 : decode cX11_granted 6 = .ok (.dup, 1) := by decide +kernel
theorem dX11_granted_7 : decode cX11_granted 7 = .ok (.getfield 101, 3) := by decide +kernel
theorem dX11_granted_10 : decode cX11_granted 10 = .ok (.iconst 1, 1) := by decide +kernel
theorem dX11_granted_11 : decode cX11_granted 11 = .ok (.iadd, 1) := by decide +kernel
theorem dX11_granted_12 : decode cX11_granted 12 = .ok (.putfield 101, 3) := by decide +kernel
theorem dX11_granted_15 : decode cX11_granted 15 = .ok (.iload_n 1, 1) := by decide +kernel
theorem dX11_granted_16 : decode cX11_granted 16 = .ok (.ireturn, 1) := by decide +kernel
theorem dX11_refuse_0 : decode cX11_refuse 0 = .ok (.aload_n 0, 1) := by decide +kernel
theorem dX11_refuse_1 : decode cX11_refuse 1 = .ok (.iload_n 1, 1) := by decide +kernel
theorem dX11_refuse_2 : decode cX11_refuse 2 = .ok (.putfield 98, 3) := by decide +kernel
theorem dX11_refuse_5 : decode cX11_refuse 5 = .ok (.aload_n 0, 1) := by decide +kernel
theorem dX11_refuse_6 : decode cX11_refuse 6 = .ok (.getfield 87, 3) := by decide +kernel
theorem dX11_refuse_9 : decode cX11_refuse 9 = .ok (.iload_n 1, 1) := by decide +kernel
theorem dX11_refuse_10 : decode cX11_refuse 10 = .ok (.invokestatic 375, 3) := by decide +kernel
theorem dX11_refuse_13 : decode cX11_refuse 13 = .ok (.dup2, 1) := by decide +kernel
theorem dX11_refuse_14 : decode cX11_refuse 14 = .ok (.iaload, 1) := by decide +kernel
theorem dX11_refuse_15 : decode cX11_refuse 15 = .ok (.iconst 1, 1) := by decide +kernel
theorem dX11_refuse_16 : decode cX11_refuse 16 = .ok (.iadd, 1) := by decide +kernel
theorem dX11_refuse_17 : decode cX11_refuse 17 = .ok (.iastore, 1) := by decide +kernel
theorem dX11_refuse_18 : decode cX11_refuse 18 = .ok (.iload_n 1, 1) := by decide +kernel
theorem dX11_refuse_19 : decode cX11_refuse 19 = .ok (.ireturn, 1) := by decide +kernel
theorem dX11_refusalPlace_0 : decode cX11_refusalPlace 0 = .ok (.iload_n 0, 1) := by decide +kernel
theorem dX11_refusalPlace_1 : decode cX11_refusalPlace 1 = .ok (.tableswitch 43 (-6) (-2) #[41, 39, 43, 37, 35], 35) := by decide +kernel
theorem dX11_refusalPlace_36 : decode cX11_refusalPlace 36 = .ok (.iconst 1, 1) := by decide +kernel
theorem dX11_refusalPlace_37 : decode cX11_refusalPlace 37 = .ok (.ireturn, 1) := by decide +kernel
theorem dX11_refusalPlace_38 : decode cX11_refusalPlace 38 = .ok (.iconst 2, 1) := by decide +kernel
theorem dX11_refusalPlace_39 : decode cX11_refusalPlace 39 = .ok (.ireturn, 1) := by decide +kernel
theorem dX11_refusalPlace_40 : decode cX11_refusalPlace 40 = .ok (.iconst 3, 1) := by decide +kernel
theorem dX11_refusalPlace_41 : decode cX11_refusalPlace 41 = .ok (.ireturn, 1) := by decide +kernel
theorem dX11_refusalPlace_42 : decode cX11_refusalPlace 42 = .ok (.iconst 4, 1) := by decide +kernel
theorem dX11_refusalPlace_43 : decode cX11_refusalPlace 43 = .ok (.ireturn, 1) := by decide +kernel
theorem dX11_refusalPlace_44 : decode cX11_refusalPlace 44 = .ok (.iconst 0, 1) := by decide +kernel
theorem dX11_refusalPlace_45 : decode cX11_refusalPlace 45 = .ok (.ireturn, 1) := by decide +kernel
theorem dX11_answered_0 : decode cX11_answered 0 = .ok (.iload_n 1, 1) := by decide +kernel
theorem dX11_answered_1 : decode cX11_answered 1 = .ok (.ifCond .ge 11, 3) := by decide +kernel
theorem dX11_answered_4 : decode cX11_answered 4 = .ok (.aload_n 0, 1) := by decide +kernel
theorem dX11_answered_5 : decode cX11_answered 5 = .ok (.iload_n 1, 1) := by decide +kernel
theorem dX11_answered_6 : decode cX11_answered 6 = .ok (.invokevirtual 108, 3) := by decide +kernel
theorem dX11_answered_9 : decode cX11_answered 9 = .ok (.goto 8, 3) := by decide +kernel
theorem dX11_answered_12 : decode cX11_answered 12 = .ok (.aload_n 0, 1) := by decide +kernel
theorem dX11_answered_13 : decode cX11_answered 13 = .ok (.iload_n 1, 1) := by decide +kernel
theorem dX11_answered_14 : decode cX11_answered 14 = .ok (.invokevirtual 118, 3) := by decide +kernel
theorem dX11_answered_17 : decode cX11_answered 17 = .ok (.ireturn, 1) := by decide +kernel
theorem dX11_addBytes_0 : decode cX11_addBytes 0 = .ok (.bipush 24, 2) := by decide +kernel
theorem dX11_addBytes_2 : decode cX11_addBytes 2 = .ok (.istore_n 2, 1) := by decide +kernel
theorem dX11_addBytes_3 : decode cX11_addBytes 3 = .ok (.iload_n 2, 1) := by decide +kernel
theorem dX11_addBytes_4 : decode cX11_addBytes 4 = .ok (.ifCond .lt 32, 3) := by decide +kernel
theorem dX11_addBytes_7 : decode cX11_addBytes 7 = .ok (.aload_n 0, 1) := by decide +kernel
theorem dX11_addBytes_8 : decode cX11_addBytes 8 = .ok (.getfield 20, 3) := by decide +kernel
theorem dX11_addBytes_11 : decode cX11_addBytes 11 = .ok (.aload_n 0, 1) := by decide +kernel
theorem dX11_addBytes_12 : decode cX11_addBytes 12 = .ok (.getfield 91, 3) := by decide +kernel
theorem dX11_addBytes_15 : decode cX11_addBytes 15 = .ok (.iload_n 1, 1) := by decide +kernel
theorem dX11_addBytes_16 : decode cX11_addBytes 16 = .ok (.iload_n 2, 1) := by decide +kernel
theorem dX11_addBytes_17 : decode cX11_addBytes 17 = .ok (.iushr, 1) := by decide +kernel
theorem dX11_addBytes_18 : decode cX11_addBytes 18 = .ok (.i2b, 1) := by decide +kernel
theorem dX11_addBytes_19 : decode cX11_addBytes 19 = .ok (.bastore, 1) := by decide +kernel
theorem dX11_addBytes_20 : decode cX11_addBytes 20 = .ok (.aload_n 0, 1) := by decide +kernel
theorem dX11_addBytes_21 : decode cX11_addBytes 21 = .ok (.dup, 1) := by decide +kernel
theorem dX11_addBytes_22 : decode cX11_addBytes 22 = .ok (.getfield 91, 3) := by decide +kernel
theorem dX11_addBytes_25 : decode cX11_addBytes 25 = .ok (.iconst 1, 1) := by decide +kernel
theorem dX11_addBytes_26 : decode cX11_addBytes 26 = .ok (.iadd, 1) := by decide +kernel
theorem dX11_addBytes_27 : decode cX11_addBytes 27 = .ok (.putfield 91, 3) := by decide +kernel
theorem dX11_addBytes_30 : decode cX11_addBytes 30 = .ok (.iinc 2 (-8), 3) := by decide +kernel
theorem dX11_addBytes_33 : decode cX11_addBytes 33 = .ok (.goto (-30), 3) := by decide +kernel
theorem dX11_addBytes_36 : decode cX11_addBytes 36 = .ok (.return_, 1) := by decide +kernel
theorem dX11_changeSize_0 : decode cX11_changeSize 0 = .ok (.iload_n 1, 1) := by decide +kernel
theorem dX11_changeSize_1 : decode cX11_changeSize 1 = .ok (.iconst 0, 1) := by decide +kernel
theorem dX11_changeSize_2 : decode cX11_changeSize 2 = .ok (.iconst 2, 1) := by decide +kernel
theorem dX11_changeSize_3 : decode cX11_changeSize 3 = .ok (.invokestatic 104, 3) := by decide +kernel
theorem dX11_changeSize_6 : decode cX11_changeSize 6 = .ok (.ifCond .ne 5, 3) := by decide +kernel
theorem dX11_changeSize_9 : decode cX11_changeSize 9 = .ok (.iconst (-1), 1) := by decide +kernel
theorem dX11_changeSize_10 : decode cX11_changeSize 10 = .ok (.ireturn, 1) := by decide +kernel
theorem dX11_changeSize_11 : decode cX11_changeSize 11 = .ok (.aload_n 0, 1) := by decide +kernel
theorem dX11_changeSize_12 : decode cX11_changeSize 12 = .ok (.getfield 12, 3) := by decide +kernel
theorem dX11_changeSize_15 : decode cX11_changeSize 15 = .ok (.getfield 121, 3) := by decide +kernel
theorem dX11_changeSize_18 : decode cX11_changeSize 18 = .ok (.getfield 124, 3) := by decide +kernel
theorem dX11_changeSize_21 : decode cX11_changeSize 21 = .ok (.ifCond .le 6, 3) := by decide +kernel
theorem dX11_changeSize_24 : decode cX11_changeSize 24 = .ok (.bipush (-3), 2) := by decide +kernel
theorem dX11_changeSize_26 : decode cX11_changeSize 26 = .ok (.ireturn, 1) := by decide +kernel
theorem dX11_changeSize_27 : decode cX11_changeSize 27 = .ok (.aload_n 0, 1) := by decide +kernel
theorem dX11_changeSize_28 : decode cX11_changeSize 28 = .ok (.getfield 12, 3) := by decide +kernel
theorem dX11_changeSize_31 : decode cX11_changeSize 31 = .ok (.getfield 183, 3) := by decide +kernel
theorem dX11_changeSize_34 : decode cX11_changeSize 34 = .ok (.istore_n 2, 1) := by decide +kernel
theorem dX11_changeSize_35 : decode cX11_changeSize 35 = .ok (.aload_n 0, 1) := by decide +kernel
theorem dX11_changeSize_36 : decode cX11_changeSize 36 = .ok (.getfield 12, 3) := by decide +kernel
theorem dX11_changeSize_39 : decode cX11_changeSize 39 = .ok (.iload_n 1, 1) := by decide +kernel
theorem dX11_changeSize_40 : decode cX11_changeSize 40 = .ok (.putfield 183, 3) := by decide +kernel
theorem dX11_changeSize_43 : decode cX11_changeSize 43 = .ok (.aload_n 0, 1) := by decide +kernel
theorem dX11_changeSize_44 : decode cX11_changeSize 44 = .ok (.getfield 73, 3) := by decide +kernel
theorem dX11_changeSize_47 : decode cX11_changeSize 47 = .ok (.invokevirtual 115, 3) := by decide +kernel
theorem dX11_changeSize_50 : decode cX11_changeSize 50 = .ok (.iload_n 2, 1) := by decide +kernel
theorem dX11_changeSize_51 : decode cX11_changeSize 51 = .ok (.ireturn, 1) := by decide +kernel
theorem dX11_placeWord_0 : decode cX11_placeWord 0 = .ok (.aload_n 0, 1) := by decide +kernel
theorem dX11_placeWord_1 : decode cX11_placeWord 1 = .ok (.getfield 12, 3) := by decide +kernel
theorem dX11_placeWord_4 : decode cX11_placeWord 4 = .ok (.getfield 121, 3) := by decide +kernel
theorem dX11_placeWord_7 : decode cX11_placeWord 7 = .ok (.astore_n 2, 1) := by decide +kernel
theorem dX11_placeWord_8 : decode cX11_placeWord 8 = .ok (.aload_n 0, 1) := by decide +kernel
theorem dX11_placeWord_9 : decode cX11_placeWord 9 = .ok (.getfield 12, 3) := by decide +kernel
theorem dX11_placeWord_12 : decode cX11_placeWord 12 = .ok (.getfield 149, 3) := by decide +kernel
theorem dX11_placeWord_15 : decode cX11_placeWord 15 = .ok (.iload_n 1, 1) := by decide +kernel
theorem dX11_placeWord_16 : decode cX11_placeWord 16 = .ok (.invokevirtual 167, 3) := by decide +kernel
theorem dX11_placeWord_19 : decode cX11_placeWord 19 = .ok (.ifCond .ne 6, 3) := by decide +kernel
theorem dX11_placeWord_22 : decode cX11_placeWord 22 = .ok (.bipush (-2), 2) := by decide +kernel
theorem dX11_placeWord_24 : decode cX11_placeWord 24 = .ok (.ireturn, 1) := by decide +kernel
theorem dX11_placeWord_25 : decode cX11_placeWord 25 = .ok (.aload_n 0, 1) := by decide +kernel
theorem dX11_placeWord_26 : decode cX11_placeWord 26 = .ok (.getfield 12, 3) := by decide +kernel
theorem dX11_placeWord_29 : decode cX11_placeWord 29 = .ok (.aload_n 2, 1) := by decide +kernel
theorem dX11_placeWord_30 : decode cX11_placeWord 30 = .ok (.getfield 378, 3) := by decide +kernel
theorem dX11_placeWord_33 : decode cX11_placeWord 33 = .ok (.invokevirtual 254, 3) := by decide +kernel
theorem dX11_placeWord_36 : decode cX11_placeWord 36 = .ok (.aload_n 0, 1) := by decide +kernel
theorem dX11_placeWord_37 : decode cX11_placeWord 37 = .ok (.getfield 12, 3) := by decide +kernel
theorem dX11_placeWord_40 : decode cX11_placeWord 40 = .ok (.iload_n 1, 1) := by decide +kernel
theorem dX11_placeWord_41 : decode cX11_placeWord 41 = .ok (.aload_n 0, 1) := by decide +kernel
theorem dX11_placeWord_42 : decode cX11_placeWord 42 = .ok (.getfield 12, 3) := by decide +kernel
theorem dX11_placeWord_45 : decode cX11_placeWord 45 = .ok (.getfield 183, 3) := by decide +kernel
theorem dX11_placeWord_48 : decode cX11_placeWord 48 = .ok (.invokevirtual 186, 3) := by decide +kernel
theorem dX11_placeWord_51 : decode cX11_placeWord 51 = .ok (.iadd, 1) := by decide +kernel
theorem dX11_placeWord_52 : decode cX11_placeWord 52 = .ok (.istore_n 3, 1) := by decide +kernel
theorem dX11_placeWord_53 : decode cX11_placeWord 53 = .ok (.aload_n 2, 1) := by decide +kernel
theorem dX11_placeWord_54 : decode cX11_placeWord 54 = .ok (.aload_n 2, 1) := by decide +kernel
theorem dX11_placeWord_55 : decode cX11_placeWord 55 = .ok (.getfield 378, 3) := by decide +kernel
theorem dX11_placeWord_58 : decode cX11_placeWord 58 = .ok (.invokevirtual 257, 3) := by decide +kernel
theorem dX11_placeWord_61 : decode cX11_placeWord 61 = .ok (.ifCond .le 22, 3) := by decide +kernel
theorem dX11_placeWord_64 : decode cX11_placeWord 64 = .ok (.iload_n 3, 1) := by decide +kernel
theorem dX11_placeWord_65 : decode cX11_placeWord 65 = .ok (.aload_n 0, 1) := by decide +kernel
theorem dX11_placeWord_66 : decode cX11_placeWord 66 = .ok (.getfield 12, 3) := by decide +kernel
theorem dX11_placeWord_69 : decode cX11_placeWord 69 = .ok (.bipush 26, 2) := by decide +kernel
theorem dX11_placeWord_71 : decode cX11_placeWord 71 = .ok (.aload_n 0, 1) := by decide +kernel
theorem dX11_placeWord_72 : decode cX11_placeWord 72 = .ok (.getfield 12, 3) := by decide +kernel
theorem dX11_placeWord_75 : decode cX11_placeWord 75 = .ok (.getfield 183, 3) := by decide +kernel
theorem dX11_placeWord_78 : decode cX11_placeWord 78 = .ok (.invokevirtual 381, 3) := by decide +kernel
theorem dX11_placeWord_81 : decode cX11_placeWord 81 = .ok (.iadd, 1) := by decide +kernel
theorem dX11_placeWord_82 : decode cX11_placeWord 82 = .ok (.istore_n 3, 1) := by decide +kernel
theorem dX11_placeWord_83 : decode cX11_placeWord 83 = .ok (.iload_n 3, 1) := by decide +kernel
theorem dX11_placeWord_84 : decode cX11_placeWord 84 = .ok (.aload_n 0, 1) := by decide +kernel
theorem dX11_placeWord_85 : decode cX11_placeWord 85 = .ok (.getfield 12, 3) := by decide +kernel
theorem dX11_placeWord_88 : decode cX11_placeWord 88 = .ok (.getfield 127, 3) := by decide +kernel
theorem dX11_placeWord_91 : decode cX11_placeWord 91 = .ok (.if_icmp .gt 21, 3) := by decide +kernel
theorem dX11_placeWord_94 : decode cX11_placeWord 94 = .ok (.aload_n 0, 1) := by decide +kernel
theorem dX11_placeWord_95 : decode cX11_placeWord 95 = .ok (.getfield 43, 3) := by decide +kernel
theorem dX11_placeWord_98 : decode cX11_placeWord 98 = .ok (.iload_n 1, 1) := by decide +kernel
theorem dX11_placeWord_99 : decode cX11_placeWord 99 = .ok (.aload_n 0, 1) := by decide +kernel
theorem dX11_placeWord_100 : decode cX11_placeWord 100 = .ok (.getfield 12, 3) := by decide +kernel
theorem dX11_placeWord_103 : decode cX11_placeWord 103 = .ok (.getfield 183, 3) := by decide +kernel
theorem dX11_placeWord_106 : decode cX11_placeWord 106 = .ok (.invokevirtual 196, 3) := by decide +kernel
theorem dX11_placeWord_109 : decode cX11_placeWord 109 = .ok (.ifCond .eq 6, 3) := by decide +kernel
theorem dX11_placeWord_112 : decode cX11_placeWord 112 = .ok (.bipush (-3), 2) := by decide +kernel
theorem dX11_placeWord_114 : decode cX11_placeWord 114 = .ok (.ireturn, 1) := by decide +kernel
theorem dX11_placeWord_115 : decode cX11_placeWord 115 = .ok (.aload_n 2, 1) := by decide +kernel
theorem dX11_placeWord_116 : decode cX11_placeWord 116 = .ok (.getfield 124, 3) := by decide +kernel
theorem dX11_placeWord_119 : decode cX11_placeWord 119 = .ok (.bipush 12, 2) := by decide +kernel
theorem dX11_placeWord_121 : decode cX11_placeWord 121 = .ok (.if_icmp .lt 6, 3) := by decide +kernel
theorem dX11_placeWord_124 : decode cX11_placeWord 124 = .ok (.bipush (-5), 2) := by decide +kernel
theorem dX11_placeWord_126 : decode cX11_placeWord 126 = .ok (.ireturn, 1) := by decide +kernel
theorem dX11_placeWord_127 : decode cX11_placeWord 127 = .ok (.aload_n 0, 1) := by decide +kernel
theorem dX11_placeWord_128 : decode cX11_placeWord 128 = .ok (.getfield 73, 3) := by decide +kernel
theorem dX11_placeWord_131 : decode cX11_placeWord 131 = .ok (.iconst 0, 1) := by decide +kernel
theorem dX11_placeWord_132 : decode cX11_placeWord 132 = .ok (.aload_n 2, 1) := by decide +kernel
theorem dX11_placeWord_133 : decode cX11_placeWord 133 = .ok (.invokevirtual 384, 3) := by decide +kernel
theorem dX11_placeWord_136 : decode cX11_placeWord 136 = .ok (.aload_n 2, 1) := by decide +kernel
theorem dX11_placeWord_137 : decode cX11_placeWord 137 = .ok (.iload_n 1, 1) := by decide +kernel
theorem dX11_placeWord_138 : decode cX11_placeWord 138 = .ok (.invokevirtual 388, 3) := by decide +kernel
theorem dX11_placeWord_141 : decode cX11_placeWord 141 = .ok (.aload_n 0, 1) := by decide +kernel
theorem dX11_placeWord_142 : decode cX11_placeWord 142 = .ok (.getfield 12, 3) := by decide +kernel
theorem dX11_placeWord_145 : decode cX11_placeWord 145 = .ok (.getfield 127, 3) := by decide +kernel
theorem dX11_placeWord_148 : decode cX11_placeWord 148 = .ok (.iload_n 3, 1) := by decide +kernel
theorem dX11_placeWord_149 : decode cX11_placeWord 149 = .ok (.isub, 1) := by decide +kernel
theorem dX11_placeWord_150 : decode cX11_placeWord 150 = .ok (.ireturn, 1) := by decide +kernel
theorem dX11_turnLine_0 : decode cX11_turnLine 0 = .ok (.aload_n 0, 1) := by decide +kernel
theorem dX11_turnLine_1 : decode cX11_turnLine 1 = .ok (.getfield 12, 3) := by decide +kernel
theorem dX11_turnLine_4 : decode cX11_turnLine 4 = .ok (.getfield 121, 3) := by decide +kernel
theorem dX11_turnLine_7 : decode cX11_turnLine 7 = .ok (.astore_n 1, 1) := by decide +kernel
theorem dX11_turnLine_8 : decode cX11_turnLine 8 = .ok (.aload_n 1, 1) := by decide +kernel
theorem dX11_turnLine_9 : decode cX11_turnLine 9 = .ok (.aload_n 1, 1) := by decide +kernel
theorem dX11_turnLine_10 : decode cX11_turnLine 10 = .ok (.getfield 378, 3) := by decide +kernel
theorem dX11_turnLine_13 : decode cX11_turnLine 13 = .ok (.invokevirtual 257, 3) := by decide +kernel
theorem dX11_turnLine_16 : decode cX11_turnLine 16 = .ok (.ifCond .eq 19, 3) := by decide +kernel
theorem dX11_turnLine_19 : decode cX11_turnLine 19 = .ok (.aload_n 1, 1) := by decide +kernel
theorem dX11_turnLine_20 : decode cX11_turnLine 20 = .ok (.getfield 378, 3) := by decide +kernel
theorem dX11_turnLine_23 : decode cX11_turnLine 23 = .ok (.iconst 1, 1) := by decide +kernel
theorem dX11_turnLine_24 : decode cX11_turnLine 24 = .ok (.iadd, 1) := by decide +kernel
theorem dX11_turnLine_25 : decode cX11_turnLine 25 = .ok (.aload_n 0, 1) := by decide +kernel
theorem dX11_turnLine_26 : decode cX11_turnLine 26 = .ok (.getfield 12, 3) := by decide +kernel
theorem dX11_turnLine_29 : decode cX11_turnLine 29 = .ok (.getfield 130, 3) := by decide +kernel
theorem dX11_turnLine_32 : decode cX11_turnLine 32 = .ok (.if_icmp .lt 6, 3) := by decide +kernel
theorem dX11_turnLine_35 : decode cX11_turnLine 35 = .ok (.bipush (-3), 2) := by decide +kernel
theorem dX11_turnLine_37 : decode cX11_turnLine 37 = .ok (.ireturn, 1) := by decide +kernel
theorem dX11_turnLine_38 : decode cX11_turnLine 38 = .ok (.aload_n 0, 1) := by decide +kernel
theorem dX11_turnLine_39 : decode cX11_turnLine 39 = .ok (.getfield 73, 3) := by decide +kernel
theorem dX11_turnLine_42 : decode cX11_turnLine 42 = .ok (.iconst 1, 1) := by decide +kernel
theorem dX11_turnLine_43 : decode cX11_turnLine 43 = .ok (.aload_n 1, 1) := by decide +kernel
theorem dX11_turnLine_44 : decode cX11_turnLine 44 = .ok (.invokevirtual 384, 3) := by decide +kernel
theorem dX11_turnLine_47 : decode cX11_turnLine 47 = .ok (.aload_n 1, 1) := by decide +kernel
theorem dX11_turnLine_48 : decode cX11_turnLine 48 = .ok (.dup, 1) := by decide +kernel
theorem dX11_turnLine_49 : decode cX11_turnLine 49 = .ok (.getfield 378, 3) := by decide +kernel
theorem dX11_turnLine_52 : decode cX11_turnLine 52 = .ok (.iconst 1, 1) := by decide +kernel
theorem dX11_turnLine_53 : decode cX11_turnLine 53 = .ok (.iadd, 1) := by decide +kernel
theorem dX11_turnLine_54 : decode cX11_turnLine 54 = .ok (.putfield 378, 3) := by decide +kernel
theorem dX11_turnLine_57 : decode cX11_turnLine 57 = .ok (.aload_n 1, 1) := by decide +kernel
theorem dX11_turnLine_58 : decode cX11_turnLine 58 = .ok (.getfield 378, 3) := by decide +kernel
theorem dX11_turnLine_61 : decode cX11_turnLine 61 = .ok (.ireturn, 1) := by decide +kernel
theorem dX11_emptyHead_0 : decode cX11_emptyHead 0 = .ok (.aload_n 0, 1) := by decide +kernel
theorem dX11_emptyHead_1 : decode cX11_emptyHead 1 = .ok (.getfield 12, 3) := by decide +kernel
theorem dX11_emptyHead_4 : decode cX11_emptyHead 4 = .ok (.getfield 121, 3) := by decide +kernel
theorem dX11_emptyHead_7 : decode cX11_emptyHead 7 = .ok (.astore_n 1, 1) := by decide +kernel
theorem dX11_emptyHead_8 : decode cX11_emptyHead 8 = .ok (.aload_n 1, 1) := by decide +kernel
theorem dX11_emptyHead_9 : decode cX11_emptyHead 9 = .ok (.getfield 124, 3) := by decide +kernel
theorem dX11_emptyHead_12 : decode cX11_emptyHead 12 = .ok (.ifCond .ne 6, 3) := by decide +kernel
theorem dX11_emptyHead_15 : decode cX11_emptyHead 15 = .ok (.bipush (-3), 2) := by decide +kernel
theorem dX11_emptyHead_17 : decode cX11_emptyHead 17 = .ok (.ireturn, 1) := by decide +kernel
theorem dX11_emptyHead_18 : decode cX11_emptyHead 18 = .ok (.aload_n 0, 1) := by decide +kernel
theorem dX11_emptyHead_19 : decode cX11_emptyHead 19 = .ok (.getfield 73, 3) := by decide +kernel
theorem dX11_emptyHead_22 : decode cX11_emptyHead 22 = .ok (.iconst 2, 1) := by decide +kernel
theorem dX11_emptyHead_23 : decode cX11_emptyHead 23 = .ok (.aload_n 1, 1) := by decide +kernel
theorem dX11_emptyHead_24 : decode cX11_emptyHead 24 = .ok (.invokevirtual 384, 3) := by decide +kernel
theorem dX11_emptyHead_27 : decode cX11_emptyHead 27 = .ok (.aload_n 1, 1) := by decide +kernel
theorem dX11_emptyHead_28 : decode cX11_emptyHead 28 = .ok (.getfield 124, 3) := by decide +kernel
theorem dX11_emptyHead_31 : decode cX11_emptyHead 31 = .ok (.istore_n 2, 1) := by decide +kernel
theorem dX11_emptyHead_32 : decode cX11_emptyHead 32 = .ok (.aload_n 1, 1) := by decide +kernel
theorem dX11_emptyHead_33 : decode cX11_emptyHead 33 = .ok (.iconst 0, 1) := by decide +kernel
theorem dX11_emptyHead_34 : decode cX11_emptyHead 34 = .ok (.putfield 124, 3) := by decide +kernel
theorem dX11_emptyHead_37 : decode cX11_emptyHead 37 = .ok (.aload_n 1, 1) := by decide +kernel
theorem dX11_emptyHead_38 : decode cX11_emptyHead 38 = .ok (.iconst 0, 1) := by decide +kernel
theorem dX11_emptyHead_39 : decode cX11_emptyHead 39 = .ok (.putfield 378, 3) := by decide +kernel
theorem dX11_emptyHead_42 : decode cX11_emptyHead 42 = .ok (.iload_n 2, 1) := by decide +kernel
theorem dX11_emptyHead_43 : decode cX11_emptyHead 43 = .ok (.ireturn, 1) := by decide +kernel
theorem dX11_runWholly_0 : decode cX11_runWholly 0 = .ok (.aload_n 0, 1) := by decide +kernel
theorem dX11_runWholly_1 : decode cX11_runWholly 1 = .ok (.getfield 77, 3) := by decide +kernel
theorem dX11_runWholly_4 : decode cX11_runWholly 4 = .ok (.aload_n 0, 1) := by decide +kernel
theorem dX11_runWholly_5 : decode cX11_runWholly 5 = .ok (.getfield 73, 3) := by decide +kernel
theorem dX11_runWholly_8 : decode cX11_runWholly 8 = .ok (.invokevirtual 390, 3) := by decide +kernel
theorem dX11_runWholly_11 : decode cX11_runWholly 11 = .ok (.aload_n 0, 1) := by decide +kernel
theorem dX11_runWholly_12 : decode cX11_runWholly 12 = .ok (.getfield 83, 3) := by decide +kernel
theorem dX11_runWholly_15 : decode cX11_runWholly 15 = .ok (.aload_n 0, 1) := by decide +kernel
theorem dX11_runWholly_16 : decode cX11_runWholly 16 = .ok (.getfield 12, 3) := by decide +kernel
theorem dX11_runWholly_19 : decode cX11_runWholly 19 = .ok (.getfield 121, 3) := by decide +kernel
theorem dX11_runWholly_22 : decode cX11_runWholly 22 = .ok (.invokevirtual 393, 3) := by decide +kernel
theorem dX11_runWholly_25 : decode cX11_runWholly 25 = .ok (.aload_n 0, 1) := by decide +kernel
theorem dX11_runWholly_26 : decode cX11_runWholly 26 = .ok (.getfield 12, 3) := by decide +kernel
theorem dX11_runWholly_29 : decode cX11_runWholly 29 = .ok (.getfield 183, 3) := by decide +kernel
theorem dX11_runWholly_32 : decode cX11_runWholly 32 = .ok (.istore_n 2, 1) := by decide +kernel
theorem dX11_runWholly_33 : decode cX11_runWholly 33 = .ok (.iconst 0, 1) := by decide +kernel
theorem dX11_runWholly_34 : decode cX11_runWholly 34 = .ok (.istore_n 3, 1) := by decide +kernel
theorem dX11_runWholly_35 : decode cX11_runWholly 35 = .ok (.iconst 0, 1) := by decide +kernel
theorem dX11_runWholly_36 : decode cX11_runWholly 36 = .ok (.istore 4, 2) := by decide +kernel
theorem dX11_runWholly_38 : decode cX11_runWholly 38 = .ok (.iload 4, 2) := by decide +kernel
theorem dX11_runWholly_40 : decode cX11_runWholly 40 = .ok (.aload_n 1, 1) := by decide +kernel
theorem dX11_runWholly_41 : decode cX11_runWholly 41 = .ok (.getfield 396, 3) := by decide +kernel
theorem dX11_runWholly_44 : decode cX11_runWholly 44 = .ok (.if_icmp .ge 104, 3) := by decide +kernel
theorem dX11_runWholly_47 : decode cX11_runWholly 47 = .ok (.iconst 0, 1) := by decide +kernel
theorem dX11_runWholly_48 : decode cX11_runWholly 48 = .ok (.istore 5, 2) := by decide +kernel
theorem dX11_runWholly_50 : decode cX11_runWholly 50 = .ok (.iload 5, 2) := by decide +kernel
theorem dX11_runWholly_52 : decode cX11_runWholly 52 = .ok (.aload_n 1, 1) := by decide +kernel
theorem dX11_runWholly_53 : decode cX11_runWholly 53 = .ok (.getfield 399, 3) := by decide +kernel
theorem dX11_runWholly_56 : decode cX11_runWholly 56 = .ok (.iload 4, 2) := by decide +kernel
theorem dX11_runWholly_58 : decode cX11_runWholly 58 = .ok (.iaload, 1) := by decide +kernel
theorem dX11_runWholly_59 : decode cX11_runWholly 59 = .ok (.if_icmp .ge 83, 3) := by decide +kernel
theorem dX11_runWholly_62 : decode cX11_runWholly 62 = .ok (.aload_n 0, 1) := by decide +kernel
theorem dX11_runWholly_63 : decode cX11_runWholly 63 = .ok (.aload_n 1, 1) := by decide +kernel
theorem dX11_runWholly_64 : decode cX11_runWholly 64 = .ok (.iload 4, 2) := by decide +kernel
theorem dX11_runWholly_66 : decode cX11_runWholly 66 = .ok (.iload_n 3, 1) := by decide +kernel
theorem dX11_runWholly_67 : decode cX11_runWholly 67 = .ok (.invokevirtual 402, 3) := by decide +kernel
theorem dX11_runWholly_70 : decode cX11_runWholly 70 = .ok (.istore 6, 2) := by decide +kernel
theorem dX11_runWholly_72 : decode cX11_runWholly 72 = .ok (.iload 6, 2) := by decide +kernel
theorem dX11_runWholly_74 : decode cX11_runWholly 74 = .ok (.ifCond .ge 57, 3) := by decide +kernel
theorem dX11_runWholly_77 : decode cX11_runWholly 77 = .ok (.aload_n 0, 1) := by decide +kernel
theorem dX11_runWholly_78 : decode cX11_runWholly 78 = .ok (.getfield 73, 3) := by decide +kernel
theorem dX11_runWholly_81 : decode cX11_runWholly 81 = .ok (.aload_n 0, 1) := by decide +kernel
theorem dX11_runWholly_82 : decode cX11_runWholly 82 = .ok (.getfield 77, 3) := by decide +kernel
theorem dX11_runWholly_85 : decode cX11_runWholly 85 = .ok (.invokevirtual 390, 3) := by decide +kernel
theorem dX11_runWholly_88 : decode cX11_runWholly 88 = .ok (.aload_n 0, 1) := by decide +kernel
theorem dX11_runWholly_89 : decode cX11_runWholly 89 = .ok (.getfield 12, 3) := by decide +kernel
theorem dX11_runWholly_92 : decode cX11_runWholly 92 = .ok (.getfield 121, 3) := by decide +kernel
theorem dX11_runWholly_95 : decode cX11_runWholly 95 = .ok (.aload_n 0, 1) := by decide +kernel
theorem dX11_runWholly_96 : decode cX11_runWholly 96 = .ok (.getfield 83, 3) := by decide +kernel
theorem dX11_runWholly_99 : decode cX11_runWholly 99 = .ok (.invokevirtual 393, 3) := by decide +kernel
theorem dX11_runWholly_102 : decode cX11_runWholly 102 = .ok (.aload_n 0, 1) := by decide +kernel
theorem dX11_runWholly_103 : decode cX11_runWholly 103 = .ok (.getfield 12, 3) := by decide +kernel
theorem dX11_runWholly_106 : decode cX11_runWholly 106 = .ok (.iload_n 2, 1) := by decide +kernel
theorem dX11_runWholly_107 : decode cX11_runWholly 107 = .ok (.putfield 183, 3) := by decide +kernel
theorem dX11_runWholly_110 : decode cX11_runWholly 110 = .ok (.aload_n 0, 1) := by decide +kernel
theorem dX11_runWholly_111 : decode cX11_runWholly 111 = .ok (.iload 4, 2) := by decide +kernel
theorem dX11_runWholly_113 : decode cX11_runWholly 113 = .ok (.putfield 95, 3) := by decide +kernel
theorem dX11_runWholly_116 : decode cX11_runWholly 116 = .ok (.iload 6, 2) := by decide +kernel
theorem dX11_runWholly_118 : decode cX11_runWholly 118 = .ok (.bipush (-5), 2) := by decide +kernel
theorem dX11_runWholly_120 : decode cX11_runWholly 120 = .ok (.if_icmp .ne 8, 3) := by decide +kernel
theorem dX11_runWholly_123 : decode cX11_runWholly 123 = .ok (.bipush (-5), 2) := by decide +kernel
theorem dX11_runWholly_125 : decode cX11_runWholly 125 = .ok (.goto 5, 3) := by decide +kernel
theorem dX11_runWholly_128 : decode cX11_runWholly 128 = .ok (.bipush (-3), 2) := by decide +kernel
theorem dX11_runWholly_130 : decode cX11_runWholly 130 = .ok (.ireturn, 1) := by decide +kernel
theorem dX11_runWholly_131 : decode cX11_runWholly 131 = .ok (.iload_n 3, 1) := by decide +kernel
theorem dX11_runWholly_132 : decode cX11_runWholly 132 = .ok (.iload 6, 2) := by decide +kernel
theorem dX11_runWholly_134 : decode cX11_runWholly 134 = .ok (.iadd, 1) := by decide +kernel
theorem dX11_runWholly_135 : decode cX11_runWholly 135 = .ok (.istore_n 3, 1) := by decide +kernel
theorem dX11_runWholly_136 : decode cX11_runWholly 136 = .ok (.iinc 5 1, 3) := by decide +kernel
theorem dX11_runWholly_139 : decode cX11_runWholly 139 = .ok (.goto (-89), 3) := by decide +kernel
theorem dX11_runWholly_142 : decode cX11_runWholly 142 = .ok (.iinc 4 1, 3) := by decide +kernel
theorem dX11_runWholly_145 : decode cX11_runWholly 145 = .ok (.goto (-107), 3) := by decide +kernel
theorem dX11_runWholly_148 : decode cX11_runWholly 148 = .ok (.iload_n 3, 1) := by decide +kernel
theorem dX11_runWholly_149 : decode cX11_runWholly 149 = .ok (.ireturn, 1) := by decide +kernel
theorem dX11_runOnce_0 : decode cX11_runOnce 0 = .ok (.aload_n 0, 1) := by decide +kernel
theorem dX11_runOnce_1 : decode cX11_runOnce 1 = .ok (.iload_n 3, 1) := by decide +kernel
theorem dX11_runOnce_2 : decode cX11_runOnce 2 = .ok (.invokevirtual 406, 3) := by decide +kernel
theorem dX11_runOnce_5 : decode cX11_runOnce 5 = .ok (.aload_n 1, 1) := by decide +kernel
theorem dX11_runOnce_6 : decode cX11_runOnce 6 = .ok (.iload_n 2, 1) := by decide +kernel
theorem dX11_runOnce_7 : decode cX11_runOnce 7 = .ok (.invokevirtual 409, 3) := by decide +kernel
theorem dX11_runOnce_10 : decode cX11_runOnce 10 = .ok (.ifCond .eq 42, 3) := by decide +kernel
theorem dX11_runOnce_13 : decode cX11_runOnce 13 = .ok (.aload_n 0, 1) := by decide +kernel
theorem dX11_runOnce_14 : decode cX11_runOnce 14 = .ok (.getfield 34, 3) := by decide +kernel
theorem dX11_runOnce_17 : decode cX11_runOnce 17 = .ok (.aload_n 1, 1) := by decide +kernel
theorem dX11_runOnce_18 : decode cX11_runOnce 18 = .ok (.aload_n 1, 1) := by decide +kernel
theorem dX11_runOnce_19 : decode cX11_runOnce 19 = .ok (.getfield 412, 3) := by decide +kernel
theorem dX11_runOnce_22 : decode cX11_runOnce 22 = .ok (.iload_n 2, 1) := by decide +kernel
theorem dX11_runOnce_23 : decode cX11_runOnce 23 = .ok (.iaload, 1) := by decide +kernel
theorem dX11_runOnce_24 : decode cX11_runOnce 24 = .ok (.aload_n 1, 1) := by decide +kernel
theorem dX11_runOnce_25 : decode cX11_runOnce 25 = .ok (.getfield 415, 3) := by decide +kernel
theorem dX11_runOnce_28 : decode cX11_runOnce 28 = .ok (.iload_n 2, 1) := by decide +kernel
theorem dX11_runOnce_29 : decode cX11_runOnce 29 = .ok (.iaload, 1) := by decide +kernel
theorem dX11_runOnce_30 : decode cX11_runOnce 30 = .ok (.invokevirtual 418, 3) := by decide +kernel
theorem dX11_runOnce_33 : decode cX11_runOnce 33 = .ok (.istore 4, 2) := by decide +kernel
theorem dX11_runOnce_35 : decode cX11_runOnce 35 = .ok (.iload 4, 2) := by decide +kernel
theorem dX11_runOnce_37 : decode cX11_runOnce 37 = .ok (.ifCond .eq 13, 3) := by decide +kernel
theorem dX11_runOnce_40 : decode cX11_runOnce 40 = .ok (.aload_n 0, 1) := by decide +kernel
theorem dX11_runOnce_41 : decode cX11_runOnce 41 = .ok (.getfield 34, 3) := by decide +kernel
theorem dX11_runOnce_44 : decode cX11_runOnce 44 = .ok (.getfield 422, 3) := by decide +kernel
theorem dX11_runOnce_47 : decode cX11_runOnce 47 = .ok (.ifCond .ne 5, 3) := by decide +kernel
theorem dX11_runOnce_50 : decode cX11_runOnce 50 = .ok (.iconst 0, 1) := by decide +kernel
theorem dX11_runOnce_51 : decode cX11_runOnce 51 = .ok (.ireturn, 1) := by decide +kernel
theorem dX11_runOnce_52 : decode cX11_runOnce 52 = .ok (.aload_n 1, 1) := by decide +kernel
theorem dX11_runOnce_53 : decode cX11_runOnce 53 = .ok (.iload_n 2, 1) := by decide +kernel
theorem dX11_runOnce_54 : decode cX11_runOnce 54 = .ok (.invokevirtual 425, 3) := by decide +kernel
theorem dX11_runOnce_57 : decode cX11_runOnce 57 = .ok (.ifCond .eq 29, 3) := by decide +kernel
theorem dX11_runOnce_60 : decode cX11_runOnce 60 = .ok (.aload_n 0, 1) := by decide +kernel
theorem dX11_runOnce_61 : decode cX11_runOnce 61 = .ok (.getfield 34, 3) := by decide +kernel
theorem dX11_runOnce_64 : decode cX11_runOnce 64 = .ok (.aload_n 1, 1) := by decide +kernel
theorem dX11_runOnce_65 : decode cX11_runOnce 65 = .ok (.aload_n 1, 1) := by decide +kernel
theorem dX11_runOnce_66 : decode cX11_runOnce 66 = .ok (.getfield 428, 3) := by decide +kernel
theorem dX11_runOnce_69 : decode cX11_runOnce 69 = .ok (.iload_n 2, 1) := by decide +kernel
theorem dX11_runOnce_70 : decode cX11_runOnce 70 = .ok (.iaload, 1) := by decide +kernel
theorem dX11_runOnce_71 : decode cX11_runOnce 71 = .ok (.aload_n 1, 1) := by decide +kernel
theorem dX11_runOnce_72 : decode cX11_runOnce 72 = .ok (.getfield 412, 3) := by decide +kernel
theorem dX11_runOnce_75 : decode cX11_runOnce 75 = .ok (.iload_n 2, 1) := by decide +kernel
theorem dX11_runOnce_76 : decode cX11_runOnce 76 = .ok (.iaload, 1) := by decide +kernel
theorem dX11_runOnce_77 : decode cX11_runOnce 77 = .ok (.invokevirtual 418, 3) := by decide +kernel
theorem dX11_runOnce_80 : decode cX11_runOnce 80 = .ok (.ifCond .ne 6, 3) := by decide +kernel
theorem dX11_runOnce_83 : decode cX11_runOnce 83 = .ok (.bipush (-3), 2) := by decide +kernel
theorem dX11_runOnce_85 : decode cX11_runOnce 85 = .ok (.ireturn, 1) := by decide +kernel
theorem dX11_runOnce_86 : decode cX11_runOnce 86 = .ok (.aload_n 1, 1) := by decide +kernel
theorem dX11_runOnce_87 : decode cX11_runOnce 87 = .ok (.getfield 431, 3) := by decide +kernel
theorem dX11_runOnce_90 : decode cX11_runOnce 90 = .ok (.iload_n 2, 1) := by decide +kernel
theorem dX11_runOnce_91 : decode cX11_runOnce 91 = .ok (.iaload, 1) := by decide +kernel
theorem dX11_runOnce_92 : decode cX11_runOnce 92 = .ok (.tableswitch 62 0 2 #[28, 44, 53], 28) := by decide +kernel
theorem dX11_runOnce_120 : decode cX11_runOnce 120 = .ok (.aload_n 0, 1) := by decide +kernel
theorem dX11_runOnce_121 : decode cX11_runOnce 121 = .ok (.aload_n 0, 1) := by decide +kernel
theorem dX11_runOnce_122 : decode cX11_runOnce 122 = .ok (.getfield 34, 3) := by decide +kernel
theorem dX11_runOnce_125 : decode cX11_runOnce 125 = .ok (.getfield 422, 3) := by decide +kernel
theorem dX11_runOnce_128 : decode cX11_runOnce 128 = .ok (.invokevirtual 240, 3) := by decide +kernel
theorem dX11_runOnce_131 : decode cX11_runOnce 131 = .ok (.istore 4, 2) := by decide +kernel
theorem dX11_runOnce_133 : decode cX11_runOnce 133 = .ok (.goto 34, 3) := by decide +kernel
theorem dX11_runOnce_136 : decode cX11_runOnce 136 = .ok (.aload_n 0, 1) := by decide +kernel
theorem dX11_runOnce_137 : decode cX11_runOnce 137 = .ok (.invokevirtual 243, 3) := by decide +kernel
theorem dX11_runOnce_140 : decode cX11_runOnce 140 = .ok (.istore 4, 2) := by decide +kernel
theorem dX11_runOnce_142 : decode cX11_runOnce 142 = .ok (.goto 25, 3) := by decide +kernel
theorem dX11_runOnce_145 : decode cX11_runOnce 145 = .ok (.aload_n 0, 1) := by decide +kernel
theorem dX11_runOnce_146 : decode cX11_runOnce 146 = .ok (.invokevirtual 247, 3) := by decide +kernel
theorem dX11_runOnce_149 : decode cX11_runOnce 149 = .ok (.istore 4, 2) := by decide +kernel
theorem dX11_runOnce_151 : decode cX11_runOnce 151 = .ok (.goto 16, 3) := by decide +kernel
theorem dX11_runOnce_154 : decode cX11_runOnce 154 = .ok (.aload_n 0, 1) := by decide +kernel
theorem dX11_runOnce_155 : decode cX11_runOnce 155 = .ok (.aload_n 0, 1) := by decide +kernel
theorem dX11_runOnce_156 : decode cX11_runOnce 156 = .ok (.getfield 34, 3) := by decide +kernel
theorem dX11_runOnce_159 : decode cX11_runOnce 159 = .ok (.getfield 422, 3) := by decide +kernel
theorem dX11_runOnce_162 : decode cX11_runOnce 162 = .ok (.invokevirtual 133, 3) := by decide +kernel
theorem dX11_runOnce_165 : decode cX11_runOnce 165 = .ok (.istore 4, 2) := by decide +kernel
theorem dX11_runOnce_167 : decode cX11_runOnce 167 = .ok (.iload 4, 2) := by decide +kernel
theorem dX11_runOnce_169 : decode cX11_runOnce 169 = .ok (.ifCond .ge 8, 3) := by decide +kernel
theorem dX11_runOnce_172 : decode cX11_runOnce 172 = .ok (.iload 4, 2) := by decide +kernel
theorem dX11_runOnce_174 : decode cX11_runOnce 174 = .ok (.goto 4, 3) := by decide +kernel
theorem dX11_runOnce_177 : decode cX11_runOnce 177 = .ok (.iconst 1, 1) := by decide +kernel
theorem dX11_runOnce_178 : decode cX11_runOnce 178 = .ok (.ireturn, 1) := by decide +kernel
theorem dX11_tellFacts_0 : decode cX11_tellFacts 0 = .ok (.aload_n 0, 1) := by decide +kernel
theorem dX11_tellFacts_1 : decode cX11_tellFacts 1 = .ok (.getfield 34, 3) := by decide +kernel
theorem dX11_tellFacts_4 : decode cX11_tellFacts 4 = .ok (.getfield 434, 3) := by decide +kernel
theorem dX11_tellFacts_7 : decode cX11_tellFacts 7 = .ok (.astore_n 2, 1) := by decide +kernel
theorem dX11_tellFacts_8 : decode cX11_tellFacts 8 = .ok (.aload_n 2, 1) := by decide +kernel
theorem dX11_tellFacts_9 : decode cX11_tellFacts 9 = .ok (.iconst 0, 1) := by decide +kernel
theorem dX11_tellFacts_10 : decode cX11_tellFacts 10 = .ok (.aload_n 0, 1) := by decide +kernel
theorem dX11_tellFacts_11 : decode cX11_tellFacts 11 = .ok (.getfield 12, 3) := by decide +kernel
theorem dX11_tellFacts_14 : decode cX11_tellFacts 14 = .ok (.getfield 121, 3) := by decide +kernel
theorem dX11_tellFacts_17 : decode cX11_tellFacts 17 = .ok (.getfield 124, 3) := by decide +kernel
theorem dX11_tellFacts_20 : decode cX11_tellFacts 20 = .ok (.iastore, 1) := by decide +kernel
theorem dX11_tellFacts_21 : decode cX11_tellFacts 21 = .ok (.aload_n 2, 1) := by decide +kernel
theorem dX11_tellFacts_22 : decode cX11_tellFacts 22 = .ok (.iconst 1, 1) := by decide +kernel
theorem dX11_tellFacts_23 : decode cX11_tellFacts 23 = .ok (.aload_n 0, 1) := by decide +kernel
theorem dX11_tellFacts_24 : decode cX11_tellFacts 24 = .ok (.getfield 12, 3) := by decide +kernel
theorem dX11_tellFacts_27 : decode cX11_tellFacts 27 = .ok (.getfield 121, 3) := by decide +kernel
theorem dX11_tellFacts_30 : decode cX11_tellFacts 30 = .ok (.getfield 378, 3) := by decide +kernel
theorem dX11_tellFacts_33 : decode cX11_tellFacts 33 = .ok (.iastore, 1) := by decide +kernel
theorem dX11_tellFacts_34 : decode cX11_tellFacts 34 = .ok (.aload_n 2, 1) := by decide +kernel
theorem dX11_tellFacts_35 : decode cX11_tellFacts 35 = .ok (.iconst 2, 1) := by decide +kernel
theorem dX11_tellFacts_36 : decode cX11_tellFacts 36 = .ok (.aload_n 0, 1) := by decide +kernel
theorem dX11_tellFacts_37 : decode cX11_tellFacts 37 = .ok (.getfield 12, 3) := by decide +kernel
theorem dX11_tellFacts_40 : decode cX11_tellFacts 40 = .ok (.getfield 127, 3) := by decide +kernel
theorem dX11_tellFacts_43 : decode cX11_tellFacts 43 = .ok (.aload_n 0, 1) := by decide +kernel
theorem dX11_tellFacts_44 : decode cX11_tellFacts 44 = .ok (.getfield 12, 3) := by decide +kernel
theorem dX11_tellFacts_47 : decode cX11_tellFacts 47 = .ok (.aload_n 0, 1) := by decide +kernel
theorem dX11_tellFacts_48 : decode cX11_tellFacts 48 = .ok (.getfield 12, 3) := by decide +kernel
theorem dX11_tellFacts_51 : decode cX11_tellFacts 51 = .ok (.getfield 121, 3) := by decide +kernel
theorem dX11_tellFacts_54 : decode cX11_tellFacts 54 = .ok (.getfield 378, 3) := by decide +kernel
theorem dX11_tellFacts_57 : decode cX11_tellFacts 57 = .ok (.invokevirtual 254, 3) := by decide +kernel
theorem dX11_tellFacts_60 : decode cX11_tellFacts 60 = .ok (.isub, 1) := by decide +kernel
theorem dX11_tellFacts_61 : decode cX11_tellFacts 61 = .ok (.iastore, 1) := by decide +kernel
theorem dX11_tellFacts_62 : decode cX11_tellFacts 62 = .ok (.aload_n 2, 1) := by decide +kernel
theorem dX11_tellFacts_63 : decode cX11_tellFacts 63 = .ok (.iconst 3, 1) := by decide +kernel
theorem dX11_tellFacts_64 : decode cX11_tellFacts 64 = .ok (.iload_n 1, 1) := by decide +kernel
theorem dX11_tellFacts_65 : decode cX11_tellFacts 65 = .ok (.iastore, 1) := by decide +kernel
theorem dX11_tellFacts_66 : decode cX11_tellFacts 66 = .ok (.aload_n 2, 1) := by decide +kernel
theorem dX11_tellFacts_67 : decode cX11_tellFacts 67 = .ok (.iconst 4, 1) := by decide +kernel
theorem dX11_tellFacts_68 : decode cX11_tellFacts 68 = .ok (.aload_n 0, 1) := by decide +kernel
theorem dX11_tellFacts_69 : decode cX11_tellFacts 69 = .ok (.getfield 12, 3) := by decide +kernel
theorem dX11_tellFacts_72 : decode cX11_tellFacts 72 = .ok (.getfield 183, 3) := by decide +kernel
theorem dX11_tellFacts_75 : decode cX11_tellFacts 75 = .ok (.iastore, 1) := by decide +kernel
theorem dX11_tellFacts_76 : decode cX11_tellFacts 76 = .ok (.iconst 0, 1) := by decide +kernel
theorem dX11_tellFacts_77 : decode cX11_tellFacts 77 = .ok (.istore_n 3, 1) := by decide +kernel
theorem dX11_tellFacts_78 : decode cX11_tellFacts 78 = .ok (.iload_n 3, 1) := by decide +kernel
theorem dX11_tellFacts_79 : decode cX11_tellFacts 79 = .ok (.bipush 16, 2) := by decide +kernel
theorem dX11_tellFacts_81 : decode cX11_tellFacts 81 = .ok (.if_icmp .ge 78, 3) := by decide +kernel
theorem dX11_tellFacts_84 : decode cX11_tellFacts 84 = .ok (.aload_n 0, 1) := by decide +kernel
theorem dX11_tellFacts_85 : decode cX11_tellFacts 85 = .ok (.getfield 12, 3) := by decide +kernel
theorem dX11_tellFacts_88 : decode cX11_tellFacts 88 = .ok (.getfield 149, 3) := by decide +kernel
theorem dX11_tellFacts_91 : decode cX11_tellFacts 91 = .ok (.iload_n 3, 1) := by decide +kernel
theorem dX11_tellFacts_92 : decode cX11_tellFacts 92 = .ok (.invokevirtual 167, 3) := by decide +kernel
theorem dX11_tellFacts_95 : decode cX11_tellFacts 95 = .ok (.istore 4, 2) := by decide +kernel
theorem dX11_tellFacts_97 : decode cX11_tellFacts 97 = .ok (.aload_n 2, 1) := by decide +kernel
theorem dX11_tellFacts_98 : decode cX11_tellFacts 98 = .ok (.iconst 5, 1) := by decide +kernel
theorem dX11_tellFacts_99 : decode cX11_tellFacts 99 = .ok (.iload_n 3, 1) := by decide +kernel
theorem dX11_tellFacts_100 : decode cX11_tellFacts 100 = .ok (.iadd, 1) := by decide +kernel
theorem dX11_tellFacts_101 : decode cX11_tellFacts 101 = .ok (.iload 4, 2) := by decide +kernel
theorem dX11_tellFacts_103 : decode cX11_tellFacts 103 = .ok (.ifCond .eq 21, 3) := by decide +kernel
theorem dX11_tellFacts_106 : decode cX11_tellFacts 106 = .ok (.aload_n 0, 1) := by decide +kernel
theorem dX11_tellFacts_107 : decode cX11_tellFacts 107 = .ok (.getfield 12, 3) := by decide +kernel
theorem dX11_tellFacts_110 : decode cX11_tellFacts 110 = .ok (.iload_n 3, 1) := by decide +kernel
theorem dX11_tellFacts_111 : decode cX11_tellFacts 111 = .ok (.aload_n 0, 1) := by decide +kernel
theorem dX11_tellFacts_112 : decode cX11_tellFacts 112 = .ok (.getfield 12, 3) := by decide +kernel
theorem dX11_tellFacts_115 : decode cX11_tellFacts 115 = .ok (.getfield 183, 3) := by decide +kernel
theorem dX11_tellFacts_118 : decode cX11_tellFacts 118 = .ok (.invokevirtual 186, 3) := by decide +kernel
theorem dX11_tellFacts_121 : decode cX11_tellFacts 121 = .ok (.goto 4, 3) := by decide +kernel
theorem dX11_tellFacts_124 : decode cX11_tellFacts 124 = .ok (.iconst (-1), 1) := by decide +kernel
theorem dX11_tellFacts_125 : decode cX11_tellFacts 125 = .ok (.iastore, 1) := by decide +kernel
theorem dX11_tellFacts_126 : decode cX11_tellFacts 126 = .ok (.aload_n 2, 1) := by decide +kernel
theorem dX11_tellFacts_127 : decode cX11_tellFacts 127 = .ok (.bipush 21, 2) := by decide +kernel
theorem dX11_tellFacts_129 : decode cX11_tellFacts 129 = .ok (.iload_n 3, 1) := by decide +kernel
theorem dX11_tellFacts_130 : decode cX11_tellFacts 130 = .ok (.iadd, 1) := by decide +kernel
theorem dX11_tellFacts_131 : decode cX11_tellFacts 131 = .ok (.iload 4, 2) := by decide +kernel
theorem dX11_tellFacts_133 : decode cX11_tellFacts 133 = .ok (.ifCond .eq 18, 3) := by decide +kernel
theorem dX11_tellFacts_136 : decode cX11_tellFacts 136 = .ok (.aload_n 0, 1) := by decide +kernel
theorem dX11_tellFacts_137 : decode cX11_tellFacts 137 = .ok (.getfield 12, 3) := by decide +kernel
theorem dX11_tellFacts_140 : decode cX11_tellFacts 140 = .ok (.getfield 149, 3) := by decide +kernel
theorem dX11_tellFacts_143 : decode cX11_tellFacts 143 = .ok (.getfield 171, 3) := by decide +kernel
theorem dX11_tellFacts_146 : decode cX11_tellFacts 146 = .ok (.iload_n 3, 1) := by decide +kernel
theorem dX11_tellFacts_147 : decode cX11_tellFacts 147 = .ok (.iaload, 1) := by decide +kernel
theorem dX11_tellFacts_148 : decode cX11_tellFacts 148 = .ok (.goto 4, 3) := by decide +kernel
theorem dX11_tellFacts_151 : decode cX11_tellFacts 151 = .ok (.iconst (-1), 1) := by decide +kernel
theorem dX11_tellFacts_152 : decode cX11_tellFacts 152 = .ok (.iastore, 1) := by decide +kernel
theorem dX11_tellFacts_153 : decode cX11_tellFacts 153 = .ok (.iinc 3 1, 3) := by decide +kernel
theorem dX11_tellFacts_156 : decode cX11_tellFacts 156 = .ok (.goto (-78), 3) := by decide +kernel
theorem dX11_tellFacts_159 : decode cX11_tellFacts 159 = .ok (.return_, 1) := by decide +kernel
theorem dX11_powerOfTen_0 : decode cX11_powerOfTen 0 = .ok (.iconst 1, 1) := by decide +kernel
theorem dX11_powerOfTen_1 : decode cX11_powerOfTen 1 = .ok (.istore_n 1, 1) := by decide +kernel
theorem dX11_powerOfTen_2 : decode cX11_powerOfTen 2 = .ok (.iconst 0, 1) := by decide +kernel
theorem dX11_powerOfTen_3 : decode cX11_powerOfTen 3 = .ok (.istore_n 2, 1) := by decide +kernel
theorem dX11_powerOfTen_4 : decode cX11_powerOfTen 4 = .ok (.iload_n 2, 1) := by decide +kernel
theorem dX11_powerOfTen_5 : decode cX11_powerOfTen 5 = .ok (.iload_n 0, 1) := by decide +kernel
theorem dX11_powerOfTen_6 : decode cX11_powerOfTen 6 = .ok (.if_icmp .ge 14, 3) := by decide +kernel
theorem dX11_powerOfTen_9 : decode cX11_powerOfTen 9 = .ok (.iload_n 1, 1) := by decide +kernel
theorem dX11_powerOfTen_10 : decode cX11_powerOfTen 10 = .ok (.bipush 10, 2) := by decide +kernel
theorem dX11_powerOfTen_12 : decode cX11_powerOfTen 12 = .ok (.imul, 1) := by decide +kernel
theorem dX11_powerOfTen_13 : decode cX11_powerOfTen 13 = .ok (.istore_n 1, 1) := by decide +kernel
theorem dX11_powerOfTen_14 : decode cX11_powerOfTen 14 = .ok (.iinc 2 1, 3) := by decide +kernel
theorem dX11_powerOfTen_17 : decode cX11_powerOfTen 17 = .ok (.goto (-13), 3) := by decide +kernel
theorem dX11_powerOfTen_20 : decode cX11_powerOfTen 20 = .ok (.iload_n 1, 1) := by decide +kernel
theorem dX11_powerOfTen_21 : decode cX11_powerOfTen 21 = .ok (.ireturn, 1) := by decide +kernel
theorem dX11_commonDivisor_0 : decode cX11_commonDivisor 0 = .ok (.iload_n 0, 1) := by decide +kernel
theorem dX11_commonDivisor_1 : decode cX11_commonDivisor 1 = .ok (.istore_n 2, 1) := by decide +kernel
theorem dX11_commonDivisor_2 : decode cX11_commonDivisor 2 = .ok (.iload_n 1, 1) := by decide +kernel
theorem dX11_commonDivisor_3 : decode cX11_commonDivisor 3 = .ok (.istore_n 3, 1) := by decide +kernel
theorem dX11_commonDivisor_4 : decode cX11_commonDivisor 4 = .ok (.iconst 0, 1) := by decide +kernel
theorem dX11_commonDivisor_5 : decode cX11_commonDivisor 5 = .ok (.istore 4, 2) := by decide +kernel
theorem dX11_commonDivisor_7 : decode cX11_commonDivisor 7 = .ok (.iload 4, 2) := by decide +kernel
theorem dX11_commonDivisor_9 : decode cX11_commonDivisor 9 = .ok (.bipush 64, 2) := by decide +kernel
theorem dX11_commonDivisor_11 : decode cX11_commonDivisor 11 = .ok (.if_icmp .ge 23, 3) := by decide +kernel
theorem dX11_commonDivisor_14 : decode cX11_commonDivisor 14 = .ok (.iload_n 3, 1) := by decide +kernel
theorem dX11_commonDivisor_15 : decode cX11_commonDivisor 15 = .ok (.ifCond .eq 19, 3) := by decide +kernel
theorem dX11_commonDivisor_18 : decode cX11_commonDivisor 18 = .ok (.iload_n 2, 1) := by decide +kernel
theorem dX11_commonDivisor_19 : decode cX11_commonDivisor 19 = .ok (.iload_n 3, 1) := by decide +kernel
theorem dX11_commonDivisor_20 : decode cX11_commonDivisor 20 = .ok (.irem, 1) := by decide +kernel
theorem dX11_commonDivisor_21 : decode cX11_commonDivisor 21 = .ok (.istore 5, 2) := by decide +kernel
theorem dX11_commonDivisor_23 : decode cX11_commonDivisor 23 = .ok (.iload_n 3, 1) := by decide +kernel
theorem dX11_commonDivisor_24 : decode cX11_commonDivisor 24 = .ok (.istore_n 2, 1) := by decide +kernel
theorem dX11_commonDivisor_25 : decode cX11_commonDivisor 25 = .ok (.iload 5, 2) := by decide +kernel
theorem dX11_commonDivisor_27 : decode cX11_commonDivisor 27 = .ok (.istore_n 3, 1) := by decide +kernel
theorem dX11_commonDivisor_28 : decode cX11_commonDivisor 28 = .ok (.iinc 4 1, 3) := by decide +kernel
theorem dX11_commonDivisor_31 : decode cX11_commonDivisor 31 = .ok (.goto (-24), 3) := by decide +kernel
theorem dX11_commonDivisor_34 : decode cX11_commonDivisor 34 = .ok (.iconst 1, 1) := by decide +kernel
theorem dX11_commonDivisor_35 : decode cX11_commonDivisor 35 = .ok (.iload_n 2, 1) := by decide +kernel
theorem dX11_commonDivisor_36 : decode cX11_commonDivisor 36 = .ok (.invokestatic 298, 3) := by decide +kernel
theorem dX11_commonDivisor_39 : decode cX11_commonDivisor 39 = .ok (.ireturn, 1) := by decide +kernel
theorem dX11_costKey_0 : decode cX11_costKey 0 = .ok (.iload_n 0, 1) := by decide +kernel
theorem dX11_costKey_1 : decode cX11_costKey 1 = .ok (.i2l, 1) := by decide +kernel
theorem dX11_costKey_2 : decode cX11_costKey 2 = .ok (.bipush 30, 2) := by decide +kernel
theorem dX11_costKey_4 : decode cX11_costKey 4 = .ok (.lshl, 1) := by decide +kernel
theorem dX11_costKey_5 : decode cX11_costKey 5 = .ok (.lreturn, 1) := by decide +kernel
theorem dX11_wordKey_0 : decode cX11_wordKey 0 = .ok (.iload_n 1, 1) := by decide +kernel
theorem dX11_wordKey_1 : decode cX11_wordKey 1 = .ok (.i2l, 1) := by decide +kernel
theorem dX11_wordKey_2 : decode cX11_wordKey 2 = .ok (.bipush 6, 2) := by decide +kernel
theorem dX11_wordKey_4 : decode cX11_wordKey 4 = .ok (.iconst 4, 1) := by decide +kernel
theorem dX11_wordKey_5 : decode cX11_wordKey 5 = .ok (.iconst 5, 1) := by decide +kernel
theorem dX11_wordKey_6 : decode cX11_wordKey 6 = .ok (.iload_n 0, 1) := by decide +kernel
theorem dX11_wordKey_7 : decode cX11_wordKey 7 = .ok (.isub, 1) := by decide +kernel
theorem dX11_wordKey_8 : decode cX11_wordKey 8 = .ok (.imul, 1) := by decide +kernel
theorem dX11_wordKey_9 : decode cX11_wordKey 9 = .ok (.iadd, 1) := by decide +kernel
theorem dX11_wordKey_10 : decode cX11_wordKey 10 = .ok (.lshl, 1) := by decide +kernel
theorem dX11_wordKey_11 : decode cX11_wordKey 11 = .ok (.lreturn, 1) := by decide +kernel
theorem dX11_turnKey_0 : decode cX11_turnKey 0 = .ok (.lconst 1, 1) := by decide +kernel
theorem dX11_turnKey_1 : decode cX11_turnKey 1 = .ok (.iconst 5, 1) := by decide +kernel
theorem dX11_turnKey_2 : decode cX11_turnKey 2 = .ok (.iload_n 0, 1) := by decide +kernel
theorem dX11_turnKey_3 : decode cX11_turnKey 3 = .ok (.isub, 1) := by decide +kernel
theorem dX11_turnKey_4 : decode cX11_turnKey 4 = .ok (.lshl, 1) := by decide +kernel
theorem dX11_turnKey_5 : decode cX11_turnKey 5 = .ok (.lreturn, 1) := by decide +kernel
theorem dX11_costIn_0 : decode cX11_costIn 0 = .ok (.lload_n 0, 1) := by decide +kernel
theorem dX11_costIn_1 : decode cX11_costIn 1 = .ok (.bipush 30, 2) := by decide +kernel
theorem dX11_costIn_3 : decode cX11_costIn 3 = .ok (.lshr, 1) := by decide +kernel
theorem dX11_costIn_4 : decode cX11_costIn 4 = .ok (.l2i, 1) := by decide +kernel
theorem dX11_costIn_5 : decode cX11_costIn 5 = .ok (.ireturn, 1) := by decide +kernel
theorem dX11_wordIn_0 : decode cX11_wordIn 0 = .ok (.lload_n 0, 1) := by decide +kernel
theorem dX11_wordIn_1 : decode cX11_wordIn 1 = .ok (.bipush 6, 2) := by decide +kernel
theorem dX11_wordIn_3 : decode cX11_wordIn 3 = .ok (.iconst 4, 1) := by decide +kernel
theorem dX11_wordIn_4 : decode cX11_wordIn 4 = .ok (.iconst 5, 1) := by decide +kernel
theorem dX11_wordIn_5 : decode cX11_wordIn 5 = .ok (.iload_n 2, 1) := by decide +kernel
theorem dX11_wordIn_6 : decode cX11_wordIn 6 = .ok (.isub, 1) := by decide +kernel
theorem dX11_wordIn_7 : decode cX11_wordIn 7 = .ok (.imul, 1) := by decide +kernel
theorem dX11_wordIn_8 : decode cX11_wordIn 8 = .ok (.iadd, 1) := by decide +kernel
theorem dX11_wordIn_9 : decode cX11_wordIn 9 = .ok (.lshr, 1) := by decide +kernel
theorem dX11_wordIn_10 : decode cX11_wordIn 10 = .ok (.l2i, 1) := by decide +kernel
theorem dX11_wordIn_11 : decode cX11_wordIn 11 = .ok (.bipush 15, 2) := by decide +kernel
theorem dX11_wordIn_13 : decode cX11_wordIn 13 = .ok (.iand, 1) := by decide +kernel
theorem dX11_wordIn_14 : decode cX11_wordIn 14 = .ok (.ireturn, 1) := by decide +kernel
theorem dX11_turnsIn_0 : decode cX11_turnsIn 0 = .ok (.lload_n 0, 1) := by decide +kernel
theorem dX11_turnsIn_1 : decode cX11_turnsIn 1 = .ok (.iload_n 2, 1) := by decide +kernel
theorem dX11_turnsIn_2 : decode cX11_turnsIn 2 = .ok (.invokestatic 437, 3) := by decide +kernel
theorem dX11_turnsIn_5 : decode cX11_turnsIn 5 = .ok (.land, 1) := by decide +kernel
theorem dX11_turnsIn_6 : decode cX11_turnsIn 6 = .ok (.lconst 0, 1) := by decide +kernel
theorem dX11_turnsIn_7 : decode cX11_turnsIn 7 = .ok (.lcmp, 1) := by decide +kernel
theorem dX11_turnsIn_8 : decode cX11_turnsIn 8 = .ok (.ifCond .eq 7, 3) := by decide +kernel
theorem dX11_turnsIn_11 : decode cX11_turnsIn 11 = .ok (.iconst 1, 1) := by decide +kernel
theorem dX11_turnsIn_12 : decode cX11_turnsIn 12 = .ok (.goto 4, 3) := by decide +kernel
theorem dX11_turnsIn_15 : decode cX11_turnsIn 15 = .ok (.iconst 0, 1) := by decide +kernel
theorem dX11_turnsIn_16 : decode cX11_turnsIn 16 = .ok (.ireturn, 1) := by decide +kernel
theorem dX11_linesIn_0 : decode cX11_linesIn 0 = .ok (.iconst 1, 1) := by decide +kernel
theorem dX11_linesIn_1 : decode cX11_linesIn 1 = .ok (.lload_n 0, 1) := by decide +kernel
theorem dX11_linesIn_2 : decode cX11_linesIn 2 = .ok (.ldc2_w 441, 3) := by decide +kernel
theorem dX11_linesIn_5 : decode cX11_linesIn 5 = .ok (.land, 1) := by decide +kernel
theorem dX11_linesIn_6 : decode cX11_linesIn 6 = .ok (.invokestatic 443, 3) := by decide +kernel
theorem dX11_linesIn_9 : decode cX11_linesIn 9 = .ok (.iadd, 1) := by decide +kernel
theorem dX11_linesIn_10 : decode cX11_linesIn 10 = .ok (.ireturn, 1) := by decide +kernel
theorem dX11_toldIn_0 : decode cX11_toldIn 0 = .ok (.iload_n 3, 1) := by decide +kernel
theorem dX11_toldIn_1 : decode cX11_toldIn 1 = .ok (.bipush 9, 2) := by decide +kernel
theorem dX11_toldIn_3 : decode cX11_toldIn 3 = .ok (.if_icmp .ge 9, 3) := by decide +kernel
theorem dX11_toldIn_6 : decode cX11_toldIn 6 = .ok (.iload_n 3, 1) := by decide +kernel
theorem dX11_toldIn_7 : decode cX11_toldIn 7 = .ok (.iconst 3, 1) := by decide +kernel
theorem dX11_toldIn_8 : decode cX11_toldIn 8 = .ok (.isub, 1) := by decide +kernel
theorem dX11_toldIn_9 : decode cX11_toldIn 9 = .ok (.goto 7, 3) := by decide +kernel
theorem dX11_toldIn_12 : decode cX11_toldIn 12 = .ok (.iload_n 3, 1) := by decide +kernel
theorem dX11_toldIn_13 : decode cX11_toldIn 13 = .ok (.bipush 9, 2) := by decide +kernel
theorem dX11_toldIn_15 : decode cX11_toldIn 15 = .ok (.isub, 1) := by decide +kernel
theorem dX11_toldIn_16 : decode cX11_toldIn 16 = .ok (.istore 4, 2) := by decide +kernel
theorem dX11_toldIn_18 : decode cX11_toldIn 18 = .ok (.iload_n 3, 1) := by decide +kernel
theorem dX11_toldIn_19 : decode cX11_toldIn 19 = .ok (.iconst 3, 1) := by decide +kernel
theorem dX11_toldIn_20 : decode cX11_toldIn 20 = .ok (.bipush 14, 2) := by decide +kernel
theorem dX11_toldIn_22 : decode cX11_toldIn 22 = .ok (.invokestatic 104, 3) := by decide +kernel
theorem dX11_toldIn_25 : decode cX11_toldIn 25 = .ok (.ifCond .eq 15, 3) := by decide +kernel
theorem dX11_toldIn_28 : decode cX11_toldIn 28 = .ok (.iload 4, 2) := by decide +kernel
theorem dX11_toldIn_30 : decode cX11_toldIn 30 = .ok (.aload_n 0, 1) := by decide +kernel
theorem dX11_toldIn_31 : decode cX11_toldIn 31 = .ok (.getfield 12, 3) := by decide +kernel
theorem dX11_toldIn_34 : decode cX11_toldIn 34 = .ok (.getfield 231, 3) := by decide +kernel
theorem dX11_toldIn_37 : decode cX11_toldIn 37 = .ok (.if_icmp .lt 5, 3) := by decide +kernel
theorem dX11_toldIn_40 : decode cX11_toldIn 40 = .ok (.iconst (-1), 1) := by decide +kernel
theorem dX11_toldIn_41 : decode cX11_toldIn 41 = .ok (.ireturn, 1) := by decide +kernel
theorem dX11_toldIn_42 : decode cX11_toldIn 42 = .ok (.iload_n 3, 1) := by decide +kernel
theorem dX11_toldIn_43 : decode cX11_toldIn 43 = .ok (.bipush 9, 2) := by decide +kernel
theorem dX11_toldIn_45 : decode cX11_toldIn 45 = .ok (.if_icmp .ge 10, 3) := by decide +kernel
theorem dX11_toldIn_48 : decode cX11_toldIn 48 = .ok (.lload_n 1, 1) := by decide +kernel
theorem dX11_toldIn_49 : decode cX11_toldIn 49 = .ok (.iload 4, 2) := by decide +kernel
theorem dX11_toldIn_51 : decode cX11_toldIn 51 = .ok (.invokestatic 448, 3) := by decide +kernel
theorem dX11_toldIn_54 : decode cX11_toldIn 54 = .ok (.ireturn, 1) := by decide +kernel
theorem dX11_toldIn_55 : decode cX11_toldIn 55 = .ok (.lload_n 1, 1) := by decide +kernel
theorem dX11_toldIn_56 : decode cX11_toldIn 56 = .ok (.iload 4, 2) := by decide +kernel
theorem dX11_toldIn_58 : decode cX11_toldIn 58 = .ok (.invokestatic 451, 3) := by decide +kernel
theorem dX11_toldIn_61 : decode cX11_toldIn 61 = .ok (.ifCond .eq 7, 3) := by decide +kernel
theorem dX11_toldIn_64 : decode cX11_toldIn 64 = .ok (.iconst 1, 1) := by decide +kernel
theorem dX11_toldIn_65 : decode cX11_toldIn 65 = .ok (.goto 4, 3) := by decide +kernel
theorem dX11_toldIn_68 : decode cX11_toldIn 68 = .ok (.iconst 0, 1) := by decide +kernel
theorem dX11_toldIn_69 : decode cX11_toldIn 69 = .ok (.ireturn, 1) := by decide +kernel
theorem dX12_lies_0 : decode cX12_lies 0 = .ok (.iload_n 0, 1) := by decide +kernel
theorem dX12_lies_1 : decode cX12_lies 1 = .ok (.iload_n 1, 1) := by decide +kernel
theorem dX12_lies_2 : decode cX12_lies 2 = .ok (.if_icmp .lt 12, 3) := by decide +kernel
theorem dX12_lies_5 : decode cX12_lies 5 = .ok (.iload_n 0, 1) := by decide +kernel
theorem dX12_lies_6 : decode cX12_lies 6 = .ok (.iload_n 2, 1) := by decide +kernel
theorem dX12_lies_7 : decode cX12_lies 7 = .ok (.if_icmp .gt 7, 3) := by decide +kernel
theorem dX12_lies_10 : decode cX12_lies 10 = .ok (.iconst 1, 1) := by decide +kernel
theorem dX12_lies_11 : decode cX12_lies 11 = .ok (.goto 4, 3) := by decide +kernel
theorem dX12_lies_14 : decode cX12_lies 14 = .ok (.iconst 0, 1) := by decide +kernel
theorem dX12_lies_15 : decode cX12_lies 15 = .ok (.ireturn, 1) := by decide +kernel
theorem dX12_refuses_0 : decode cX12_refuses 0 = .ok (.aload_n 0, 1) := by decide +kernel
theorem dX12_refuses_1 : decode cX12_refuses 1 = .ok (.iload_n 1, 1) := by decide +kernel
theorem dX12_refuses_2 : decode cX12_refuses 2 = .ok (.putfield 3, 3) := by decide +kernel
theorem dX12_refuses_5 : decode cX12_refuses 5 = .ok (.aload_n 0, 1) := by decide +kernel
theorem dX12_refuses_6 : decode cX12_refuses 6 = .ok (.getfield 7, 3) := by decide +kernel
theorem dX12_refuses_9 : decode cX12_refuses 9 = .ok (.iload_n 1, 1) := by decide +kernel
theorem dX12_refuses_10 : decode cX12_refuses 10 = .ok (.ineg, 1) := by decide +kernel
theorem dX12_refuses_11 : decode cX12_refuses 11 = .ok (.dup2, 1) := by decide +kernel
theorem dX12_refuses_12 : decode cX12_refuses 12 = .ok (.iaload, 1) := by decide +kernel
theorem dX12_refuses_13 : decode cX12_refuses 13 = .ok (.iconst 1, 1) := by decide +kernel
theorem dX12_refuses_14 : decode cX12_refuses 14 = .ok (.iadd, 1) := by decide +kernel
theorem dX12_refuses_15 : decode cX12_refuses 15 = .ok (.iastore, 1) := by decide +kernel
theorem dX12_refuses_16 : decode cX12_refuses 16 = .ok (.iload_n 1, 1) := by decide +kernel
theorem dX12_refuses_17 : decode cX12_refuses 17 = .ok (.ireturn, 1) := by decide +kernel
theorem dX12_good_0 : decode cX12_good 0 = .ok (.aload_n 0, 1) := by decide +kernel
theorem dX12_good_1 : decode cX12_good 1 = .ok (.iconst 0, 1) := by decide +kernel
theorem dX12_good_2 : decode cX12_good 2 = .ok (.putfield 3, 3) := by decide +kernel
theorem dX12_good_5 : decode cX12_good 5 = .ok (.iload_n 1, 1) := by decide +kernel
theorem dX12_good_6 : decode cX12_good 6 = .ok (.ireturn, 1) := by decide +kernel
theorem dX12_settled_0 : decode cX12_settled 0 = .ok (.aload_n 0, 1) := by decide +kernel
theorem dX12_settled_1 : decode cX12_settled 1 = .ok (.iconst 0, 1) := by decide +kernel
theorem dX12_settled_2 : decode cX12_settled 2 = .ok (.putfield 11, 3) := by decide +kernel
theorem dX12_settled_5 : decode cX12_settled 5 = .ok (.aload_n 0, 1) := by decide +kernel
theorem dX12_settled_6 : decode cX12_settled 6 = .ok (.iload_n 1, 1) := by decide +kernel
theorem dX12_settled_7 : decode cX12_settled 7 = .ok (.invokevirtual 14, 3) := by decide +kernel
theorem dX12_settled_10 : decode cX12_settled 10 = .ok (.ireturn, 1) := by decide +kernel
theorem dX12_isIn_0 : decode cX12_isIn 0 = .ok (.iload_n 0, 1) := by decide +kernel
theorem dX12_isIn_1 : decode cX12_isIn 1 = .ok (.iload_n 1, 1) := by decide +kernel
theorem dX12_isIn_2 : decode cX12_isIn 2 = .ok (.ishr, 1) := by decide +kernel
theorem dX12_isIn_3 : decode cX12_isIn 3 = .ok (.iconst 1, 1) := by decide +kernel
theorem dX12_isIn_4 : decode cX12_isIn 4 = .ok (.iand, 1) := by decide +kernel
theorem dX12_isIn_5 : decode cX12_isIn 5 = .ok (.iconst 1, 1) := by decide +kernel
theorem dX12_isIn_6 : decode cX12_isIn 6 = .ok (.if_icmp .ne 7, 3) := by decide +kernel
theorem dX12_isIn_9 : decode cX12_isIn 9 = .ok (.iconst 1, 1) := by decide +kernel
theorem dX12_isIn_10 : decode cX12_isIn 10 = .ok (.goto 4, 3) := by decide +kernel
theorem dX12_isIn_13 : decode cX12_isIn 13 = .ok (.iconst 0, 1) := by decide +kernel
theorem dX12_isIn_14 : decode cX12_isIn 14 = .ok (.ireturn, 1) := by decide +kernel
theorem dX12_ones_0 : decode cX12_ones 0 = .ok (.iconst 0, 1) := by decide +kernel
theorem dX12_ones_1 : decode cX12_ones 1 = .ok (.istore_n 1, 1) := by decide +kernel
theorem dX12_ones_2 : decode cX12_ones 2 = .ok (.iconst 0, 1) := by decide +kernel
theorem dX12_ones_3 : decode cX12_ones 3 = .ok (.istore_n 2, 1) := by decide +kernel
theorem dX12_ones_4 : decode cX12_ones 4 = .ok (.iload_n 2, 1) := by decide +kernel
theorem dX12_ones_5 : decode cX12_ones 5 = .ok (.bipush 8, 2) := by decide +kernel
theorem dX12_ones_7 : decode cX12_ones 7 = .ok (.if_icmp .ge 17, 3) := by decide +kernel
theorem dX12_ones_10 : decode cX12_ones 10 = .ok (.iload_n 1, 1) := by decide +kernel
theorem dX12_ones_11 : decode cX12_ones 11 = .ok (.iload_n 0, 1) := by decide +kernel
theorem dX12_ones_12 : decode cX12_ones 12 = .ok (.iload_n 2, 1) := by decide +kernel
theorem dX12_ones_13 : decode cX12_ones 13 = .ok (.ishr, 1) := by decide +kernel
theorem dX12_ones_14 : decode cX12_ones 14 = .ok (.iconst 1, 1) := by decide +kernel
theorem dX12_ones_15 : decode cX12_ones 15 = .ok (.iand, 1) := by decide +kernel
theorem dX12_ones_16 : decode cX12_ones 16 = .ok (.iadd, 1) := by decide +kernel
theorem dX12_ones_17 : decode cX12_ones 17 = .ok (.istore_n 1, 1) := by decide +kernel
theorem dX12_ones_18 : decode cX12_ones 18 = .ok (.iinc 2 1, 3) := by decide +kernel
theorem dX12_ones_21 : decode cX12_ones 21 = .ok (.goto (-17), 3) := by decide +kernel
theorem dX12_ones_24 : decode cX12_ones 24 = .ok (.iload_n 1, 1) := by decide +kernel
theorem dX12_ones_25 : decode cX12_ones 25 = .ok (.ireturn, 1) := by decide +kernel
theorem dX12_greater_0 : decode cX12_greater 0 = .ok (.iload_n 0, 1) := by decide +kernel
theorem dX12_greater_1 : decode cX12_greater 1 = .ok (.iload_n 1, 1) := by decide +kernel
theorem dX12_greater_2 : decode cX12_greater 2 = .ok (.if_icmp .le 7, 3) := by decide +kernel
theorem dX12_greater_5 : decode cX12_greater 5 = .ok (.iload_n 0, 1) := by decide +kernel
theorem dX12_greater_6 : decode cX12_greater 6 = .ok (.goto 4, 3) := by decide +kernel
theorem dX12_greater_9 : decode cX12_greater 9 = .ok (.iload_n 1, 1) := by decide +kernel
theorem dX12_greater_10 : decode cX12_greater 10 = .ok (.ireturn, 1) := by decide +kernel
theorem dX12_common_0 : decode cX12_common 0 = .ok (.lload_n 0, 1) := by decide +kernel
theorem dX12_common_1 : decode cX12_common 1 = .ok (.lstore 4, 2) := by decide +kernel
theorem dX12_common_3 : decode cX12_common 3 = .ok (.lload_n 2, 1) := by decide +kernel
theorem dX12_common_4 : decode cX12_common 4 = .ok (.lstore 6, 2) := by decide +kernel
theorem dX12_common_6 : decode cX12_common 6 = .ok (.lload 6, 2) := by decide +kernel
theorem dX12_common_8 : decode cX12_common 8 = .ok (.lconst 0, 1) := by decide +kernel
theorem dX12_common_9 : decode cX12_common 9 = .ok (.lcmp, 1) := by decide +kernel
theorem dX12_common_10 : decode cX12_common 10 = .ok (.ifCond .eq 21, 3) := by decide +kernel
theorem dX12_common_13 : decode cX12_common 13 = .ok (.lload 4, 2) := by decide +kernel
theorem dX12_common_15 : decode cX12_common 15 = .ok (.lload 6, 2) := by decide +kernel
theorem dX12_common_17 : decode cX12_common 17 = .ok (.lrem, 1) := by decide +kernel
theorem dX12_common_18 : decode cX12_common 18 = .ok (.lstore 8, 2) := by decide +kernel
theorem dX12_common_20 : decode cX12_common 20 = .ok (.lload 6, 2) := by decide +kernel
theorem dX12_common_22 : decode cX12_common 22 = .ok (.lstore 4, 2) := by decide +kernel
theorem dX12_common_24 : decode cX12_common 24 = .ok (.lload 8, 2) := by decide +kernel
theorem dX12_common_26 : decode cX12_common 26 = .ok (.lstore 6, 2) := by decide +kernel
theorem dX12_common_28 : decode cX12_common 28 = .ok (.goto (-22), 3) := by decide +kernel
theorem dX12_common_31 : decode cX12_common 31 = .ok (.lload 4, 2) := by decide +kernel
theorem dX12_common_33 : decode cX12_common 33 = .ok (.lreturn, 1) := by decide +kernel
theorem dX12_init_0 : decode cX12_init 0 = .ok (.aload_n 0, 1) := by decide +kernel
theorem dX12_init_1 : decode cX12_init 1 = .ok (.invokespecial 18, 3) := by decide +kernel
theorem dX12_init_4 : decode cX12_init 4 = .ok (.aload_n 0, 1) := by decide +kernel
theorem dX12_init_5 : decode cX12_init 5 = .ok (.bipush 7, 2) := by decide +kernel
theorem dX12_init_7 : decode cX12_init 7 = .ok (.newarray .int, 2) := by decide +kernel
theorem dX12_init_9 : decode cX12_init 9 = .ok (.putfield 7, 3) := by decide +kernel
theorem dX12_init_12 : decode cX12_init 12 = .ok (.aload_n 0, 1) := by decide +kernel
theorem dX12_init_13 : decode cX12_init 13 = .ok (.sipush 5929, 3) := by decide +kernel
theorem dX12_init_16 : decode cX12_init 16 = .ok (.newarray .int, 2) := by decide +kernel
theorem dX12_init_18 : decode cX12_init 18 = .ok (.putfield 24, 3) := by decide +kernel
theorem dX12_init_21 : decode cX12_init 21 = .ok (.aload_n 0, 1) := by decide +kernel
theorem dX12_init_22 : decode cX12_init 22 = .ok (.sipush 11858, 3) := by decide +kernel
theorem dX12_init_25 : decode cX12_init 25 = .ok (.newarray .int, 2) := by decide +kernel
theorem dX12_init_27 : decode cX12_init 27 = .ok (.putfield 27, 3) := by decide +kernel
theorem dX12_init_30 : decode cX12_init 30 = .ok (.aload_n 0, 1) := by decide +kernel
theorem dX12_init_31 : decode cX12_init 31 = .ok (.iconst 2, 1) := by decide +kernel
theorem dX12_init_32 : decode cX12_init 32 = .ok (.newarray .boolean, 2) := by decide +kernel
theorem dX12_init_34 : decode cX12_init 34 = .ok (.putfield 30, 3) := by decide +kernel
theorem dX12_init_37 : decode cX12_init 37 = .ok (.aload_n 0, 1) := by decide +kernel
theorem dX12_init_38 : decode cX12_init 38 = .ok (.bipush 26, 2) := by decide +kernel
theorem dX12_init_40 : decode cX12_init 40 = .ok (.newarray .int, 2) := by decide +kernel
theorem dX12_init_42 : decode cX12_init 42 = .ok (.putfield 34, 3) := by decide +kernel
theorem dX12_init_45 : decode cX12_init 45 = .ok (.aload_n 0, 1) := by decide +kernel
theorem dX12_init_46 : decode cX12_init 46 = .ok (.sipush 144, 3) := by decide +kernel
theorem dX12_init_49 : decode cX12_init 49 = .ok (.newarray .byte, 2) := by decide +kernel
theorem dX12_init_51 : decode cX12_init 51 = .ok (.dup, 1) := by decide +kernel
theorem dX12_init_52 : decode cX12_init 52 = .ok (.iconst 0, 1) := by decide +kernel
theorem dX12_init_53 : decode cX12_init 53 = .ok (.bipush 108, 2) := by decide +kernel
theorem dX12_init_55 : decode cX12_init 55 = .ok (.bastore, 1) := by decide +kernel
theorem dX12_init_56 : decode cX12_init 56 = .ok (.dup, 1) := by decide +kernel
theorem dX12_init_57 : decode cX12_init 57 = .ok (.iconst 1, 1) := by decide +kernel
theorem dX12_init_58 : decode cX12_init 58 = .ok (.bipush 111, 2) := by decide +kernel
theorem dX12_init_60 : decode cX12_init 60 = .ok (.bastore, 1) := by decide +kernel
theorem dX12_init_61 : decode cX12_init 61 = .ok (.dup, 1) := by decide +kernel
theorem dX12_init_62 : decode cX12_init 62 = .ok (.iconst 2, 1) := by decide +kernel
theorem dX12_init_63 : decode cX12_init 63 = .ok (.bipush 115, 2) := by decide +kernel
theorem dX12_init_65 : decode cX12_init 65 = .ok (.bastore, 1) := by decide +kernel
theorem dX12_init_66 : decode cX12_init 66 = .ok (.dup, 1) := by decide +kernel
theorem dX12_init_67 : decode cX12_init 67 = .ok (.iconst 3, 1) := by decide +kernel
theorem dX12_init_68 : decode cX12_init 68 = .ok (.bipush 101, 2) := by decide +kernel
theorem dX12_init_70 : decode cX12_init 70 = .ok (.bastore, 1) := by decide +kernel
theorem dX12_init_71 : decode cX12_init 71 = .ok (.dup, 1) := by decide +kernel
theorem dX12_init_72 : decode cX12_init 72 = .ok (.iconst 4, 1) := by decide +kernel
theorem dX12_init_73 : decode cX12_init 73 = .ok (.bipush 115, 2) := by decide +kernel
theorem dX12_init_75 : decode cX12_init 75 = .ok (.bastore, 1) := by decide +kernel
theorem dX12_init_76 : decode cX12_init 76 = .ok (.dup, 1) := by decide +kernel
theorem dX12_init_77 : decode cX12_init 77 = .ok (.iconst 5, 1) := by decide +kernel
theorem dX12_init_78 : decode cX12_init 78 = .ok (.bipush 32, 2) := by decide +kernel
theorem dX12_init_80 : decode cX12_init 80 = .ok (.bastore, 1) := by decide +kernel
theorem dX12_init_81 : decode cX12_init 81 = .ok (.dup, 1) := by decide +kernel
theorem dX12_init_82 : decode cX12_init 82 = .ok (.bipush 6, 2) := by decide +kernel
theorem dX12_init_84 : decode cX12_init 84 = .ok (.bipush 99, 2) := by decide +kernel
theorem dX12_init_86 : decode cX12_init 86 = .ok (.bastore, 1) := by decide +kernel
theorem dX12_init_87 : decode cX12_init 87 = .ok (.dup, 1) := by decide +kernel
theorem dX12_init_88 : decode cX12_init 88 = .ok (.bipush 7, 2) := by decide +kernel
theorem dX12_init_90 : decode cX12_init 90 = .ok (.bipush 111, 2) := by decide +kernel
theorem dX12_init_92 : decode cX12_init 92 = .ok (.bastore, 1) := by decide +kernel
theorem dX12_init_93 : decode cX12_init 93 = .ok (.dup, 1) := by decide +kernel
theorem dX12_init_94 : decode cX12_init 94 = .ok (.bipush 8, 2) := by decide +kernel
theorem dX12_init_96 : decode cX12_init 96 = .ok (.bipush 115, 2) := by decide +kernel
theorem dX12_init_98 : decode cX12_init 98 = .ok (.bastore, 1) := by decide +kernel
theorem dX12_init_99 : decode cX12_init 99 = .ok (.dup, 1) := by decide +kernel
theorem dX12_init_100 : decode cX12_init 100 = .ok (.bipush 9, 2) := by decide +kernel
theorem dX12_init_102 : decode cX12_init 102 = .ok (.bipush 116, 2) := by decide +kernel
theorem dX12_init_104 : decode cX12_init 104 = .ok (.bastore, 1) := by decide +kernel
theorem dX12_init_105 : decode cX12_init 105 = .ok (.dup, 1) := by decide +kernel
theorem dX12_init_106 : decode cX12_init 106 = .ok (.bipush 10, 2) := by decide +kernel
theorem dX12_init_108 : decode cX12_init 108 = .ok (.bipush 115, 2) := by decide +kernel
theorem dX12_init_110 : decode cX12_init 110 = .ok (.bastore, 1) := by decide +kernel
theorem dX12_init_111 : decode cX12_init 111 = .ok (.dup, 1) := by decide +kernel
theorem dX12_init_112 : decode cX12_init 112 = .ok (.bipush 11, 2) := by decide +kernel
theorem dX12_init_114 : decode cX12_init 114 = .ok (.bipush 32, 2) := by decide +kernel
theorem dX12_init_116 : decode cX12_init 116 = .ok (.bastore, 1) := by decide +kernel
theorem dX12_init_117 : decode cX12_init 117 = .ok (.dup, 1) := by decide +kernel
theorem dX12_init_118 : decode cX12_init 118 = .ok (.bipush 12, 2) := by decide +kernel
theorem dX12_init_120 : decode cX12_init 120 = .ok (.bipush 98, 2) := by decide +kernel
theorem dX12_init_122 : decode cX12_init 122 = .ok (.bastore, 1) := by decide +kernel
theorem dX12_init_123 : decode cX12_init 123 = .ok (.dup, 1) := by decide +kernel
theorem dX12_init_124 : decode cX12_init 124 = .ok (.bipush 13, 2) := by decide +kernel
theorem dX12_init_126 : decode cX12_init 126 = .ok (.bipush 97, 2) := by decide +kernel
theorem dX12_init_128 : decode cX12_init 128 = .ok (.bastore, 1) := by decide +kernel
theorem dX12_init_129 : decode cX12_init 129 = .ok (.dup, 1) := by decide +kernel
theorem dX12_init_130 : decode cX12_init 130 = .ok (.bipush 14, 2) := by decide +kernel
theorem dX12_init_132 : decode cX12_init 132 = .ok (.bipush 114, 2) := by decide +kernel
theorem dX12_init_134 : decode cX12_init 134 = .ok (.bastore, 1) := by decide +kernel
theorem dX12_init_135 : decode cX12_init 135 = .ok (.dup, 1) := by decide +kernel
theorem dX12_init_136 : decode cX12_init 136 = .ok (.bipush 15, 2) := by decide +kernel
theorem dX12_init_138 : decode cX12_init 138 = .ok (.bipush 115, 2) := by decide +kernel
theorem dX12_init_140 : decode cX12_init 140 = .ok (.bastore, 1) := by decide +kernel
theorem dX12_init_141 : decode cX12_init 141 = .ok (.dup, 1) := by decide +kernel
theorem dX12_init_142 : decode cX12_init 142 = .ok (.bipush 16, 2) := by decide +kernel
theorem dX12_init_144 : decode cX12_init 144 = .ok (.bipush 32, 2) := by decide +kernel
theorem dX12_init_146 : decode cX12_init 146 = .ok (.bastore, 1) := by decide +kernel
theorem dX12_init_147 : decode cX12_init 147 = .ok (.dup, 1) := by decide +kernel
theorem dX12_init_148 : decode cX12_init 148 = .ok (.bipush 17, 2) := by decide +kernel
theorem dX12_init_150 : decode cX12_init 150 = .ok (.bipush 105, 2) := by decide +kernel
theorem dX12_init_152 : decode cX12_init 152 = .ok (.bastore, 1) := by decide +kernel
theorem dX12_init_153 : decode cX12_init 153 = .ok (.dup, 1) := by decide +kernel
theorem dX12_init_154 : decode cX12_init 154 = .ok (.bipush 18, 2) := by decide +kernel
theorem dX12_init_156 : decode cX12_init 156 = .ok (.bipush 102, 2) := by decide +kernel
theorem dX12_init_158 : decode cX12_init 158 = .ok (.bastore, 1) := by decide +kernel
theorem dX12_init_159 : decode cX12_init 159 = .ok (.dup, 1) := by decide +kernel
theorem dX12_init_160 : decode cX12_init 160 = .ok (.bipush 19, 2) := by decide +kernel
theorem dX12_init_162 : decode cX12_init 162 = .ok (.bipush 32, 2) := by decide +kernel
theorem dX12_init_164 : decode cX12_init 164 = .ok (.bastore, 1) := by decide +kernel
theorem dX12_init_165 : decode cX12_init 165 = .ok (.dup, 1) := by decide +kernel
theorem dX12_init_166 : decode cX12_init 166 = .ok (.bipush 20, 2) := by decide +kernel
theorem dX12_init_168 : decode cX12_init 168 = .ok (.bipush 111, 2) := by decide +kernel
theorem dX12_init_170 : decode cX12_init 170 = .ok (.bastore, 1) := by decide +kernel
theorem dX12_init_171 : decode cX12_init 171 = .ok (.dup, 1) := by decide +kernel
theorem dX12_init_172 : decode cX12_init 172 = .ok (.bipush 21, 2) := by decide +kernel
theorem dX12_init_174 : decode cX12_init 174 = .ok (.bipush 114, 2) := by decide +kernel
theorem dX12_init_176 : decode cX12_init 176 = .ok (.bastore, 1) := by decide +kernel
theorem dX12_init_177 : decode cX12_init 177 = .ok (.dup, 1) := by decide +kernel
theorem dX12_init_178 : decode cX12_init 178 = .ok (.bipush 22, 2) := by decide +kernel
theorem dX12_init_180 : decode cX12_init 180 = .ok (.bipush 32, 2) := by decide +kernel
theorem dX12_init_182 : decode cX12_init 182 = .ok (.bastore, 1) := by decide +kernel
theorem dX12_init_183 : decode cX12_init 183 = .ok (.dup, 1) := by decide +kernel
theorem dX12_init_184 : decode cX12_init 184 = .ok (.bipush 23, 2) := by decide +kernel
theorem dX12_init_186 : decode cX12_init 186 = .ok (.bipush 97, 2) := by decide +kernel
theorem dX12_init_188 : decode cX12_init 188 = .ok (.bastore, 1) := by decide +kernel
theorem dX12_init_189 : decode cX12_init 189 = .ok (.dup, 1) := by decide +kernel
theorem dX12_init_190 : decode cX12_init 190 = .ok (.bipush 24, 2) := by decide +kernel
theorem dX12_init_192 : decode cX12_init 192 = .ok (.bipush 110, 2) := by decide +kernel
theorem dX12_init_194 : decode cX12_init 194 = .ok (.bastore, 1) := by decide +kernel
theorem dX12_init_195 : decode cX12_init 195 = .ok (.dup, 1) := by decide +kernel
theorem dX12_init_196 : decode cX12_init 196 = .ok (.bipush 25, 2) := by decide +kernel
theorem dX12_init_198 : decode cX12_init 198 = .ok (.bipush 100, 2) := by decide +kernel
theorem dX12_init_200 : decode cX12_init 200 = .ok (.bastore, 1) := by decide +kernel
theorem dX12_init_201 : decode cX12_init 201 = .ok (.dup, 1) := by decide +kernel
theorem dX12_init_202 : decode cX12_init 202 = .ok (.bipush 26, 2) := by decide +kernel
theorem dX12_init_204 : decode cX12_init 204 = .ok (.bipush 32, 2) := by decide +kernel
theorem dX12_init_206 : decode cX12_init 206 = .ok (.bastore, 1) := by decide +kernel
theorem dX12_init_207 : decode cX12_init 207 = .ok (.dup, 1) := by decide +kernel
theorem dX12_init_208 : decode cX12_init 208 = .ok (.bipush 27, 2) := by decide +kernel
theorem dX12_init_210 : decode cX12_init 210 = .ok (.bipush 110, 2) := by decide +kernel
theorem dX12_init_212 : decode cX12_init 212 = .ok (.bastore, 1) := by decide +kernel
theorem dX12_init_213 : decode cX12_init 213 = .ok (.dup, 1) := by decide +kernel
theorem dX12_init_214 : decode cX12_init 214 = .ok (.bipush 28, 2) := by decide +kernel
theorem dX12_init_216 : decode cX12_init 216 = .ok (.bipush 111, 2) := by decide +kernel
theorem dX12_init_218 : decode cX12_init 218 = .ok (.bastore, 1) := by decide +kernel
theorem dX12_init_219 : decode cX12_init 219 = .ok (.dup, 1) := by decide +kernel
theorem dX12_init_220 : decode cX12_init 220 = .ok (.bipush 29, 2) := by decide +kernel
theorem dX12_init_222 : decode cX12_init 222 = .ok (.bipush 116, 2) := by decide +kernel
theorem dX12_init_224 : decode cX12_init 224 = .ok (.bastore, 1) := by decide +kernel
theorem dX12_init_225 : decode cX12_init 225 = .ok (.dup, 1) := by decide +kernel
theorem dX12_init_226 : decode cX12_init 226 = .ok (.bipush 30, 2) := by decide +kernel
theorem dX12_init_228 : decode cX12_init 228 = .ok (.bipush 32, 2) := by decide +kernel
theorem dX12_init_230 : decode cX12_init 230 = .ok (.bastore, 1) := by decide +kernel
theorem dX12_init_231 : decode cX12_init 231 = .ok (.dup, 1) := by decide +kernel
theorem dX12_init_232 : decode cX12_init 232 = .ok (.bipush 31, 2) := by decide +kernel
theorem dX12_init_234 : decode cX12_init 234 = .ok (.bipush 119, 2) := by decide +kernel
theorem dX12_init_236 : decode cX12_init 236 = .ok (.bastore, 1) := by decide +kernel
theorem dX12_init_237 : decode cX12_init 237 = .ok (.dup, 1) := by decide +kernel
theorem dX12_init_238 : decode cX12_init 238 = .ok (.bipush 32, 2) := by decide +kernel
theorem dX12_init_240 : decode cX12_init 240 = .ok (.bipush 111, 2) := by decide +kernel
theorem dX12_init_242 : decode cX12_init 242 = .ok (.bastore, 1) := by decide +kernel
theorem dX12_init_243 : decode cX12_init 243 = .ok (.dup, 1) := by decide +kernel
theorem dX12_init_244 : decode cX12_init 244 = .ok (.bipush 33, 2) := by decide +kernel
theorem dX12_init_246 : decode cX12_init 246 = .ok (.bipush 114, 2) := by decide +kernel
theorem dX12_init_248 : decode cX12_init 248 = .ok (.bastore, 1) := by decide +kernel
theorem dX12_init_249 : decode cX12_init 249 = .ok (.dup, 1) := by decide +kernel
theorem dX12_init_250 : decode cX12_init 250 = .ok (.bipush 34, 2) := by decide +kernel
theorem dX12_init_252 : decode cX12_init 252 = .ok (.bipush 100, 2) := by decide +kernel
theorem dX12_init_254 : decode cX12_init 254 = .ok (.bastore, 1) := by decide +kernel
theorem dX12_init_255 : decode cX12_init 255 = .ok (.dup, 1) := by decide +kernel
theorem dX12_init_256 : decode cX12_init 256 = .ok (.bipush 35, 2) := by decide +kernel
theorem dX12_init_258 : decode cX12_init 258 = .ok (.bipush 32, 2) := by decide +kernel
theorem dX12_init_260 : decode cX12_init 260 = .ok (.bastore, 1) := by decide +kernel
theorem dX12_init_261 : decode cX12_init 261 = .ok (.dup, 1) := by decide +kernel
theorem dX12_init_262 : decode cX12_init 262 = .ok (.bipush 36, 2) := by decide +kernel
theorem dX12_init_264 : decode cX12_init 264 = .ok (.bipush 115, 2) := by decide +kernel
theorem dX12_init_266 : decode cX12_init 266 = .ok (.bastore, 1) := by decide +kernel
theorem dX12_init_267 : decode cX12_init 267 = .ok (.dup, 1) := by decide +kernel
theorem dX12_init_268 : decode cX12_init 268 = .ok (.bipush 37, 2) := by decide +kernel
theorem dX12_init_270 : decode cX12_init 270 = .ok (.bipush 101, 2) := by decide +kernel
theorem dX12_init_272 : decode cX12_init 272 = .ok (.bastore, 1) := by decide +kernel
theorem dX12_init_273 : decode cX12_init 273 = .ok (.dup, 1) := by decide +kernel
theorem dX12_init_274 : decode cX12_init 274 = .ok (.bipush 38, 2) := by decide +kernel
theorem dX12_init_276 : decode cX12_init 276 = .ok (.bipush 110, 2) := by decide +kernel
theorem dX12_init_278 : decode cX12_init 278 = .ok (.bastore, 1) := by decide +kernel
theorem dX12_init_279 : decode cX12_init 279 = .ok (.dup, 1) := by decide +kernel
theorem dX12_init_280 : decode cX12_init 280 = .ok (.bipush 39, 2) := by decide +kernel
theorem dX12_init_282 : decode cX12_init 282 = .ok (.bipush 115, 2) := by decide +kernel
theorem dX12_init_284 : decode cX12_init 284 = .ok (.bastore, 1) := by decide +kernel
theorem dX12_init_285 : decode cX12_init 285 = .ok (.dup, 1) := by decide +kernel
theorem dX12_init_286 : decode cX12_init 286 = .ok (.bipush 40, 2) := by decide +kernel
theorem dX12_init_288 : decode cX12_init 288 = .ok (.bipush 101, 2) := by decide +kernel
theorem dX12_init_290 : decode cX12_init 290 = .ok (.bastore, 1) := by decide +kernel
theorem dX12_init_291 : decode cX12_init 291 = .ok (.dup, 1) := by decide +kernel
theorem dX12_init_292 : decode cX12_init 292 = .ok (.bipush 41, 2) := by decide +kernel
theorem dX12_init_294 : decode cX12_init 294 = .ok (.bipush 32, 2) := by decide +kernel
theorem dX12_init_296 : decode cX12_init 296 = .ok (.bastore, 1) := by decide +kernel
theorem dX12_init_297 : decode cX12_init 297 = .ok (.dup, 1) := by decide +kernel
theorem dX12_init_298 : decode cX12_init 298 = .ok (.bipush 42, 2) := by decide +kernel
theorem dX12_init_300 : decode cX12_init 300 = .ok (.bipush 108, 2) := by decide +kernel
theorem dX12_init_302 : decode cX12_init 302 = .ok (.bastore, 1) := by decide +kernel
theorem dX12_init_303 : decode cX12_init 303 = .ok (.dup, 1) := by decide +kernel
theorem dX12_init_304 : decode cX12_init 304 = .ok (.bipush 43, 2) := by decide +kernel
theorem dX12_init_306 : decode cX12_init 306 = .ok (.bipush 111, 2) := by decide +kernel
theorem dX12_init_308 : decode cX12_init 308 = .ok (.bastore, 1) := by decide +kernel
theorem dX12_init_309 : decode cX12_init 309 = .ok (.dup, 1) := by decide +kernel
theorem dX12_init_310 : decode cX12_init 310 = .ok (.bipush 44, 2) := by decide +kernel
theorem dX12_init_312 : decode cX12_init 312 = .ok (.bipush 115, 2) := by decide +kernel
theorem dX12_init_314 : decode cX12_init 314 = .ok (.bastore, 1) := by decide +kernel
theorem dX12_init_315 : decode cX12_init 315 = .ok (.dup, 1) := by decide +kernel
theorem dX12_init_316 : decode cX12_init 316 = .ok (.bipush 45, 2) := by decide +kernel
theorem dX12_init_318 : decode cX12_init 318 = .ok (.bipush 115, 2) := by decide +kernel
theorem dX12_init_320 : decode cX12_init 320 = .ok (.bastore, 1) := by decide +kernel
theorem dX12_init_321 : decode cX12_init 321 = .ok (.dup, 1) := by decide +kernel
theorem dX12_init_322 : decode cX12_init 322 = .ok (.bipush 46, 2) := by decide +kernel
theorem dX12_init_324 : decode cX12_init 324 = .ok (.bipush 32, 2) := by decide +kernel
theorem dX12_init_326 : decode cX12_init 326 = .ok (.bastore, 1) := by decide +kernel
theorem dX12_init_327 : decode cX12_init 327 = .ok (.dup, 1) := by decide +kernel
theorem dX12_init_328 : decode cX12_init 328 = .ok (.bipush 47, 2) := by decide +kernel
theorem dX12_init_330 : decode cX12_init 330 = .ok (.bipush 116, 2) := by decide +kernel
theorem dX12_init_332 : decode cX12_init 332 = .ok (.bastore, 1) := by decide +kernel
theorem dX12_init_333 : decode cX12_init 333 = .ok (.dup, 1) := by decide +kernel
theorem dX12_init_334 : decode cX12_init 334 = .ok (.bipush 48, 2) := by decide +kernel
theorem dX12_init_336 : decode cX12_init 336 = .ok (.bipush 114, 2) := by decide +kernel
theorem dX12_init_338 : decode cX12_init 338 = .ok (.bastore, 1) := by decide +kernel
theorem dX12_init_339 : decode cX12_init 339 = .ok (.dup, 1) := by decide +kernel
theorem dX12_init_340 : decode cX12_init 340 = .ok (.bipush 49, 2) := by decide +kernel
theorem dX12_init_342 : decode cX12_init 342 = .ok (.bipush 117, 2) := by decide +kernel
theorem dX12_init_344 : decode cX12_init 344 = .ok (.bastore, 1) := by decide +kernel
theorem dX12_init_345 : decode cX12_init 345 = .ok (.dup, 1) := by decide +kernel
theorem dX12_init_346 : decode cX12_init 346 = .ok (.bipush 50, 2) := by decide +kernel
theorem dX12_init_348 : decode cX12_init 348 = .ok (.bipush 116, 2) := by decide +kernel
theorem dX12_init_350 : decode cX12_init 350 = .ok (.bastore, 1) := by decide +kernel
theorem dX12_init_351 : decode cX12_init 351 = .ok (.dup, 1) := by decide +kernel
theorem dX12_init_352 : decode cX12_init 352 = .ok (.bipush 51, 2) := by decide +kernel
theorem dX12_init_354 : decode cX12_init 354 = .ok (.bipush 104, 2) := by decide +kernel
theorem dX12_init_356 : decode cX12_init 356 = .ok (.bastore, 1) := by decide +kernel
theorem dX12_init_357 : decode cX12_init 357 = .ok (.dup, 1) := by decide +kernel
theorem dX12_init_358 : decode cX12_init 358 = .ok (.bipush 52, 2) := by decide +kernel
theorem dX12_init_360 : decode cX12_init 360 = .ok (.bipush 32, 2) := by decide +kernel
theorem dX12_init_362 : decode cX12_init 362 = .ok (.bastore, 1) := by decide +kernel
theorem dX12_init_363 : decode cX12_init 363 = .ok (.dup, 1) := by decide +kernel
theorem dX12_init_364 : decode cX12_init 364 = .ok (.bipush 53, 2) := by decide +kernel
theorem dX12_init_366 : decode cX12_init 366 = .ok (.bipush 108, 2) := by decide +kernel
theorem dX12_init_368 : decode cX12_init 368 = .ok (.bastore, 1) := by decide +kernel
theorem dX12_init_369 : decode cX12_init 369 = .ok (.dup, 1) := by decide +kernel
theorem dX12_init_370 : decode cX12_init 370 = .ok (.bipush 54, 2) := by decide +kernel
theorem dX12_init_372 : decode cX12_init 372 = .ok (.bipush 101, 2) := by decide +kernel
theorem dX12_init_374 : decode cX12_init 374 = .ok (.bastore, 1) := by decide +kernel
theorem dX12_init_375 : decode cX12_init 375 = .ok (.dup, 1) := by decide +kernel
theorem dX12_init_376 : decode cX12_init 376 = .ok (.bipush 55, 2) := by decide +kernel
theorem dX12_init_378 : decode cX12_init 378 = .ok (.bipush 110, 2) := by decide +kernel
theorem dX12_init_380 : decode cX12_init 380 = .ok (.bastore, 1) := by decide +kernel
theorem dX12_init_381 : decode cX12_init 381 = .ok (.dup, 1) := by decide +kernel
theorem dX12_init_382 : decode cX12_init 382 = .ok (.bipush 56, 2) := by decide +kernel
theorem dX12_init_384 : decode cX12_init 384 = .ok (.bipush 103, 2) := by decide +kernel
theorem dX12_init_386 : decode cX12_init 386 = .ok (.bastore, 1) := by decide +kernel
theorem dX12_init_387 : decode cX12_init 387 = .ok (.dup, 1) := by decide +kernel
theorem dX12_init_388 : decode cX12_init 388 = .ok (.bipush 57, 2) := by decide +kernel
theorem dX12_init_390 : decode cX12_init 390 = .ok (.bipush 116, 2) := by decide +kernel
theorem dX12_init_392 : decode cX12_init 392 = .ok (.bastore, 1) := by decide +kernel
theorem dX12_init_393 : decode cX12_init 393 = .ok (.dup, 1) := by decide +kernel
theorem dX12_init_394 : decode cX12_init 394 = .ok (.bipush 58, 2) := by decide +kernel
theorem dX12_init_396 : decode cX12_init 396 = .ok (.bipush 104, 2) := by decide +kernel
theorem dX12_init_398 : decode cX12_init 398 = .ok (.bastore, 1) := by decide +kernel
theorem dX12_init_399 : decode cX12_init 399 = .ok (.dup, 1) := by decide +kernel
theorem dX12_init_400 : decode cX12_init 400 = .ok (.bipush 59, 2) := by decide +kernel
theorem dX12_init_402 : decode cX12_init 402 = .ok (.bipush 32, 2) := by decide +kernel
theorem dX12_init_404 : decode cX12_init 404 = .ok (.bastore, 1) := by decide +kernel
theorem dX12_init_405 : decode cX12_init 405 = .ok (.dup, 1) := by decide +kernel
theorem dX12_init_406 : decode cX12_init 406 = .ok (.bipush 60, 2) := by decide +kernel
theorem dX12_init_408 : decode cX12_init 408 = .ok (.bipush 108, 2) := by decide +kernel
theorem dX12_init_410 : decode cX12_init 410 = .ok (.bastore, 1) := by decide +kernel
theorem dX12_init_411 : decode cX12_init 411 = .ok (.dup, 1) := by decide +kernel
theorem dX12_init_412 : decode cX12_init 412 = .ok (.bipush 61, 2) := by decide +kernel
theorem dX12_init_414 : decode cX12_init 414 = .ok (.bipush 105, 2) := by decide +kernel
theorem dX12_init_416 : decode cX12_init 416 = .ok (.bastore, 1) := by decide +kernel
theorem dX12_init_417 : decode cX12_init 417 = .ok (.dup, 1) := by decide +kernel
theorem dX12_init_418 : decode cX12_init 418 = .ok (.bipush 62, 2) := by decide +kernel
theorem dX12_init_420 : decode cX12_init 420 = .ok (.bipush 110, 2) := by decide +kernel
theorem dX12_init_422 : decode cX12_init 422 = .ok (.bastore, 1) := by decide +kernel
theorem dX12_init_423 : decode cX12_init 423 = .ok (.dup, 1) := by decide +kernel
theorem dX12_init_424 : decode cX12_init 424 = .ok (.bipush 63, 2) := by decide +kernel
theorem dX12_init_426 : decode cX12_init 426 = .ok (.bipush 101, 2) := by decide +kernel
theorem dX12_init_428 : decode cX12_init 428 = .ok (.bastore, 1) := by decide +kernel
theorem dX12_init_429 : decode cX12_init 429 = .ok (.dup, 1) := by decide +kernel
theorem dX12_init_430 : decode cX12_init 430 = .ok (.bipush 64, 2) := by decide +kernel
theorem dX12_init_432 : decode cX12_init 432 = .ok (.bipush 32, 2) := by decide +kernel
theorem dX12_init_434 : decode cX12_init 434 = .ok (.bastore, 1) := by decide +kernel
theorem dX12_init_435 : decode cX12_init 435 = .ok (.dup, 1) := by decide +kernel
theorem dX12_init_436 : decode cX12_init 436 = .ok (.bipush 65, 2) := by decide +kernel
theorem dX12_init_438 : decode cX12_init 438 = .ok (.bipush 119, 2) := by decide +kernel
theorem dX12_init_440 : decode cX12_init 440 = .ok (.bastore, 1) := by decide +kernel
theorem dX12_init_441 : decode cX12_init 441 = .ok (.dup, 1) := by decide +kernel
theorem dX12_init_442 : decode cX12_init 442 = .ok (.bipush 66, 2) := by decide +kernel
theorem dX12_init_444 : decode cX12_init 444 = .ok (.bipush 104, 2) := by decide +kernel
theorem dX12_init_446 : decode cX12_init 446 = .ok (.bastore, 1) := by decide +kernel
theorem dX12_init_447 : decode cX12_init 447 = .ok (.dup, 1) := by decide +kernel
theorem dX12_init_448 : decode cX12_init 448 = .ok (.bipush 67, 2) := by decide +kernel
theorem dX12_init_450 : decode cX12_init 450 = .ok (.bipush 105, 2) := by decide +kernel
theorem dX12_init_452 : decode cX12_init 452 = .ok (.bastore, 1) := by decide +kernel
theorem dX12_init_453 : decode cX12_init 453 = .ok (.dup, 1) := by decide +kernel
theorem dX12_init_454 : decode cX12_init 454 = .ok (.bipush 68, 2) := by decide +kernel
theorem dX12_init_456 : decode cX12_init 456 = .ok (.bipush 116, 2) := by decide +kernel
theorem dX12_init_458 : decode cX12_init 458 = .ok (.bastore, 1) := by decide +kernel
theorem dX12_init_459 : decode cX12_init 459 = .ok (.dup, 1) := by decide +kernel
theorem dX12_init_460 : decode cX12_init 460 = .ok (.bipush 69, 2) := by decide +kernel
theorem dX12_init_462 : decode cX12_init 462 = .ok (.bipush 101, 2) := by decide +kernel
theorem dX12_init_464 : decode cX12_init 464 = .ok (.bastore, 1) := by decide +kernel
theorem dX12_init_465 : decode cX12_init 465 = .ok (.dup, 1) := by decide +kernel
theorem dX12_init_466 : decode cX12_init 466 = .ok (.bipush 70, 2) := by decide +kernel
theorem dX12_init_468 : decode cX12_init 468 = .ok (.bipush 32, 2) := by decide +kernel
theorem dX12_init_470 : decode cX12_init 470 = .ok (.bastore, 1) := by decide +kernel
theorem dX12_init_471 : decode cX12_init 471 = .ok (.dup, 1) := by decide +kernel
theorem dX12_init_472 : decode cX12_init 472 = .ok (.bipush 71, 2) := by decide +kernel
theorem dX12_init_474 : decode cX12_init 474 = .ok (.bipush 109, 2) := by decide +kernel
theorem dX12_init_476 : decode cX12_init 476 = .ok (.bastore, 1) := by decide +kernel
theorem dX12_init_477 : decode cX12_init 477 = .ok (.dup, 1) := by decide +kernel
theorem dX12_init_478 : decode cX12_init 478 = .ok (.bipush 72, 2) := by decide +kernel
theorem dX12_init_480 : decode cX12_init 480 = .ok (.bipush 97, 2) := by decide +kernel
theorem dX12_init_482 : decode cX12_init 482 = .ok (.bastore, 1) := by decide +kernel
theorem dX12_init_483 : decode cX12_init 483 = .ok (.dup, 1) := by decide +kernel
theorem dX12_init_484 : decode cX12_init 484 = .ok (.bipush 73, 2) := by decide +kernel
theorem dX12_init_486 : decode cX12_init 486 = .ok (.bipush 110, 2) := by decide +kernel
theorem dX12_init_488 : decode cX12_init 488 = .ok (.bastore, 1) := by decide +kernel
theorem dX12_init_489 : decode cX12_init 489 = .ok (.dup, 1) := by decide +kernel
theorem dX12_init_490 : decode cX12_init 490 = .ok (.bipush 74, 2) := by decide +kernel
theorem dX12_init_492 : decode cX12_init 492 = .ok (.bipush 121, 2) := by decide +kernel
theorem dX12_init_494 : decode cX12_init 494 = .ok (.bastore, 1) := by decide +kernel
theorem dX12_init_495 : decode cX12_init 495 = .ok (.dup, 1) := by decide +kernel
theorem dX12_init_496 : decode cX12_init 496 = .ok (.bipush 75, 2) := by decide +kernel
theorem dX12_init_498 : decode cX12_init 498 = .ok (.bipush 32, 2) := by decide +kernel
theorem dX12_init_500 : decode cX12_init 500 = .ok (.bastore, 1) := by decide +kernel
theorem dX12_init_501 : decode cX12_init 501 = .ok (.dup, 1) := by decide +kernel
theorem dX12_init_502 : decode cX12_init 502 = .ok (.bipush 76, 2) := by decide +kernel
theorem dX12_init_504 : decode cX12_init 504 = .ok (.bipush 97, 2) := by decide +kernel
theorem dX12_init_506 : decode cX12_init 506 = .ok (.bastore, 1) := by decide +kernel
theorem dX12_init_507 : decode cX12_init 507 = .ok (.dup, 1) := by decide +kernel
theorem dX12_init_508 : decode cX12_init 508 = .ok (.bipush 77, 2) := by decide +kernel
theorem dX12_init_510 : decode cX12_init 510 = .ok (.bipush 108, 2) := by decide +kernel
theorem dX12_init_512 : decode cX12_init 512 = .ok (.bastore, 1) := by decide +kernel
theorem dX12_init_513 : decode cX12_init 513 = .ok (.dup, 1) := by decide +kernel
theorem dX12_init_514 : decode cX12_init 514 = .ok (.bipush 78, 2) := by decide +kernel
theorem dX12_init_516 : decode cX12_init 516 = .ok (.bipush 105, 2) := by decide +kernel
theorem dX12_init_518 : decode cX12_init 518 = .ok (.bastore, 1) := by decide +kernel
theorem dX12_init_519 : decode cX12_init 519 = .ok (.dup, 1) := by decide +kernel
theorem dX12_init_520 : decode cX12_init 520 = .ok (.bipush 79, 2) := by decide +kernel
theorem dX12_init_522 : decode cX12_init 522 = .ok (.bipush 107, 2) := by decide +kernel
theorem dX12_init_524 : decode cX12_init 524 = .ok (.bastore, 1) := by decide +kernel
theorem dX12_init_525 : decode cX12_init 525 = .ok (.dup, 1) := by decide +kernel
theorem dX12_init_526 : decode cX12_init 526 = .ok (.bipush 80, 2) := by decide +kernel
theorem dX12_init_528 : decode cX12_init 528 = .ok (.bipush 101, 2) := by decide +kernel
theorem dX12_init_530 : decode cX12_init 530 = .ok (.bastore, 1) := by decide +kernel
theorem dX12_init_531 : decode cX12_init 531 = .ok (.dup, 1) := by decide +kernel
theorem dX12_init_532 : decode cX12_init 532 = .ok (.bipush 81, 2) := by decide +kernel
theorem dX12_init_534 : decode cX12_init 534 = .ok (.bipush 32, 2) := by decide +kernel
theorem dX12_init_536 : decode cX12_init 536 = .ok (.bastore, 1) := by decide +kernel
theorem dX12_init_537 : decode cX12_init 537 = .ok (.dup, 1) := by decide +kernel
theorem dX12_init_538 : decode cX12_init 538 = .ok (.bipush 82, 2) := by decide +kernel
theorem dX12_init_540 : decode cX12_init 540 = .ok (.bipush 101, 2) := by decide +kernel
theorem dX12_init_542 : decode cX12_init 542 = .ok (.bastore, 1) := by decide +kernel
theorem dX12_init_543 : decode cX12_init 543 = .ok (.dup, 1) := by decide +kernel
theorem dX12_init_544 : decode cX12_init 544 = .ok (.bipush 83, 2) := by decide +kernel
theorem dX12_init_546 : decode cX12_init 546 = .ok (.bipush 99, 2) := by decide +kernel
theorem dX12_init_548 : decode cX12_init 548 = .ok (.bastore, 1) := by decide +kernel
theorem dX12_init_549 : decode cX12_init 549 = .ok (.dup, 1) := by decide +kernel
theorem dX12_init_550 : decode cX12_init 550 = .ok (.bipush 84, 2) := by decide +kernel
theorem dX12_init_552 : decode cX12_init 552 = .ok (.bipush 104, 2) := by decide +kernel
theorem dX12_init_554 : decode cX12_init 554 = .ok (.bastore, 1) := by decide +kernel
theorem dX12_init_555 : decode cX12_init 555 = .ok (.dup, 1) := by decide +kernel
theorem dX12_init_556 : decode cX12_init 556 = .ok (.bipush 85, 2) := by decide +kernel
theorem dX12_init_558 : decode cX12_init 558 = .ok (.bipush 111, 2) := by decide +kernel
theorem dX12_init_560 : decode cX12_init 560 = .ok (.bastore, 1) := by decide +kernel
theorem dX12_init_561 : decode cX12_init 561 = .ok (.dup, 1) := by decide +kernel
theorem dX12_init_562 : decode cX12_init 562 = .ok (.bipush 86, 2) := by decide +kernel
theorem dX12_init_564 : decode cX12_init 564 = .ok (.bipush 32, 2) := by decide +kernel
theorem dX12_init_566 : decode cX12_init 566 = .ok (.bastore, 1) := by decide +kernel
theorem dX12_init_567 : decode cX12_init 567 = .ok (.dup, 1) := by decide +kernel
theorem dX12_init_568 : decode cX12_init 568 = .ok (.bipush 87, 2) := by decide +kernel
theorem dX12_init_570 : decode cX12_init 570 = .ok (.bipush 115, 2) := by decide +kernel
theorem dX12_init_572 : decode cX12_init 572 = .ok (.bastore, 1) := by decide +kernel
theorem dX12_init_573 : decode cX12_init 573 = .ok (.dup, 1) := by decide +kernel
theorem dX12_init_574 : decode cX12_init 574 = .ok (.bipush 88, 2) := by decide +kernel
theorem dX12_init_576 : decode cX12_init 576 = .ok (.bipush 105, 2) := by decide +kernel
theorem dX12_init_578 : decode cX12_init 578 = .ok (.bastore, 1) := by decide +kernel
theorem dX12_init_579 : decode cX12_init 579 = .ok (.dup, 1) := by decide +kernel
theorem dX12_init_580 : decode cX12_init 580 = .ok (.bipush 89, 2) := by decide +kernel
theorem dX12_init_582 : decode cX12_init 582 = .ok (.bipush 122, 2) := by decide +kernel
theorem dX12_init_584 : decode cX12_init 584 = .ok (.bastore, 1) := by decide +kernel
theorem dX12_init_585 : decode cX12_init 585 = .ok (.dup, 1) := by decide +kernel
theorem dX12_init_586 : decode cX12_init 586 = .ok (.bipush 90, 2) := by decide +kernel
theorem dX12_init_588 : decode cX12_init 588 = .ok (.bipush 101, 2) := by decide +kernel
theorem dX12_init_590 : decode cX12_init 590 = .ok (.bastore, 1) := by decide +kernel
theorem dX12_init_591 : decode cX12_init 591 = .ok (.dup, 1) := by decide +kernel
theorem dX12_init_592 : decode cX12_init 592 = .ok (.bipush 91, 2) := by decide +kernel
theorem dX12_init_594 : decode cX12_init 594 = .ok (.bipush 32, 2) := by decide +kernel
theorem dX12_init_596 : decode cX12_init 596 = .ok (.bastore, 1) := by decide +kernel
theorem dX12_init_597 : decode cX12_init 597 = .ok (.dup, 1) := by decide +kernel
theorem dX12_init_598 : decode cX12_init 598 = .ok (.bipush 92, 2) := by decide +kernel
theorem dX12_init_600 : decode cX12_init 600 = .ok (.bipush 100, 2) := by decide +kernel
theorem dX12_init_602 : decode cX12_init 602 = .ok (.bastore, 1) := by decide +kernel
theorem dX12_init_603 : decode cX12_init 603 = .ok (.dup, 1) := by decide +kernel
theorem dX12_init_604 : decode cX12_init 604 = .ok (.bipush 93, 2) := by decide +kernel
theorem dX12_init_606 : decode cX12_init 606 = .ok (.bipush 97, 2) := by decide +kernel
theorem dX12_init_608 : decode cX12_init 608 = .ok (.bastore, 1) := by decide +kernel
theorem dX12_init_609 : decode cX12_init 609 = .ok (.dup, 1) := by decide +kernel
theorem dX12_init_610 : decode cX12_init 610 = .ok (.bipush 94, 2) := by decide +kernel
theorem dX12_init_612 : decode cX12_init 612 = .ok (.bipush 121, 2) := by decide +kernel
theorem dX12_init_614 : decode cX12_init 614 = .ok (.bastore, 1) := by decide +kernel
theorem dX12_init_615 : decode cX12_init 615 = .ok (.dup, 1) := by decide +kernel
theorem dX12_init_616 : decode cX12_init 616 = .ok (.bipush 95, 2) := by decide +kernel
theorem dX12_init_618 : decode cX12_init 618 = .ok (.bipush 32, 2) := by decide +kernel
theorem dX12_init_620 : decode cX12_init 620 = .ok (.bastore, 1) := by decide +kernel
theorem dX12_init_621 : decode cX12_init 621 = .ok (.dup, 1) := by decide +kernel
theorem dX12_init_622 : decode cX12_init 622 = .ok (.bipush 96, 2) := by decide +kernel
theorem dX12_init_624 : decode cX12_init 624 = .ok (.bipush 109, 2) := by decide +kernel
theorem dX12_init_626 : decode cX12_init 626 = .ok (.bastore, 1) := by decide +kernel
theorem dX12_init_627 : decode cX12_init 627 = .ok (.dup, 1) := by decide +kernel
theorem dX12_init_628 : decode cX12_init 628 = .ok (.bipush 97, 2) := by decide +kernel
theorem dX12_init_630 : decode cX12_init 630 = .ok (.bipush 111, 2) := by decide +kernel
theorem dX12_init_632 : decode cX12_init 632 = .ok (.bastore, 1) := by decide +kernel
theorem dX12_init_633 : decode cX12_init 633 = .ok (.dup, 1) := by decide +kernel
theorem dX12_init_634 : decode cX12_init 634 = .ok (.bipush 98, 2) := by decide +kernel
theorem dX12_init_636 : decode cX12_init 636 = .ok (.bipush 111, 2) := by decide +kernel
theorem dX12_init_638 : decode cX12_init 638 = .ok (.bastore, 1) := by decide +kernel
theorem dX12_init_639 : decode cX12_init 639 = .ok (.dup, 1) := by decide +kernel
theorem dX12_init_640 : decode cX12_init 640 = .ok (.bipush 99, 2) := by decide +kernel
theorem dX12_init_642 : decode cX12_init 642 = .ok (.bipush 100, 2) := by decide +kernel
theorem dX12_init_644 : decode cX12_init 644 = .ok (.bastore, 1) := by decide +kernel
theorem dX12_init_645 : decode cX12_init 645 = .ok (.dup, 1) := by decide +kernel
theorem dX12_init_646 : decode cX12_init 646 = .ok (.bipush 100, 2) := by decide +kernel
theorem dX12_init_648 : decode cX12_init 648 = .ok (.bipush 32, 2) := by decide +kernel
theorem dX12_init_650 : decode cX12_init 650 = .ok (.bastore, 1) := by decide +kernel
theorem dX12_init_651 : decode cX12_init 651 = .ok (.dup, 1) := by decide +kernel
theorem dX12_init_652 : decode cX12_init 652 = .ok (.bipush 101, 2) := by decide +kernel
theorem dX12_init_654 : decode cX12_init 654 = .ok (.bipush 119, 2) := by decide +kernel
theorem dX12_init_656 : decode cX12_init 656 = .ok (.bastore, 1) := by decide +kernel
theorem dX12_init_657 : decode cX12_init 657 = .ok (.dup, 1) := by decide +kernel
theorem dX12_init_658 : decode cX12_init 658 = .ok (.bipush 102, 2) := by decide +kernel
theorem dX12_init_660 : decode cX12_init 660 = .ok (.bipush 111, 2) := by decide +kernel
theorem dX12_init_662 : decode cX12_init 662 = .ok (.bastore, 1) := by decide +kernel
theorem dX12_init_663 : decode cX12_init 663 = .ok (.dup, 1) := by decide +kernel
theorem dX12_init_664 : decode cX12_init 664 = .ok (.bipush 103, 2) := by decide +kernel
theorem dX12_init_666 : decode cX12_init 666 = .ok (.bipush 114, 2) := by decide +kernel
theorem dX12_init_668 : decode cX12_init 668 = .ok (.bastore, 1) := by decide +kernel
theorem dX12_init_669 : decode cX12_init 669 = .ok (.dup, 1) := by decide +kernel
theorem dX12_init_670 : decode cX12_init 670 = .ok (.bipush 104, 2) := by decide +kernel
theorem dX12_init_672 : decode cX12_init 672 = .ok (.bipush 100, 2) := by decide +kernel
theorem dX12_init_674 : decode cX12_init 674 = .ok (.bastore, 1) := by decide +kernel
theorem dX12_init_675 : decode cX12_init 675 = .ok (.dup, 1) := by decide +kernel
theorem dX12_init_676 : decode cX12_init 676 = .ok (.bipush 105, 2) := by decide +kernel
theorem dX12_init_678 : decode cX12_init 678 = .ok (.bipush 115, 2) := by decide +kernel
theorem dX12_init_680 : decode cX12_init 680 = .ok (.bastore, 1) := by decide +kernel
theorem dX12_init_681 : decode cX12_init 681 = .ok (.dup, 1) := by decide +kernel
theorem dX12_init_682 : decode cX12_init 682 = .ok (.bipush 106, 2) := by decide +kernel
theorem dX12_init_684 : decode cX12_init 684 = .ok (.bipush 32, 2) := by decide +kernel
theorem dX12_init_686 : decode cX12_init 686 = .ok (.bastore, 1) := by decide +kernel
theorem dX12_init_687 : decode cX12_init 687 = .ok (.dup, 1) := by decide +kernel
theorem dX12_init_688 : decode cX12_init 688 = .ok (.bipush 107, 2) := by decide +kernel
theorem dX12_init_690 : decode cX12_init 690 = .ok (.bipush 108, 2) := by decide +kernel
theorem dX12_init_692 : decode cX12_init 692 = .ok (.bastore, 1) := by decide +kernel
theorem dX12_init_693 : decode cX12_init 693 = .ok (.dup, 1) := by decide +kernel
theorem dX12_init_694 : decode cX12_init 694 = .ok (.bipush 108, 2) := by decide +kernel
theorem dX12_init_696 : decode cX12_init 696 = .ok (.bipush 101, 2) := by decide +kernel
theorem dX12_init_698 : decode cX12_init 698 = .ok (.bastore, 1) := by decide +kernel
theorem dX12_init_699 : decode cX12_init 699 = .ok (.dup, 1) := by decide +kernel
theorem dX12_init_700 : decode cX12_init 700 = .ok (.bipush 109, 2) := by decide +kernel
theorem dX12_init_702 : decode cX12_init 702 = .ok (.bipush 102, 2) := by decide +kernel
theorem dX12_init_704 : decode cX12_init 704 = .ok (.bastore, 1) := by decide +kernel
theorem dX12_init_705 : decode cX12_init 705 = .ok (.dup, 1) := by decide +kernel
theorem dX12_init_706 : decode cX12_init 706 = .ok (.bipush 110, 2) := by decide +kernel
theorem dX12_init_708 : decode cX12_init 708 = .ok (.bipush 116, 2) := by decide +kernel
theorem dX12_init_710 : decode cX12_init 710 = .ok (.bastore, 1) := by decide +kernel
theorem dX12_init_711 : decode cX12_init 711 = .ok (.dup, 1) := by decide +kernel
theorem dX12_init_712 : decode cX12_init 712 = .ok (.bipush 111, 2) := by decide +kernel
theorem dX12_init_714 : decode cX12_init 714 = .ok (.bipush 32, 2) := by decide +kernel
theorem dX12_init_716 : decode cX12_init 716 = .ok (.bastore, 1) := by decide +kernel
theorem dX12_init_717 : decode cX12_init 717 = .ok (.dup, 1) := by decide +kernel
theorem dX12_init_718 : decode cX12_init 718 = .ok (.bipush 112, 2) := by decide +kernel
theorem dX12_init_720 : decode cX12_init 720 = .ok (.bipush 100, 2) := by decide +kernel
theorem dX12_init_722 : decode cX12_init 722 = .ok (.bastore, 1) := by decide +kernel
theorem dX12_init_723 : decode cX12_init 723 = .ok (.dup, 1) := by decide +kernel
theorem dX12_init_724 : decode cX12_init 724 = .ok (.bipush 113, 2) := by decide +kernel
theorem dX12_init_726 : decode cX12_init 726 = .ok (.bipush 111, 2) := by decide +kernel
theorem dX12_init_728 : decode cX12_init 728 = .ok (.bastore, 1) := by decide +kernel
theorem dX12_init_729 : decode cX12_init 729 = .ok (.dup, 1) := by decide +kernel
theorem dX12_init_730 : decode cX12_init 730 = .ok (.bipush 114, 2) := by decide +kernel
theorem dX12_init_732 : decode cX12_init 732 = .ok (.bipush 110, 2) := by decide +kernel
theorem dX12_init_734 : decode cX12_init 734 = .ok (.bastore, 1) := by decide +kernel
theorem dX12_init_735 : decode cX12_init 735 = .ok (.dup, 1) := by decide +kernel
theorem dX12_init_736 : decode cX12_init 736 = .ok (.bipush 115, 2) := by decide +kernel
theorem dX12_init_738 : decode cX12_init 738 = .ok (.bipush 101, 2) := by decide +kernel
theorem dX12_init_740 : decode cX12_init 740 = .ok (.bastore, 1) := by decide +kernel
theorem dX12_init_741 : decode cX12_init 741 = .ok (.dup, 1) := by decide +kernel
theorem dX12_init_742 : decode cX12_init 742 = .ok (.bipush 116, 2) := by decide +kernel
theorem dX12_init_744 : decode cX12_init 744 = .ok (.bipush 32, 2) := by decide +kernel
theorem dX12_init_746 : decode cX12_init 746 = .ok (.bastore, 1) := by decide +kernel
theorem dX12_init_747 : decode cX12_init 747 = .ok (.dup, 1) := by decide +kernel
theorem dX12_init_748 : decode cX12_init 748 = .ok (.bipush 117, 2) := by decide +kernel
theorem dX12_init_750 : decode cX12_init 750 = .ok (.bipush 98, 2) := by decide +kernel
theorem dX12_init_752 : decode cX12_init 752 = .ok (.bastore, 1) := by decide +kernel
theorem dX12_init_753 : decode cX12_init 753 = .ok (.dup, 1) := by decide +kernel
theorem dX12_init_754 : decode cX12_init 754 = .ok (.bipush 118, 2) := by decide +kernel
theorem dX12_init_756 : decode cX12_init 756 = .ok (.bipush 114, 2) := by decide +kernel
theorem dX12_init_758 : decode cX12_init 758 = .ok (.bastore, 1) := by decide +kernel
theorem dX12_init_759 : decode cX12_init 759 = .ok (.dup, 1) := by decide +kernel
theorem dX12_init_760 : decode cX12_init 760 = .ok (.bipush 119, 2) := by decide +kernel
theorem dX12_init_762 : decode cX12_init 762 = .ok (.bipush 111, 2) := by decide +kernel
theorem dX12_init_764 : decode cX12_init 764 = .ok (.bastore, 1) := by decide +kernel
theorem dX12_init_765 : decode cX12_init 765 = .ok (.dup, 1) := by decide +kernel
theorem dX12_init_766 : decode cX12_init 766 = .ok (.bipush 120, 2) := by decide +kernel
theorem dX12_init_768 : decode cX12_init 768 = .ok (.bipush 97, 2) := by decide +kernel
theorem dX12_init_770 : decode cX12_init 770 = .ok (.bastore, 1) := by decide +kernel
theorem dX12_init_771 : decode cX12_init 771 = .ok (.dup, 1) := by decide +kernel
theorem dX12_init_772 : decode cX12_init 772 = .ok (.bipush 121, 2) := by decide +kernel
theorem dX12_init_774 : decode cX12_init 774 = .ok (.bipush 100, 2) := by decide +kernel
theorem dX12_init_776 : decode cX12_init 776 = .ok (.bastore, 1) := by decide +kernel
theorem dX12_init_777 : decode cX12_init 777 = .ok (.dup, 1) := by decide +kernel
theorem dX12_init_778 : decode cX12_init 778 = .ok (.bipush 122, 2) := by decide +kernel
theorem dX12_init_780 : decode cX12_init 780 = .ok (.bipush 32, 2) := by decide +kernel
theorem dX12_init_782 : decode cX12_init 782 = .ok (.bastore, 1) := by decide +kernel
theorem dX12_init_783 : decode cX12_init 783 = .ok (.dup, 1) := by decide +kernel
theorem dX12_init_784 : decode cX12_init 784 = .ok (.bipush 123, 2) := by decide +kernel
theorem dX12_init_786 : decode cX12_init 786 = .ok (.bipush 115, 2) := by decide +kernel
theorem dX12_init_788 : decode cX12_init 788 = .ok (.bastore, 1) := by decide +kernel
theorem dX12_init_789 : decode cX12_init 789 = .ok (.dup, 1) := by decide +kernel
theorem dX12_init_790 : decode cX12_init 790 = .ok (.bipush 124, 2) := by decide +kernel
theorem dX12_init_792 : decode cX12_init 792 = .ok (.bipush 101, 2) := by decide +kernel
theorem dX12_init_794 : decode cX12_init 794 = .ok (.bastore, 1) := by decide +kernel
theorem dX12_init_795 : decode cX12_init 795 = .ok (.dup, 1) := by decide +kernel
theorem dX12_init_796 : decode cX12_init 796 = .ok (.bipush 125, 2) := by decide +kernel
theorem dX12_init_798 : decode cX12_init 798 = .ok (.bipush 116, 2) := by decide +kernel
theorem dX12_init_800 : decode cX12_init 800 = .ok (.bastore, 1) := by decide +kernel
theorem dX12_init_801 : decode cX12_init 801 = .ok (.dup, 1) := by decide +kernel
theorem dX12_init_802 : decode cX12_init 802 = .ok (.bipush 126, 2) := by decide +kernel
theorem dX12_init_804 : decode cX12_init 804 = .ok (.bipush 32, 2) := by decide +kernel
theorem dX12_init_806 : decode cX12_init 806 = .ok (.bastore, 1) := by decide +kernel
theorem dX12_init_807 : decode cX12_init 807 = .ok (.dup, 1) := by decide +kernel
theorem dX12_init_808 : decode cX12_init 808 = .ok (.bipush 127, 2) := by decide +kernel
theorem dX12_init_810 : decode cX12_init 810 = .ok (.bipush 116, 2) := by decide +kernel
theorem dX12_init_812 : decode cX12_init 812 = .ok (.bastore, 1) := by decide +kernel
theorem dX12_init_813 : decode cX12_init 813 = .ok (.dup, 1) := by decide +kernel
theorem dX12_init_814 : decode cX12_init 814 = .ok (.sipush 128, 3) := by decide +kernel
theorem dX12_init_817 : decode cX12_init 817 = .ok (.bipush 117, 2) := by decide +kernel
theorem dX12_init_819 : decode cX12_init 819 = .ok (.bastore, 1) := by decide +kernel
theorem dX12_init_820 : decode cX12_init 820 = .ok (.dup, 1) := by decide +kernel
theorem dX12_init_821 : decode cX12_init 821 = .ok (.sipush 129, 3) := by decide +kernel
theorem dX12_init_824 : decode cX12_init 824 = .ok (.bipush 114, 2) := by decide +kernel
theorem dX12_init_826 : decode cX12_init 826 = .ok (.bastore, 1) := by decide +kernel
theorem dX12_init_827 : decode cX12_init 827 = .ok (.dup, 1) := by decide +kernel
theorem dX12_init_828 : decode cX12_init 828 = .ok (.sipush 130, 3) := by decide +kernel
theorem dX12_init_831 : decode cX12_init 831 = .ok (.bipush 110, 2) := by decide +kernel
theorem dX12_init_833 : decode cX12_init 833 = .ok (.bastore, 1) := by decide +kernel
theorem dX12_init_834 : decode cX12_init 834 = .ok (.dup, 1) := by decide +kernel
theorem dX12_init_835 : decode cX12_init 835 = .ok (.sipush 131, 3) := by decide +kernel
theorem dX12_init_838 : decode cX12_init 838 = .ok (.bipush 32, 2) := by decide +kernel
theorem dX12_init_840 : decode cX12_init 840 = .ok (.bastore, 1) := by decide +kernel
theorem dX12_init_841 : decode cX12_init 841 = .ok (.dup, 1) := by decide +kernel
theorem dX12_init_842 : decode cX12_init 842 = .ok (.sipush 132, 3) := by decide +kernel
theorem dX12_init_845 : decode cX12_init 845 = .ok (.bipush 99, 2) := by decide +kernel
theorem dX12_init_847 : decode cX12_init 847 = .ok (.bastore, 1) := by decide +kernel
theorem dX12_init_848 : decode cX12_init 848 = .ok (.dup, 1) := by decide +kernel
theorem dX12_init_849 : decode cX12_init 849 = .ok (.sipush 133, 3) := by decide +kernel
theorem dX12_init_852 : decode cX12_init 852 = .ok (.bipush 108, 2) := by decide +kernel
theorem dX12_init_854 : decode cX12_init 854 = .ok (.bastore, 1) := by decide +kernel
theorem dX12_init_855 : decode cX12_init 855 = .ok (.dup, 1) := by decide +kernel
theorem dX12_init_856 : decode cX12_init 856 = .ok (.sipush 134, 3) := by decide +kernel
theorem dX12_init_859 : decode cX12_init 859 = .ok (.bipush 101, 2) := by decide +kernel
theorem dX12_init_861 : decode cX12_init 861 = .ok (.bastore, 1) := by decide +kernel
theorem dX12_init_862 : decode cX12_init 862 = .ok (.dup, 1) := by decide +kernel
theorem dX12_init_863 : decode cX12_init 863 = .ok (.sipush 135, 3) := by decide +kernel
theorem dX12_init_866 : decode cX12_init 866 = .ok (.bipush 97, 2) := by decide +kernel
theorem dX12_init_868 : decode cX12_init 868 = .ok (.bastore, 1) := by decide +kernel
theorem dX12_init_869 : decode cX12_init 869 = .ok (.dup, 1) := by decide +kernel
theorem dX12_init_870 : decode cX12_init 870 = .ok (.sipush 136, 3) := by decide +kernel
theorem dX12_init_873 : decode cX12_init 873 = .ok (.bipush 114, 2) := by decide +kernel
theorem dX12_init_875 : decode cX12_init 875 = .ok (.bastore, 1) := by decide +kernel
theorem dX12_init_876 : decode cX12_init 876 = .ok (.dup, 1) := by decide +kernel
theorem dX12_init_877 : decode cX12_init 877 = .ok (.sipush 137, 3) := by decide +kernel
theorem dX12_init_880 : decode cX12_init 880 = .ok (.bipush 32, 2) := by decide +kernel
theorem dX12_init_882 : decode cX12_init 882 = .ok (.bastore, 1) := by decide +kernel
theorem dX12_init_883 : decode cX12_init 883 = .ok (.dup, 1) := by decide +kernel
theorem dX12_init_884 : decode cX12_init 884 = .ok (.sipush 138, 3) := by decide +kernel
theorem dX12_init_887 : decode cX12_init 887 = .ok (.bipush 116, 2) := by decide +kernel
theorem dX12_init_889 : decode cX12_init 889 = .ok (.bastore, 1) := by decide +kernel
theorem dX12_init_890 : decode cX12_init 890 = .ok (.dup, 1) := by decide +kernel
theorem dX12_init_891 : decode cX12_init 891 = .ok (.sipush 139, 3) := by decide +kernel
theorem dX12_init_894 : decode cX12_init 894 = .ok (.bipush 105, 2) := by decide +kernel
theorem dX12_init_896 : decode cX12_init 896 = .ok (.bastore, 1) := by decide +kernel
theorem dX12_init_897 : decode cX12_init 897 = .ok (.dup, 1) := by decide +kernel
theorem dX12_init_898 : decode cX12_init 898 = .ok (.sipush 140, 3) := by decide +kernel
theorem dX12_init_901 : decode cX12_init 901 = .ok (.bipush 109, 2) := by decide +kernel
theorem dX12_init_903 : decode cX12_init 903 = .ok (.bastore, 1) := by decide +kernel
theorem dX12_init_904 : decode cX12_init 904 = .ok (.dup, 1) := by decide +kernel
theorem dX12_init_905 : decode cX12_init 905 = .ok (.sipush 141, 3) := by decide +kernel
theorem dX12_init_908 : decode cX12_init 908 = .ok (.bipush 101, 2) := by decide +kernel
theorem dX12_init_910 : decode cX12_init 910 = .ok (.bastore, 1) := by decide +kernel
theorem dX12_init_911 : decode cX12_init 911 = .ok (.dup, 1) := by decide +kernel
theorem dX12_init_912 : decode cX12_init 912 = .ok (.sipush 142, 3) := by decide +kernel
theorem dX12_init_915 : decode cX12_init 915 = .ok (.bipush 115, 2) := by decide +kernel
theorem dX12_init_917 : decode cX12_init 917 = .ok (.bastore, 1) := by decide +kernel
theorem dX12_init_918 : decode cX12_init 918 = .ok (.dup, 1) := by decide +kernel
theorem dX12_init_919 : decode cX12_init 919 = .ok (.sipush 143, 3) := by decide +kernel
theorem dX12_init_922 : decode cX12_init 922 = .ok (.bipush 32, 2) := by decide +kernel
theorem dX12_init_924 : decode cX12_init 924 = .ok (.bastore, 1) := by decide +kernel
theorem dX12_init_925 : decode cX12_init 925 = .ok (.putfield 37, 3) := by decide +kernel
theorem dX12_init_928 : decode cX12_init 928 = .ok (.aload_n 0, 1) := by decide +kernel
theorem dX12_init_929 : decode cX12_init 929 = .ok (.sipush 400, 3) := by decide +kernel
theorem dX12_init_932 : decode cX12_init 932 = .ok (.newarray .byte, 2) := by decide +kernel
theorem dX12_init_934 : decode cX12_init 934 = .ok (.putfield 41, 3) := by decide +kernel
theorem dX12_init_937 : decode cX12_init 937 = .ok (.aload_n 0, 1) := by decide +kernel
theorem dX12_init_938 : decode cX12_init 938 = .ok (.iconst 5, 1) := by decide +kernel
theorem dX12_init_939 : decode cX12_init 939 = .ok (.newarray .int, 2) := by decide +kernel
theorem dX12_init_941 : decode cX12_init 941 = .ok (.putfield 44, 3) := by decide +kernel
theorem dX12_init_944 : decode cX12_init 944 = .ok (.aload_n 0, 1) := by decide +kernel
theorem dX12_init_945 : decode cX12_init 945 = .ok (.iconst (-1), 1) := by decide +kernel
theorem dX12_init_946 : decode cX12_init 946 = .ok (.putfield 47, 3) := by decide +kernel
theorem dX12_init_949 : decode cX12_init 949 = .ok (.aload_n 0, 1) := by decide +kernel
theorem dX12_init_950 : decode cX12_init 950 = .ok (.sipush 401, 3) := by decide +kernel
theorem dX12_init_953 : decode cX12_init 953 = .ok (.newarray .int, 2) := by decide +kernel
theorem dX12_init_955 : decode cX12_init 955 = .ok (.putfield 50, 3) := by decide +kernel
theorem dX12_init_958 : decode cX12_init 958 = .ok (.aload_n 0, 1) := by decide +kernel
theorem dX12_init_959 : decode cX12_init 959 = .ok (.sipush 401, 3) := by decide +kernel
theorem dX12_init_962 : decode cX12_init 962 = .ok (.newarray .int, 2) := by decide +kernel
theorem dX12_init_964 : decode cX12_init 964 = .ok (.putfield 53, 3) := by decide +kernel
theorem dX12_init_967 : decode cX12_init 967 = .ok (.aload_n 0, 1) := by decide +kernel
theorem dX12_init_968 : decode cX12_init 968 = .ok (.sipush 401, 3) := by decide +kernel
theorem dX12_init_971 : decode cX12_init 971 = .ok (.newarray .int, 2) := by decide +kernel
theorem dX12_init_973 : decode cX12_init 973 = .ok (.putfield 56, 3) := by decide +kernel
theorem dX12_init_976 : decode cX12_init 976 = .ok (.aload_n 0, 1) := by decide +kernel
theorem dX12_init_977 : decode cX12_init 977 = .ok (.bipush 13, 2) := by decide +kernel
theorem dX12_init_979 : decode cX12_init 979 = .ok (.newarray .int, 2) := by decide +kernel
theorem dX12_init_981 : decode cX12_init 981 = .ok (.putfield 59, 3) := by decide +kernel
theorem dX12_init_984 : decode cX12_init 984 = .ok (.aload_n 0, 1) := by decide +kernel
theorem dX12_init_985 : decode cX12_init 985 = .ok (.sipush 432, 3) := by decide +kernel
theorem dX12_init_988 : decode cX12_init 988 = .ok (.newarray .int, 2) := by decide +kernel
theorem dX12_init_990 : decode cX12_init 990 = .ok (.putfield 62, 3) := by decide +kernel
theorem dX12_init_993 : decode cX12_init 993 = .ok (.aload_n 0, 1) := by decide +kernel
theorem dX12_init_994 : decode cX12_init 994 = .ok (.sipush 432, 3) := by decide +kernel
theorem dX12_init_997 : decode cX12_init 997 = .ok (.newarray .int, 2) := by decide +kernel
theorem dX12_init_999 : decode cX12_init 999 = .ok (.putfield 65, 3) := by decide +kernel
theorem dX12_init_1002 : decode cX12_init 1002 = .ok (.aload_n 0, 1) := by decide +kernel
theorem dX12_init_1003 : decode cX12_init 1003 = .ok (.bipush 18, 2) := by decide +kernel
theorem dX12_init_1005 : decode cX12_init 1005 = .ok (.newarray .int, 2) := by decide +kernel
theorem dX12_init_1007 : decode cX12_init 1007 = .ok (.putfield 68, 3) := by decide +kernel
theorem dX12_init_1010 : decode cX12_init 1010 = .ok (.aload_n 0, 1) := by decide +kernel
theorem dX12_init_1011 : decode cX12_init 1011 = .ok (.bipush 6, 2) := by decide +kernel
theorem dX12_init_1013 : decode cX12_init 1013 = .ok (.newarray .int, 2) := by decide +kernel
theorem dX12_init_1015 : decode cX12_init 1015 = .ok (.putfield 71, 3) := by decide +kernel
theorem dX12_init_1018 : decode cX12_init 1018 = .ok (.aload_n 0, 1) := by decide +kernel
theorem dX12_init_1019 : decode cX12_init 1019 = .ok (.bipush 6, 2) := by decide +kernel
theorem dX12_init_1021 : decode cX12_init 1021 = .ok (.newarray .int, 2) := by decide +kernel
theorem dX12_init_1023 : decode cX12_init 1023 = .ok (.putfield 74, 3) := by decide +kernel
theorem dX12_init_1026 : decode cX12_init 1026 = .ok (.aload_n 0, 1) := by decide +kernel
theorem dX12_init_1027 : decode cX12_init 1027 = .ok (.bipush 6, 2) := by decide +kernel
theorem dX12_init_1029 : decode cX12_init 1029 = .ok (.newarray .int, 2) := by decide +kernel
theorem dX12_init_1031 : decode cX12_init 1031 = .ok (.putfield 77, 3) := by decide +kernel
theorem dX12_init_1034 : decode cX12_init 1034 = .ok (.aload_n 0, 1) := by decide +kernel
theorem dX12_init_1035 : decode cX12_init 1035 = .ok (.bipush 16, 2) := by decide +kernel
theorem dX12_init_1037 : decode cX12_init 1037 = .ok (.newarray .int, 2) := by decide +kernel
theorem dX12_init_1039 : decode cX12_init 1039 = .ok (.putfield 80, 3) := by decide +kernel
theorem dX12_init_1042 : decode cX12_init 1042 = .ok (.aload_n 0, 1) := by decide +kernel
theorem dX12_init_1043 : decode cX12_init 1043 = .ok (.bipush 16, 2) := by decide +kernel
theorem dX12_init_1045 : decode cX12_init 1045 = .ok (.newarray .int, 2) := by decide +kernel
theorem dX12_init_1047 : decode cX12_init 1047 = .ok (.putfield 83, 3) := by decide +kernel
theorem dX12_init_1050 : decode cX12_init 1050 = .ok (.aload_n 0, 1) := by decide +kernel
theorem dX12_init_1051 : decode cX12_init 1051 = .ok (.bipush 6, 2) := by decide +kernel
theorem dX12_init_1053 : decode cX12_init 1053 = .ok (.newarray .int, 2) := by decide +kernel
theorem dX12_init_1055 : decode cX12_init 1055 = .ok (.putfield 86, 3) := by decide +kernel
theorem dX12_init_1058 : decode cX12_init 1058 = .ok (.aload_n 0, 1) := by decide +kernel
theorem dX12_init_1059 : decode cX12_init 1059 = .ok (.bipush 7, 2) := by decide +kernel
theorem dX12_init_1061 : decode cX12_init 1061 = .ok (.newarray .int, 2) := by decide +kernel
theorem dX12_init_1063 : decode cX12_init 1063 = .ok (.putfield 89, 3) := by decide +kernel
theorem dX12_init_1066 : decode cX12_init 1066 = .ok (.aload_n 0, 1) := by decide +kernel
theorem dX12_init_1067 : decode cX12_init 1067 = .ok (.bipush 8, 2) := by decide +kernel
theorem dX12_init_1069 : decode cX12_init 1069 = .ok (.newarray .int, 2) := by decide +kernel
theorem dX12_init_1071 : decode cX12_init 1071 = .ok (.putfield 92, 3) := by decide +kernel
theorem dX12_init_1074 : decode cX12_init 1074 = .ok (.aload_n 0, 1) := by decide +kernel
theorem dX12_init_1075 : decode cX12_init 1075 = .ok (.iconst (-1), 1) := by decide +kernel
theorem dX12_init_1076 : decode cX12_init 1076 = .ok (.putfield 95, 3) := by decide +kernel
theorem dX12_init_1079 : decode cX12_init 1079 = .ok (.aload_n 0, 1) := by decide +kernel
theorem dX12_init_1080 : decode cX12_init 1080 = .ok (.bipush 12, 2) := by decide +kernel
theorem dX12_init_1082 : decode cX12_init 1082 = .ok (.newarray .int, 2) := by decide +kernel
theorem dX12_init_1084 : decode cX12_init 1084 = .ok (.putfield 98, 3) := by decide +kernel
theorem dX12_init_1087 : decode cX12_init 1087 = .ok (.iconst 0, 1) := by decide +kernel
theorem dX12_init_1088 : decode cX12_init 1088 = .ok (.istore_n 1, 1) := by decide +kernel
theorem dX12_init_1089 : decode cX12_init 1089 = .ok (.iload_n 1, 1) := by decide +kernel
theorem dX12_init_1090 : decode cX12_init 1090 = .ok (.bipush 27, 2) := by decide +kernel
theorem dX12_init_1092 : decode cX12_init 1092 = .ok (.if_icmp .ge 30, 3) := by decide +kernel
theorem dX12_init_1095 : decode cX12_init 1095 = .ok (.aload_n 0, 1) := by decide +kernel
theorem dX12_init_1096 : decode cX12_init 1096 = .ok (.getfield 24, 3) := by decide +kernel
theorem dX12_init_1099 : decode cX12_init 1099 = .ok (.bipush 26, 2) := by decide +kernel
theorem dX12_init_1101 : decode cX12_init 1101 = .ok (.iload_n 1, 1) := by decide +kernel
theorem dX12_init_1102 : decode cX12_init 1102 = .ok (.iadd, 1) := by decide +kernel
theorem dX12_init_1103 : decode cX12_init 1103 = .ok (.iload_n 1, 1) := by decide +kernel
theorem dX12_init_1104 : decode cX12_init 1104 = .ok (.bipush 26, 2) := by decide +kernel
theorem dX12_init_1106 : decode cX12_init 1106 = .ok (.if_icmp .ne 7, 3) := by decide +kernel
theorem dX12_init_1109 : decode cX12_init 1109 = .ok (.iconst 5, 1) := by decide +kernel
theorem dX12_init_1110 : decode cX12_init 1110 = .ok (.goto 5, 3) := by decide +kernel
theorem dX12_init_1113 : decode cX12_init 1113 = .ok (.bipush 10, 2) := by decide +kernel
theorem dX12_init_1115 : decode cX12_init 1115 = .ok (.iastore, 1) := by decide +kernel
theorem dX12_init_1116 : decode cX12_init 1116 = .ok (.iinc 1 1, 3) := by decide +kernel
theorem dX12_init_1119 : decode cX12_init 1119 = .ok (.goto (-30), 3) := by decide +kernel
theorem dX12_init_1122 : decode cX12_init 1122 = .ok (.iconst 0, 1) := by decide +kernel
theorem dX12_init_1123 : decode cX12_init 1123 = .ok (.istore_n 1, 1) := by decide +kernel
theorem dX12_init_1124 : decode cX12_init 1124 = .ok (.iload_n 1, 1) := by decide +kernel
theorem dX12_init_1125 : decode cX12_init 1125 = .ok (.bipush 8, 2) := by decide +kernel
theorem dX12_init_1127 : decode cX12_init 1127 = .ok (.if_icmp .ge 20, 3) := by decide +kernel
theorem dX12_init_1130 : decode cX12_init 1130 = .ok (.aload_n 0, 1) := by decide +kernel
theorem dX12_init_1131 : decode cX12_init 1131 = .ok (.getfield 24, 3) := by decide +kernel
theorem dX12_init_1134 : decode cX12_init 1134 = .ok (.sipush 261, 3) := by decide +kernel
theorem dX12_init_1137 : decode cX12_init 1137 = .ok (.iload_n 1, 1) := by decide +kernel
theorem dX12_init_1138 : decode cX12_init 1138 = .ok (.iadd, 1) := by decide +kernel
theorem dX12_init_1139 : decode cX12_init 1139 = .ok (.iconst 1, 1) := by decide +kernel
theorem dX12_init_1140 : decode cX12_init 1140 = .ok (.iastore, 1) := by decide +kernel
theorem dX12_init_1141 : decode cX12_init 1141 = .ok (.iinc 1 1, 3) := by decide +kernel
theorem dX12_init_1144 : decode cX12_init 1144 = .ok (.goto (-20), 3) := by decide +kernel
theorem dX12_init_1147 : decode cX12_init 1147 = .ok (.iconst 0, 1) := by decide +kernel
theorem dX12_init_1148 : decode cX12_init 1148 = .ok (.istore_n 1, 1) := by decide +kernel
theorem dX12_init_1149 : decode cX12_init 1149 = .ok (.iload_n 1, 1) := by decide +kernel
theorem dX12_init_1150 : decode cX12_init 1150 = .ok (.iconst 4, 1) := by decide +kernel
theorem dX12_init_1151 : decode cX12_init 1151 = .ok (.if_icmp .ge 20, 3) := by decide +kernel
theorem dX12_init_1154 : decode cX12_init 1154 = .ok (.aload_n 0, 1) := by decide +kernel
theorem dX12_init_1155 : decode cX12_init 1155 = .ok (.getfield 24, 3) := by decide +kernel
theorem dX12_init_1158 : decode cX12_init 1158 = .ok (.sipush 275, 3) := by decide +kernel
theorem dX12_init_1161 : decode cX12_init 1161 = .ok (.iload_n 1, 1) := by decide +kernel
theorem dX12_init_1162 : decode cX12_init 1162 = .ok (.iadd, 1) := by decide +kernel
theorem dX12_init_1163 : decode cX12_init 1163 = .ok (.iconst (-1), 1) := by decide +kernel
theorem dX12_init_1164 : decode cX12_init 1164 = .ok (.iastore, 1) := by decide +kernel
theorem dX12_init_1165 : decode cX12_init 1165 = .ok (.iinc 1 1, 3) := by decide +kernel
theorem dX12_init_1168 : decode cX12_init 1168 = .ok (.goto (-19), 3) := by decide +kernel
theorem dX12_init_1171 : decode cX12_init 1171 = .ok (.aload_n 0, 1) := by decide +kernel
theorem dX12_init_1172 : decode cX12_init 1172 = .ok (.getfield 24, 3) := by decide +kernel
theorem dX12_init_1175 : decode cX12_init 1175 = .ok (.sipush 313, 3) := by decide +kernel
theorem dX12_init_1178 : decode cX12_init 1178 = .ok (.bipush 100, 2) := by decide +kernel
theorem dX12_init_1180 : decode cX12_init 1180 = .ok (.iastore, 1) := by decide +kernel
theorem dX12_init_1181 : decode cX12_init 1181 = .ok (.aload_n 0, 1) := by decide +kernel
theorem dX12_init_1182 : decode cX12_init 1182 = .ok (.getfield 24, 3) := by decide +kernel
theorem dX12_init_1185 : decode cX12_init 1185 = .ok (.sipush 314, 3) := by decide +kernel
theorem dX12_init_1188 : decode cX12_init 1188 = .ok (.iconst 3, 1) := by decide +kernel
theorem dX12_init_1189 : decode cX12_init 1189 = .ok (.iastore, 1) := by decide +kernel
theorem dX12_init_1190 : decode cX12_init 1190 = .ok (.aload_n 0, 1) := by decide +kernel
theorem dX12_init_1191 : decode cX12_init 1191 = .ok (.getfield 24, 3) := by decide +kernel
theorem dX12_init_1194 : decode cX12_init 1194 = .ok (.sipush 321, 3) := by decide +kernel
theorem dX12_init_1197 : decode cX12_init 1197 = .ok (.iconst (-1), 1) := by decide +kernel
theorem dX12_init_1198 : decode cX12_init 1198 = .ok (.iastore, 1) := by decide +kernel
theorem dX12_init_1199 : decode cX12_init 1199 = .ok (.return_, 1) := by decide +kernel
theorem dX12_image_0 : decode cX12_image 0 = .ok (.iload_n 1, 1) := by decide +kernel
theorem dX12_image_1 : decode cX12_image 1 = .ok (.iconst 0, 1) := by decide +kernel
theorem dX12_image_2 : decode cX12_image 2 = .ok (.iconst 1, 1) := by decide +kernel
theorem dX12_image_3 : decode cX12_image 3 = .ok (.invokestatic 101, 3) := by decide +kernel
theorem dX12_image_6 : decode cX12_image 6 = .ok (.ifCond .ne 9, 3) := by decide +kernel
theorem dX12_image_9 : decode cX12_image 9 = .ok (.aload_n 0, 1) := by decide +kernel
theorem dX12_image_10 : decode cX12_image 10 = .ok (.iconst (-1), 1) := by decide +kernel
theorem dX12_image_11 : decode cX12_image 11 = .ok (.invokevirtual 105, 3) := by decide +kernel
theorem dX12_image_14 : decode cX12_image 14 = .ok (.ireturn, 1) := by decide +kernel
theorem dX12_image_15 : decode cX12_image 15 = .ok (.iconst 0, 1) := by decide +kernel
theorem dX12_image_16 : decode cX12_image 16 = .ok (.istore_n 2, 1) := by decide +kernel
theorem dX12_image_17 : decode cX12_image 17 = .ok (.iload_n 2, 1) := by decide +kernel
theorem dX12_image_18 : decode cX12_image 18 = .ok (.sipush 5929, 3) := by decide +kernel
theorem dX12_image_21 : decode cX12_image 21 = .ok (.if_icmp .ge 27, 3) := by decide +kernel
theorem dX12_image_24 : decode cX12_image 24 = .ok (.aload_n 0, 1) := by decide +kernel
theorem dX12_image_25 : decode cX12_image 25 = .ok (.getfield 27, 3) := by decide +kernel
theorem dX12_image_28 : decode cX12_image 28 = .ok (.sipush 5929, 3) := by decide +kernel
theorem dX12_image_31 : decode cX12_image 31 = .ok (.iload_n 1, 1) := by decide +kernel
theorem dX12_image_32 : decode cX12_image 32 = .ok (.imul, 1) := by decide +kernel
theorem dX12_image_33 : decode cX12_image 33 = .ok (.iload_n 2, 1) := by decide +kernel
theorem dX12_image_34 : decode cX12_image 34 = .ok (.iadd, 1) := by decide +kernel
theorem dX12_image_35 : decode cX12_image 35 = .ok (.aload_n 0, 1) := by decide +kernel
theorem dX12_image_36 : decode cX12_image 36 = .ok (.getfield 24, 3) := by decide +kernel
theorem dX12_image_39 : decode cX12_image 39 = .ok (.iload_n 2, 1) := by decide +kernel
theorem dX12_image_40 : decode cX12_image 40 = .ok (.iaload, 1) := by decide +kernel
theorem dX12_image_41 : decode cX12_image 41 = .ok (.iastore, 1) := by decide +kernel
theorem dX12_image_42 : decode cX12_image 42 = .ok (.iinc 2 1, 3) := by decide +kernel
theorem dX12_image_45 : decode cX12_image 45 = .ok (.goto (-28), 3) := by decide +kernel
theorem dX12_image_48 : decode cX12_image 48 = .ok (.aload_n 0, 1) := by decide +kernel
theorem dX12_image_49 : decode cX12_image 49 = .ok (.getfield 30, 3) := by decide +kernel
theorem dX12_image_52 : decode cX12_image 52 = .ok (.iload_n 1, 1) := by decide +kernel
theorem dX12_image_53 : decode cX12_image 53 = .ok (.iconst 1, 1) := by decide +kernel
theorem dX12_image_54 : decode cX12_image 54 = .ok (.bastore, 1) := by decide +kernel
theorem dX12_image_55 : decode cX12_image 55 = .ok (.aload_n 0, 1) := by decide +kernel
theorem dX12_image_56 : decode cX12_image 56 = .ok (.iconst 0, 1) := by decide +kernel
theorem dX12_image_57 : decode cX12_image 57 = .ok (.invokevirtual 14, 3) := by decide +kernel
theorem dX12_image_60 : decode cX12_image 60 = .ok (.ireturn, 1) := by decide +kernel
theorem dX12_back_0 : decode cX12_back 0 = .ok (.iload_n 1, 1) := by decide +kernel
theorem dX12_back_1 : decode cX12_back 1 = .ok (.iconst 0, 1) := by decide +kernel
theorem dX12_back_2 : decode cX12_back 2 = .ok (.iconst 1, 1) := by decide +kernel
theorem dX12_back_3 : decode cX12_back 3 = .ok (.invokestatic 101, 3) := by decide +kernel
theorem dX12_back_6 : decode cX12_back 6 = .ok (.ifCond .ne 9, 3) := by decide +kernel
theorem dX12_back_9 : decode cX12_back 9 = .ok (.aload_n 0, 1) := by decide +kernel
theorem dX12_back_10 : decode cX12_back 10 = .ok (.iconst (-1), 1) := by decide +kernel
theorem dX12_back_11 : decode cX12_back 11 = .ok (.invokevirtual 105, 3) := by decide +kernel
theorem dX12_back_14 : decode cX12_back 14 = .ok (.ireturn, 1) := by decide +kernel
theorem dX12_back_15 : decode cX12_back 15 = .ok (.aload_n 0, 1) := by decide +kernel
theorem dX12_back_16 : decode cX12_back 16 = .ok (.getfield 30, 3) := by decide +kernel
theorem dX12_back_19 : decode cX12_back 19 = .ok (.iload_n 1, 1) := by decide +kernel
theorem dX12_back_20 : decode cX12_back 20 = .ok (.baload, 1) := by decide +kernel
theorem dX12_back_21 : decode cX12_back 21 = .ok (.ifCond .ne 10, 3) := by decide +kernel
theorem dX12_back_24 : decode cX12_back 24 = .ok (.aload_n 0, 1) := by decide +kernel
theorem dX12_back_25 : decode cX12_back 25 = .ok (.bipush (-2), 2) := by decide +kernel
theorem dX12_back_27 : decode cX12_back 27 = .ok (.invokevirtual 105, 3) := by decide +kernel
theorem dX12_back_30 : decode cX12_back 30 = .ok (.ireturn, 1) := by decide +kernel
theorem dX12_back_31 : decode cX12_back 31 = .ok (.iconst 0, 1) := by decide +kernel
theorem dX12_back_32 : decode cX12_back 32 = .ok (.istore_n 2, 1) := by decide +kernel
theorem dX12_back_33 : decode cX12_back 33 = .ok (.iload_n 2, 1) := by decide +kernel
theorem dX12_back_34 : decode cX12_back 34 = .ok (.sipush 5929, 3) := by decide +kernel
theorem dX12_back_37 : decode cX12_back 37 = .ok (.if_icmp .ge 27, 3) := by decide +kernel
theorem dX12_back_40 : decode cX12_back 40 = .ok (.aload_n 0, 1) := by decide +kernel
theorem dX12_back_41 : decode cX12_back 41 = .ok (.getfield 24, 3) := by decide +kernel
theorem dX12_back_44 : decode cX12_back 44 = .ok (.iload_n 2, 1) := by decide +kernel
theorem dX12_back_45 : decode cX12_back 45 = .ok (.aload_n 0, 1) := by decide +kernel
theorem dX12_back_46 : decode cX12_back 46 = .ok (.getfield 27, 3) := by decide +kernel
theorem dX12_back_49 : decode cX12_back 49 = .ok (.sipush 5929, 3) := by decide +kernel
theorem dX12_back_52 : decode cX12_back 52 = .ok (.iload_n 1, 1) := by decide +kernel
theorem dX12_back_53 : decode cX12_back 53 = .ok (.imul, 1) := by decide +kernel
theorem dX12_back_54 : decode cX12_back 54 = .ok (.iload_n 2, 1) := by decide +kernel
theorem dX12_back_55 : decode cX12_back 55 = .ok (.iadd, 1) := by decide +kernel
theorem dX12_back_56 : decode cX12_back 56 = .ok (.iaload, 1) := by decide +kernel
theorem dX12_back_57 : decode cX12_back 57 = .ok (.iastore, 1) := by decide +kernel
theorem dX12_back_58 : decode cX12_back 58 = .ok (.iinc 2 1, 3) := by decide +kernel
theorem dX12_back_61 : decode cX12_back 61 = .ok (.goto (-28), 3) := by decide +kernel
theorem dX12_back_64 : decode cX12_back 64 = .ok (.aload_n 0, 1) := by decide +kernel
theorem dX12_back_65 : decode cX12_back 65 = .ok (.iconst 0, 1) := by decide +kernel
theorem dX12_back_66 : decode cX12_back 66 = .ok (.invokevirtual 108, 3) := by decide +kernel
theorem dX12_back_69 : decode cX12_back 69 = .ok (.ireturn, 1) := by decide +kernel
theorem dX12_isWord_0 : decode cX12_isWord 0 = .ok (.iload_n 1, 1) := by decide +kernel
theorem dX12_isWord_1 : decode cX12_isWord 1 = .ok (.iconst 0, 1) := by decide +kernel
theorem dX12_isWord_2 : decode cX12_isWord 2 = .ok (.aload_n 0, 1) := by decide +kernel
theorem dX12_isWord_3 : decode cX12_isWord 3 = .ok (.getfield 24, 3) := by decide +kernel
theorem dX12_isWord_6 : decode cX12_isWord 6 = .ok (.sipush 316, 3) := by decide +kernel
theorem dX12_isWord_9 : decode cX12_isWord 9 = .ok (.iaload, 1) := by decide +kernel
theorem dX12_isWord_10 : decode cX12_isWord 10 = .ok (.iconst 1, 1) := by decide +kernel
theorem dX12_isWord_11 : decode cX12_isWord 11 = .ok (.isub, 1) := by decide +kernel
theorem dX12_isWord_12 : decode cX12_isWord 12 = .ok (.invokestatic 101, 3) := by decide +kernel
theorem dX12_isWord_15 : decode cX12_isWord 15 = .ok (.ireturn, 1) := by decide +kernel
theorem dX12_fact_0 : decode cX12_fact 0 = .ok (.aload_n 0, 1) := by decide +kernel
theorem dX12_fact_1 : decode cX12_fact 1 = .ok (.getfield 24, 3) := by decide +kernel
theorem dX12_fact_4 : decode cX12_fact 4 = .ok (.bipush 53, 2) := by decide +kernel
theorem dX12_fact_6 : decode cX12_fact 6 = .ok (.bipush 13, 2) := by decide +kernel
theorem dX12_fact_8 : decode cX12_fact 8 = .ok (.iload_n 1, 1) := by decide +kernel
theorem dX12_fact_9 : decode cX12_fact 9 = .ok (.imul, 1) := by decide +kernel
theorem dX12_fact_10 : decode cX12_fact 10 = .ok (.iadd, 1) := by decide +kernel
theorem dX12_fact_11 : decode cX12_fact 11 = .ok (.iload_n 2, 1) := by decide +kernel
theorem dX12_fact_12 : decode cX12_fact 12 = .ok (.iadd, 1) := by decide +kernel
theorem dX12_fact_13 : decode cX12_fact 13 = .ok (.iaload, 1) := by decide +kernel
theorem dX12_fact_14 : decode cX12_fact 14 = .ok (.ireturn, 1) := by decide +kernel
theorem dX12_breadth_0 : decode cX12_breadth 0 = .ok (.iload_n 1, 1) := by decide +kernel
theorem dX12_breadth_1 : decode cX12_breadth 1 = .ok (.iconst 0, 1) := by decide +kernel
theorem dX12_breadth_2 : decode cX12_breadth 2 = .ok (.bipush 26, 2) := by decide +kernel
theorem dX12_breadth_4 : decode cX12_breadth 4 = .ok (.invokestatic 101, 3) := by decide +kernel
theorem dX12_breadth_7 : decode cX12_breadth 7 = .ok (.ifCond .eq 13, 3) := by decide +kernel
theorem dX12_breadth_10 : decode cX12_breadth 10 = .ok (.iload_n 2, 1) := by decide +kernel
theorem dX12_breadth_11 : decode cX12_breadth 11 = .ok (.iconst 1, 1) := by decide +kernel
theorem dX12_breadth_12 : decode cX12_breadth 12 = .ok (.bipush 20, 2) := by decide +kernel
theorem dX12_breadth_14 : decode cX12_breadth 14 = .ok (.invokestatic 101, 3) := by decide +kernel
theorem dX12_breadth_17 : decode cX12_breadth 17 = .ok (.ifCond .ne 9, 3) := by decide +kernel
theorem dX12_breadth_20 : decode cX12_breadth 20 = .ok (.aload_n 0, 1) := by decide +kernel
theorem dX12_breadth_21 : decode cX12_breadth 21 = .ok (.iconst (-1), 1) := by decide +kernel
theorem dX12_breadth_22 : decode cX12_breadth 22 = .ok (.invokevirtual 105, 3) := by decide +kernel
theorem dX12_breadth_25 : decode cX12_breadth 25 = .ok (.ireturn, 1) := by decide +kernel
theorem dX12_breadth_26 : decode cX12_breadth 26 = .ok (.aload_n 0, 1) := by decide +kernel
theorem dX12_breadth_27 : decode cX12_breadth 27 = .ok (.getfield 24, 3) := by decide +kernel
theorem dX12_breadth_30 : decode cX12_breadth 30 = .ok (.bipush 26, 2) := by decide +kernel
theorem dX12_breadth_32 : decode cX12_breadth 32 = .ok (.iload_n 1, 1) := by decide +kernel
theorem dX12_breadth_33 : decode cX12_breadth 33 = .ok (.iadd, 1) := by decide +kernel
theorem dX12_breadth_34 : decode cX12_breadth 34 = .ok (.iaload, 1) := by decide +kernel
theorem dX12_breadth_35 : decode cX12_breadth 35 = .ok (.istore_n 3, 1) := by decide +kernel
theorem dX12_breadth_36 : decode cX12_breadth 36 = .ok (.aload_n 0, 1) := by decide +kernel
theorem dX12_breadth_37 : decode cX12_breadth 37 = .ok (.getfield 24, 3) := by decide +kernel
theorem dX12_breadth_40 : decode cX12_breadth 40 = .ok (.bipush 26, 2) := by decide +kernel
theorem dX12_breadth_42 : decode cX12_breadth 42 = .ok (.iload_n 1, 1) := by decide +kernel
theorem dX12_breadth_43 : decode cX12_breadth 43 = .ok (.iadd, 1) := by decide +kernel
theorem dX12_breadth_44 : decode cX12_breadth 44 = .ok (.iload_n 2, 1) := by decide +kernel
theorem dX12_breadth_45 : decode cX12_breadth 45 = .ok (.iastore, 1) := by decide +kernel
theorem dX12_breadth_46 : decode cX12_breadth 46 = .ok (.aload_n 0, 1) := by decide +kernel
theorem dX12_breadth_47 : decode cX12_breadth 47 = .ok (.iload_n 3, 1) := by decide +kernel
theorem dX12_breadth_48 : decode cX12_breadth 48 = .ok (.invokevirtual 108, 3) := by decide +kernel
theorem dX12_breadth_51 : decode cX12_breadth 51 = .ok (.ireturn, 1) := by decide +kernel
theorem dX12_column_0 : decode cX12_column 0 = .ok (.iload_n 1, 1) := by decide +kernel
theorem dX12_column_1 : decode cX12_column 1 = .ok (.bipush 10, 2) := by decide +kernel
theorem dX12_column_3 : decode cX12_column 3 = .ok (.sipush 400, 3) := by decide +kernel
theorem dX12_column_6 : decode cX12_column 6 = .ok (.invokestatic 101, 3) := by decide +kernel
theorem dX12_column_9 : decode cX12_column 9 = .ok (.ifCond .eq 12, 3) := by decide +kernel
theorem dX12_column_12 : decode cX12_column 12 = .ok (.iload_n 2, 1) := by decide +kernel
theorem dX12_column_13 : decode cX12_column 13 = .ok (.iconst 1, 1) := by decide +kernel
theorem dX12_column_14 : decode cX12_column 14 = .ok (.iconst 4, 1) := by decide +kernel
theorem dX12_column_15 : decode cX12_column 15 = .ok (.invokestatic 101, 3) := by decide +kernel
theorem dX12_column_18 : decode cX12_column 18 = .ok (.ifCond .ne 9, 3) := by decide +kernel
theorem dX12_column_21 : decode cX12_column 21 = .ok (.aload_n 0, 1) := by decide +kernel
theorem dX12_column_22 : decode cX12_column 22 = .ok (.iconst (-1), 1) := by decide +kernel
theorem dX12_column_23 : decode cX12_column 23 = .ok (.invokevirtual 105, 3) := by decide +kernel
theorem dX12_column_26 : decode cX12_column 26 = .ok (.ireturn, 1) := by decide +kernel
theorem dX12_column_27 : decode cX12_column 27 = .ok (.aload_n 0, 1) := by decide +kernel
theorem dX12_column_28 : decode cX12_column 28 = .ok (.getfield 24, 3) := by decide +kernel
theorem dX12_column_31 : decode cX12_column 31 = .ok (.bipush 24, 2) := by decide +kernel
theorem dX12_column_33 : decode cX12_column 33 = .ok (.iaload, 1) := by decide +kernel
theorem dX12_column_34 : decode cX12_column 34 = .ok (.ifCond .le 10, 3) := by decide +kernel
theorem dX12_column_37 : decode cX12_column 37 = .ok (.aload_n 0, 1) := by decide +kernel
theorem dX12_column_38 : decode cX12_column 38 = .ok (.bipush (-3), 2) := by decide +kernel
theorem dX12_column_40 : decode cX12_column 40 = .ok (.invokevirtual 105, 3) := by decide +kernel
theorem dX12_column_43 : decode cX12_column 43 = .ok (.ireturn, 1) := by decide +kernel
theorem dX12_column_44 : decode cX12_column 44 = .ok (.aload_n 0, 1) := by decide +kernel
theorem dX12_column_45 : decode cX12_column 45 = .ok (.getfield 24, 3) := by decide +kernel
theorem dX12_column_48 : decode cX12_column 48 = .ok (.sipush 313, 3) := by decide +kernel
theorem dX12_column_51 : decode cX12_column 51 = .ok (.iload_n 1, 1) := by decide +kernel
theorem dX12_column_52 : decode cX12_column 52 = .ok (.iastore, 1) := by decide +kernel
theorem dX12_column_53 : decode cX12_column 53 = .ok (.aload_n 0, 1) := by decide +kernel
theorem dX12_column_54 : decode cX12_column 54 = .ok (.getfield 24, 3) := by decide +kernel
theorem dX12_column_57 : decode cX12_column 57 = .ok (.sipush 314, 3) := by decide +kernel
theorem dX12_column_60 : decode cX12_column 60 = .ok (.iload_n 2, 1) := by decide +kernel
theorem dX12_column_61 : decode cX12_column 61 = .ok (.iastore, 1) := by decide +kernel
theorem dX12_column_62 : decode cX12_column 62 = .ok (.aload_n 0, 1) := by decide +kernel
theorem dX12_column_63 : decode cX12_column 63 = .ok (.iconst 0, 1) := by decide +kernel
theorem dX12_column_64 : decode cX12_column 64 = .ok (.invokevirtual 108, 3) := by decide +kernel
theorem dX12_column_67 : decode cX12_column 67 = .ok (.ireturn, 1) := by decide +kernel
theorem dX12_sizes_0 : decode cX12_sizes 0 = .ok (.iload_n 1, 1) := by decide +kernel
theorem dX12_sizes_1 : decode cX12_sizes 1 = .ok (.iconst 0, 1) := by decide +kernel
theorem dX12_sizes_2 : decode cX12_sizes 2 = .ok (.iconst 2, 1) := by decide +kernel
theorem dX12_sizes_3 : decode cX12_sizes 3 = .ok (.invokestatic 101, 3) := by decide +kernel
theorem dX12_sizes_6 : decode cX12_sizes 6 = .ok (.ifCond .ne 5, 3) := by decide +kernel
theorem dX12_sizes_9 : decode cX12_sizes 9 = .ok (.iconst (-1), 1) := by decide +kernel
theorem dX12_sizes_10 : decode cX12_sizes 10 = .ok (.ireturn, 1) := by decide +kernel
theorem dX12_sizes_11 : decode cX12_sizes 11 = .ok (.aload_n 0, 1) := by decide +kernel
theorem dX12_sizes_12 : decode cX12_sizes 12 = .ok (.getfield 24, 3) := by decide +kernel
theorem dX12_sizes_15 : decode cX12_sizes 15 = .ok (.bipush 24, 2) := by decide +kernel
theorem dX12_sizes_17 : decode cX12_sizes 17 = .ok (.iaload, 1) := by decide +kernel
theorem dX12_sizes_18 : decode cX12_sizes 18 = .ok (.ifCond .le 6, 3) := by decide +kernel
theorem dX12_sizes_21 : decode cX12_sizes 21 = .ok (.bipush (-3), 2) := by decide +kernel
theorem dX12_sizes_23 : decode cX12_sizes 23 = .ok (.ireturn, 1) := by decide +kernel
theorem dX12_sizes_24 : decode cX12_sizes 24 = .ok (.aload_n 0, 1) := by decide +kernel
theorem dX12_sizes_25 : decode cX12_sizes 25 = .ok (.getfield 24, 3) := by decide +kernel
theorem dX12_sizes_28 : decode cX12_sizes 28 = .ok (.sipush 315, 3) := by decide +kernel
theorem dX12_sizes_31 : decode cX12_sizes 31 = .ok (.iaload, 1) := by decide +kernel
theorem dX12_sizes_32 : decode cX12_sizes 32 = .ok (.istore_n 2, 1) := by decide +kernel
theorem dX12_sizes_33 : decode cX12_sizes 33 = .ok (.aload_n 0, 1) := by decide +kernel
theorem dX12_sizes_34 : decode cX12_sizes 34 = .ok (.getfield 24, 3) := by decide +kernel
theorem dX12_sizes_37 : decode cX12_sizes 37 = .ok (.sipush 315, 3) := by decide +kernel
theorem dX12_sizes_40 : decode cX12_sizes 40 = .ok (.iload_n 1, 1) := by decide +kernel
theorem dX12_sizes_41 : decode cX12_sizes 41 = .ok (.iastore, 1) := by decide +kernel
theorem dX12_sizes_42 : decode cX12_sizes 42 = .ok (.aload_n 0, 1) := by decide +kernel
theorem dX12_sizes_43 : decode cX12_sizes 43 = .ok (.iconst 0, 1) := by decide +kernel
theorem dX12_sizes_44 : decode cX12_sizes 44 = .ok (.putfield 11, 3) := by decide +kernel
theorem dX12_sizes_47 : decode cX12_sizes 47 = .ok (.iload_n 2, 1) := by decide +kernel
theorem dX12_sizes_48 : decode cX12_sizes 48 = .ok (.ireturn, 1) := by decide +kernel
theorem dX12_size_0 : decode cX12_size 0 = .ok (.aload_n 0, 1) := by decide +kernel
theorem dX12_size_1 : decode cX12_size 1 = .ok (.aload_n 0, 1) := by decide +kernel
theorem dX12_size_2 : decode cX12_size 2 = .ok (.iload_n 1, 1) := by decide +kernel
theorem dX12_size_3 : decode cX12_size 3 = .ok (.invokevirtual 111, 3) := by decide +kernel
theorem dX12_size_6 : decode cX12_size 6 = .ok (.invokevirtual 114, 3) := by decide +kernel
theorem dX12_size_9 : decode cX12_size 9 = .ok (.ireturn, 1) := by decide +kernel
theorem dX12_worth_0 : decode cX12_worth 0 = .ok (.iload_n 1, 1) := by decide +kernel
theorem dX12_worth_1 : decode cX12_worth 1 = .ok (.iconst 0, 1) := by decide +kernel
theorem dX12_worth_2 : decode cX12_worth 2 = .ok (.bipush 7, 2) := by decide +kernel
theorem dX12_worth_4 : decode cX12_worth 4 = .ok (.invokestatic 101, 3) := by decide +kernel
theorem dX12_worth_7 : decode cX12_worth 7 = .ok (.ifCond .eq 13, 3) := by decide +kernel
theorem dX12_worth_10 : decode cX12_worth 10 = .ok (.iload_n 2, 1) := by decide +kernel
theorem dX12_worth_11 : decode cX12_worth 11 = .ok (.iconst 0, 1) := by decide +kernel
theorem dX12_worth_12 : decode cX12_worth 12 = .ok (.bipush 99, 2) := by decide +kernel
theorem dX12_worth_14 : decode cX12_worth 14 = .ok (.invokestatic 101, 3) := by decide +kernel
theorem dX12_worth_17 : decode cX12_worth 17 = .ok (.ifCond .ne 9, 3) := by decide +kernel
theorem dX12_worth_20 : decode cX12_worth 20 = .ok (.aload_n 0, 1) := by decide +kernel
theorem dX12_worth_21 : decode cX12_worth 21 = .ok (.iconst (-1), 1) := by decide +kernel
theorem dX12_worth_22 : decode cX12_worth 22 = .ok (.invokevirtual 105, 3) := by decide +kernel
theorem dX12_worth_25 : decode cX12_worth 25 = .ok (.ireturn, 1) := by decide +kernel
theorem dX12_worth_26 : decode cX12_worth 26 = .ok (.aload_n 0, 1) := by decide +kernel
theorem dX12_worth_27 : decode cX12_worth 27 = .ok (.getfield 24, 3) := by decide +kernel
theorem dX12_worth_30 : decode cX12_worth 30 = .ok (.sipush 261, 3) := by decide +kernel
theorem dX12_worth_33 : decode cX12_worth 33 = .ok (.iload_n 1, 1) := by decide +kernel
theorem dX12_worth_34 : decode cX12_worth 34 = .ok (.iadd, 1) := by decide +kernel
theorem dX12_worth_35 : decode cX12_worth 35 = .ok (.iaload, 1) := by decide +kernel
theorem dX12_worth_36 : decode cX12_worth 36 = .ok (.istore_n 3, 1) := by decide +kernel
theorem dX12_worth_37 : decode cX12_worth 37 = .ok (.aload_n 0, 1) := by decide +kernel
theorem dX12_worth_38 : decode cX12_worth 38 = .ok (.getfield 24, 3) := by decide +kernel
theorem dX12_worth_41 : decode cX12_worth 41 = .ok (.sipush 261, 3) := by decide +kernel
theorem dX12_worth_44 : decode cX12_worth 44 = .ok (.iload_n 1, 1) := by decide +kernel
theorem dX12_worth_45 : decode cX12_worth 45 = .ok (.iadd, 1) := by decide +kernel
theorem dX12_worth_46 : decode cX12_worth 46 = .ok (.iload_n 2, 1) := by decide +kernel
theorem dX12_worth_47 : decode cX12_worth 47 = .ok (.iastore, 1) := by decide +kernel
theorem dX12_worth_48 : decode cX12_worth 48 = .ok (.aload_n 0, 1) := by decide +kernel
theorem dX12_worth_49 : decode cX12_worth 49 = .ok (.iload_n 3, 1) := by decide +kernel
theorem dX12_worth_50 : decode cX12_worth 50 = .ok (.invokevirtual 14, 3) := by decide +kernel
theorem dX12_worth_53 : decode cX12_worth 53 = .ok (.ireturn, 1) := by decide +kernel
theorem dX12_terms_0 : decode cX12_terms 0 = .ok (.iload_n 1, 1) := by decide +kernel
theorem dX12_terms_1 : decode cX12_terms 1 = .ok (.iconst 0, 1) := by decide +kernel
theorem dX12_terms_2 : decode cX12_terms 2 = .ok (.iconst 1, 1) := by decide +kernel
theorem dX12_terms_3 : decode cX12_terms 3 = .ok (.invokestatic 101, 3) := by decide +kernel
theorem dX12_terms_6 : decode cX12_terms 6 = .ok (.ifCond .eq 23, 3) := by decide +kernel
theorem dX12_terms_9 : decode cX12_terms 9 = .ok (.iload_n 2, 1) := by decide +kernel
theorem dX12_terms_10 : decode cX12_terms 10 = .ok (.iconst 0, 1) := by decide +kernel
theorem dX12_terms_11 : decode cX12_terms 11 = .ok (.iload_n 1, 1) := by decide +kernel
theorem dX12_terms_12 : decode cX12_terms 12 = .ok (.ifCond .ne 9, 3) := by decide +kernel
theorem dX12_terms_15 : decode cX12_terms 15 = .ok (.sipush 999, 3) := by decide +kernel
theorem dX12_terms_18 : decode cX12_terms 18 = .ok (.goto 5, 3) := by decide +kernel
theorem dX12_terms_21 : decode cX12_terms 21 = .ok (.bipush 9, 2) := by decide +kernel
theorem dX12_terms_23 : decode cX12_terms 23 = .ok (.invokestatic 101, 3) := by decide +kernel
theorem dX12_terms_26 : decode cX12_terms 26 = .ok (.ifCond .ne 9, 3) := by decide +kernel
theorem dX12_terms_29 : decode cX12_terms 29 = .ok (.aload_n 0, 1) := by decide +kernel
theorem dX12_terms_30 : decode cX12_terms 30 = .ok (.iconst (-1), 1) := by decide +kernel
theorem dX12_terms_31 : decode cX12_terms 31 = .ok (.invokevirtual 105, 3) := by decide +kernel
theorem dX12_terms_34 : decode cX12_terms 34 = .ok (.ireturn, 1) := by decide +kernel
theorem dX12_terms_35 : decode cX12_terms 35 = .ok (.aload_n 0, 1) := by decide +kernel
theorem dX12_terms_36 : decode cX12_terms 36 = .ok (.getfield 24, 3) := by decide +kernel
theorem dX12_terms_39 : decode cX12_terms 39 = .ok (.sipush 311, 3) := by decide +kernel
theorem dX12_terms_42 : decode cX12_terms 42 = .ok (.iload_n 1, 1) := by decide +kernel
theorem dX12_terms_43 : decode cX12_terms 43 = .ok (.iadd, 1) := by decide +kernel
theorem dX12_terms_44 : decode cX12_terms 44 = .ok (.iaload, 1) := by decide +kernel
theorem dX12_terms_45 : decode cX12_terms 45 = .ok (.istore_n 3, 1) := by decide +kernel
theorem dX12_terms_46 : decode cX12_terms 46 = .ok (.aload_n 0, 1) := by decide +kernel
theorem dX12_terms_47 : decode cX12_terms 47 = .ok (.getfield 24, 3) := by decide +kernel
theorem dX12_terms_50 : decode cX12_terms 50 = .ok (.sipush 311, 3) := by decide +kernel
theorem dX12_terms_53 : decode cX12_terms 53 = .ok (.iload_n 1, 1) := by decide +kernel
theorem dX12_terms_54 : decode cX12_terms 54 = .ok (.iadd, 1) := by decide +kernel
theorem dX12_terms_55 : decode cX12_terms 55 = .ok (.iload_n 2, 1) := by decide +kernel
theorem dX12_terms_56 : decode cX12_terms 56 = .ok (.iastore, 1) := by decide +kernel
theorem dX12_terms_57 : decode cX12_terms 57 = .ok (.aload_n 0, 1) := by decide +kernel
theorem dX12_terms_58 : decode cX12_terms 58 = .ok (.iload_n 3, 1) := by decide +kernel
theorem dX12_terms_59 : decode cX12_terms 59 = .ok (.invokevirtual 14, 3) := by decide +kernel
theorem dX12_terms_62 : decode cX12_terms 62 = .ok (.ireturn, 1) := by decide +kernel
theorem dX12_word_0 : decode cX12_word 0 = .ok (.iload_n 1, 1) := by decide +kernel
theorem dX12_word_1 : decode cX12_word 1 = .ok (.iconst 0, 1) := by decide +kernel
theorem dX12_word_2 : decode cX12_word 2 = .ok (.bipush 7, 2) := by decide +kernel
theorem dX12_word_4 : decode cX12_word 4 = .ok (.invokestatic 101, 3) := by decide +kernel
theorem dX12_word_7 : decode cX12_word 7 = .ok (.ifCond .eq 23, 3) := by decide +kernel
theorem dX12_word_10 : decode cX12_word 10 = .ok (.iload_n 2, 1) := by decide +kernel
theorem dX12_word_11 : decode cX12_word 11 = .ok (.iconst 0, 1) := by decide +kernel
theorem dX12_word_12 : decode cX12_word 12 = .ok (.bipush 99, 2) := by decide +kernel
theorem dX12_word_14 : decode cX12_word 14 = .ok (.invokestatic 101, 3) := by decide +kernel
theorem dX12_word_17 : decode cX12_word 17 = .ok (.ifCond .eq 13, 3) := by decide +kernel
theorem dX12_word_20 : decode cX12_word 20 = .ok (.iload_n 3, 1) := by decide +kernel
theorem dX12_word_21 : decode cX12_word 21 = .ok (.iconst 0, 1) := by decide +kernel
theorem dX12_word_22 : decode cX12_word 22 = .ok (.bipush 10, 2) := by decide +kernel
theorem dX12_word_24 : decode cX12_word 24 = .ok (.invokestatic 101, 3) := by decide +kernel
theorem dX12_word_27 : decode cX12_word 27 = .ok (.ifCond .ne 9, 3) := by decide +kernel
theorem dX12_word_30 : decode cX12_word 30 = .ok (.aload_n 0, 1) := by decide +kernel
theorem dX12_word_31 : decode cX12_word 31 = .ok (.iconst (-1), 1) := by decide +kernel
theorem dX12_word_32 : decode cX12_word 32 = .ok (.invokevirtual 105, 3) := by decide +kernel
theorem dX12_word_35 : decode cX12_word 35 = .ok (.ireturn, 1) := by decide +kernel
theorem dX12_word_36 : decode cX12_word 36 = .ok (.aload_n 0, 1) := by decide +kernel
theorem dX12_word_37 : decode cX12_word 37 = .ok (.getfield 117, 3) := by decide +kernel
theorem dX12_word_40 : decode cX12_word 40 = .ok (.istore 4, 2) := by decide +kernel
theorem dX12_word_42 : decode cX12_word 42 = .ok (.aload_n 0, 1) := by decide +kernel
theorem dX12_word_43 : decode cX12_word 43 = .ok (.iconst 0, 1) := by decide +kernel
theorem dX12_word_44 : decode cX12_word 44 = .ok (.putfield 117, 3) := by decide +kernel
theorem dX12_word_47 : decode cX12_word 47 = .ok (.aload_n 0, 1) := by decide +kernel
theorem dX12_word_48 : decode cX12_word 48 = .ok (.getfield 24, 3) := by decide +kernel
theorem dX12_word_51 : decode cX12_word 51 = .ok (.sipush 316, 3) := by decide +kernel
theorem dX12_word_54 : decode cX12_word 54 = .ok (.iaload, 1) := by decide +kernel
theorem dX12_word_55 : decode cX12_word 55 = .ok (.istore 5, 2) := by decide +kernel
theorem dX12_word_57 : decode cX12_word 57 = .ok (.iconst 0, 1) := by decide +kernel
theorem dX12_word_58 : decode cX12_word 58 = .ok (.istore 6, 2) := by decide +kernel
theorem dX12_word_60 : decode cX12_word 60 = .ok (.iconst 0, 1) := by decide +kernel
theorem dX12_word_61 : decode cX12_word 61 = .ok (.istore 7, 2) := by decide +kernel
theorem dX12_word_63 : decode cX12_word 63 = .ok (.iload 7, 2) := by decide +kernel
theorem dX12_word_65 : decode cX12_word 65 = .ok (.iload 5, 2) := by decide +kernel
theorem dX12_word_67 : decode cX12_word 67 = .ok (.if_icmp .ge 30, 3) := by decide +kernel
theorem dX12_word_70 : decode cX12_word 70 = .ok (.iload 6, 2) := by decide +kernel
theorem dX12_word_72 : decode cX12_word 72 = .ok (.aload_n 0, 1) := by decide +kernel
theorem dX12_word_73 : decode cX12_word 73 = .ok (.iload 7, 2) := by decide +kernel
theorem dX12_word_75 : decode cX12_word 75 = .ok (.iconst 0, 1) := by decide +kernel
theorem dX12_word_76 : decode cX12_word 76 = .ok (.invokevirtual 120, 3) := by decide +kernel
theorem dX12_word_79 : decode cX12_word 79 = .ok (.iload_n 1, 1) := by decide +kernel
theorem dX12_word_80 : decode cX12_word 80 = .ok (.if_icmp .ne 7, 3) := by decide +kernel
theorem dX12_word_83 : decode cX12_word 83 = .ok (.iconst 1, 1) := by decide +kernel
theorem dX12_word_84 : decode cX12_word 84 = .ok (.goto 4, 3) := by decide +kernel
theorem dX12_word_87 : decode cX12_word 87 = .ok (.iconst 0, 1) := by decide +kernel
theorem dX12_word_88 : decode cX12_word 88 = .ok (.iadd, 1) := by decide +kernel
theorem dX12_word_89 : decode cX12_word 89 = .ok (.istore 6, 2) := by decide +kernel
theorem dX12_word_91 : decode cX12_word 91 = .ok (.iinc 7 1, 3) := by decide +kernel
theorem dX12_word_94 : decode cX12_word 94 = .ok (.goto (-31), 3) := by decide +kernel
theorem dX12_word_97 : decode cX12_word 97 = .ok (.iload 6, 2) := by decide +kernel
theorem dX12_word_99 : decode cX12_word 99 = .ok (.iconst 3, 1) := by decide +kernel
theorem dX12_word_100 : decode cX12_word 100 = .ok (.if_icmp .ne 10, 3) := by decide +kernel
theorem dX12_word_103 : decode cX12_word 103 = .ok (.aload_n 0, 1) := by decide +kernel
theorem dX12_word_104 : decode cX12_word 104 = .ok (.bipush (-3), 2) := by decide +kernel
theorem dX12_word_106 : decode cX12_word 106 = .ok (.invokevirtual 105, 3) := by decide +kernel
theorem dX12_word_109 : decode cX12_word 109 = .ok (.ireturn, 1) := by decide +kernel
theorem dX12_word_110 : decode cX12_word 110 = .ok (.iload 5, 2) := by decide +kernel
theorem dX12_word_112 : decode cX12_word 112 = .ok (.bipush 16, 2) := by decide +kernel
theorem dX12_word_114 : decode cX12_word 114 = .ok (.if_icmp .ne 10, 3) := by decide +kernel
theorem dX12_word_117 : decode cX12_word 117 = .ok (.aload_n 0, 1) := by decide +kernel
theorem dX12_word_118 : decode cX12_word 118 = .ok (.bipush (-5), 2) := by decide +kernel
theorem dX12_word_120 : decode cX12_word 120 = .ok (.invokevirtual 105, 3) := by decide +kernel
theorem dX12_word_123 : decode cX12_word 123 = .ok (.ireturn, 1) := by decide +kernel
theorem dX12_word_124 : decode cX12_word 124 = .ok (.iload 4, 2) := by decide +kernel
theorem dX12_word_126 : decode cX12_word 126 = .ok (.iconst 1, 1) := by decide +kernel
theorem dX12_word_127 : decode cX12_word 127 = .ok (.bipush 9, 2) := by decide +kernel
theorem dX12_word_129 : decode cX12_word 129 = .ok (.invokestatic 101, 3) := by decide +kernel
theorem dX12_word_132 : decode cX12_word 132 = .ok (.istore 7, 2) := by decide +kernel
theorem dX12_word_134 : decode cX12_word 134 = .ok (.iconst 0, 1) := by decide +kernel
theorem dX12_word_135 : decode cX12_word 135 = .ok (.istore 8, 2) := by decide +kernel
theorem dX12_word_137 : decode cX12_word 137 = .ok (.iload 8, 2) := by decide +kernel
theorem dX12_word_139 : decode cX12_word 139 = .ok (.iload 4, 2) := by decide +kernel
theorem dX12_word_141 : decode cX12_word 141 = .ok (.if_icmp .ge 30, 3) := by decide +kernel
theorem dX12_word_144 : decode cX12_word 144 = .ok (.iload 7, 2) := by decide +kernel
theorem dX12_word_146 : decode cX12_word 146 = .ok (.ifCond .eq 25, 3) := by decide +kernel
theorem dX12_word_149 : decode cX12_word 149 = .ok (.aload_n 0, 1) := by decide +kernel
theorem dX12_word_150 : decode cX12_word 150 = .ok (.getfield 41, 3) := by decide +kernel
theorem dX12_word_153 : decode cX12_word 153 = .ok (.iload 8, 2) := by decide +kernel
theorem dX12_word_155 : decode cX12_word 155 = .ok (.baload, 1) := by decide +kernel
theorem dX12_word_156 : decode cX12_word 156 = .ok (.bipush 97, 2) := by decide +kernel
theorem dX12_word_158 : decode cX12_word 158 = .ok (.bipush 122, 2) := by decide +kernel
theorem dX12_word_160 : decode cX12_word 160 = .ok (.invokestatic 101, 3) := by decide +kernel
theorem dX12_word_163 : decode cX12_word 163 = .ok (.istore 7, 2) := by decide +kernel
theorem dX12_word_165 : decode cX12_word 165 = .ok (.iinc 8 1, 3) := by decide +kernel
theorem dX12_word_168 : decode cX12_word 168 = .ok (.goto (-31), 3) := by decide +kernel
theorem dX12_word_171 : decode cX12_word 171 = .ok (.iload 7, 2) := by decide +kernel
theorem dX12_word_173 : decode cX12_word 173 = .ok (.ifCond .ne 10, 3) := by decide +kernel
theorem dX12_word_176 : decode cX12_word 176 = .ok (.aload_n 0, 1) := by decide +kernel
theorem dX12_word_177 : decode cX12_word 177 = .ok (.bipush (-6), 2) := by decide +kernel
theorem dX12_word_179 : decode cX12_word 179 = .ok (.invokevirtual 105, 3) := by decide +kernel
theorem dX12_word_182 : decode cX12_word 182 = .ok (.ireturn, 1) := by decide +kernel
theorem dX12_word_183 : decode cX12_word 183 = .ok (.bipush 53, 2) := by decide +kernel
theorem dX12_word_185 : decode cX12_word 185 = .ok (.bipush 13, 2) := by decide +kernel
theorem dX12_word_187 : decode cX12_word 187 = .ok (.iload 5, 2) := by decide +kernel
theorem dX12_word_189 : decode cX12_word 189 = .ok (.imul, 1) := by decide +kernel
theorem dX12_word_190 : decode cX12_word 190 = .ok (.iadd, 1) := by decide +kernel
theorem dX12_word_191 : decode cX12_word 191 = .ok (.istore 8, 2) := by decide +kernel
theorem dX12_word_193 : decode cX12_word 193 = .ok (.aload_n 0, 1) := by decide +kernel
theorem dX12_word_194 : decode cX12_word 194 = .ok (.getfield 24, 3) := by decide +kernel
theorem dX12_word_197 : decode cX12_word 197 = .ok (.iload 8, 2) := by decide +kernel
theorem dX12_word_199 : decode cX12_word 199 = .ok (.iconst 0, 1) := by decide +kernel
theorem dX12_word_200 : decode cX12_word 200 = .ok (.iadd, 1) := by decide +kernel
theorem dX12_word_201 : decode cX12_word 201 = .ok (.iload_n 1, 1) := by decide +kernel
theorem dX12_word_202 : decode cX12_word 202 = .ok (.iastore, 1) := by decide +kernel
theorem dX12_word_203 : decode cX12_word 203 = .ok (.aload_n 0, 1) := by decide +kernel
theorem dX12_word_204 : decode cX12_word 204 = .ok (.getfield 24, 3) := by decide +kernel
theorem dX12_word_207 : decode cX12_word 207 = .ok (.iload 8, 2) := by decide +kernel
theorem dX12_word_209 : decode cX12_word 209 = .ok (.iconst 1, 1) := by decide +kernel
theorem dX12_word_210 : decode cX12_word 210 = .ok (.iadd, 1) := by decide +kernel
theorem dX12_word_211 : decode cX12_word 211 = .ok (.iload_n 2, 1) := by decide +kernel
theorem dX12_word_212 : decode cX12_word 212 = .ok (.iastore, 1) := by decide +kernel
theorem dX12_word_213 : decode cX12_word 213 = .ok (.aload_n 0, 1) := by decide +kernel
theorem dX12_word_214 : decode cX12_word 214 = .ok (.getfield 24, 3) := by decide +kernel
theorem dX12_word_217 : decode cX12_word 217 = .ok (.iload 8, 2) := by decide +kernel
theorem dX12_word_219 : decode cX12_word 219 = .ok (.iconst 2, 1) := by decide +kernel
theorem dX12_word_220 : decode cX12_word 220 = .ok (.iadd, 1) := by decide +kernel
theorem dX12_word_221 : decode cX12_word 221 = .ok (.iload_n 3, 1) := by decide +kernel
theorem dX12_word_222 : decode cX12_word 222 = .ok (.iastore, 1) := by decide +kernel
theorem dX12_word_223 : decode cX12_word 223 = .ok (.aload_n 0, 1) := by decide +kernel
theorem dX12_word_224 : decode cX12_word 224 = .ok (.getfield 24, 3) := by decide +kernel
theorem dX12_word_227 : decode cX12_word 227 = .ok (.iload 8, 2) := by decide +kernel
theorem dX12_word_229 : decode cX12_word 229 = .ok (.iconst 3, 1) := by decide +kernel
theorem dX12_word_230 : decode cX12_word 230 = .ok (.iadd, 1) := by decide +kernel
theorem dX12_word_231 : decode cX12_word 231 = .ok (.iload 4, 2) := by decide +kernel
theorem dX12_word_233 : decode cX12_word 233 = .ok (.iastore, 1) := by decide +kernel
theorem dX12_word_234 : decode cX12_word 234 = .ok (.iconst 0, 1) := by decide +kernel
theorem dX12_word_235 : decode cX12_word 235 = .ok (.istore 9, 2) := by decide +kernel
theorem dX12_word_237 : decode cX12_word 237 = .ok (.iload 9, 2) := by decide +kernel
theorem dX12_word_239 : decode cX12_word 239 = .ok (.bipush 9, 2) := by decide +kernel
theorem dX12_word_241 : decode cX12_word 241 = .ok (.if_icmp .ge 42, 3) := by decide +kernel
theorem dX12_word_244 : decode cX12_word 244 = .ok (.aload_n 0, 1) := by decide +kernel
theorem dX12_word_245 : decode cX12_word 245 = .ok (.getfield 24, 3) := by decide +kernel
theorem dX12_word_248 : decode cX12_word 248 = .ok (.iload 8, 2) := by decide +kernel
theorem dX12_word_250 : decode cX12_word 250 = .ok (.iconst 4, 1) := by decide +kernel
theorem dX12_word_251 : decode cX12_word 251 = .ok (.iadd, 1) := by decide +kernel
theorem dX12_word_252 : decode cX12_word 252 = .ok (.iload 9, 2) := by decide +kernel
theorem dX12_word_254 : decode cX12_word 254 = .ok (.iadd, 1) := by decide +kernel
theorem dX12_word_255 : decode cX12_word 255 = .ok (.iload 9, 2) := by decide +kernel
theorem dX12_word_257 : decode cX12_word 257 = .ok (.iload 4, 2) := by decide +kernel
theorem dX12_word_259 : decode cX12_word 259 = .ok (.if_icmp .ge 16, 3) := by decide +kernel
theorem dX12_word_262 : decode cX12_word 262 = .ok (.aload_n 0, 1) := by decide +kernel
theorem dX12_word_263 : decode cX12_word 263 = .ok (.getfield 41, 3) := by decide +kernel
theorem dX12_word_266 : decode cX12_word 266 = .ok (.iload 9, 2) := by decide +kernel
theorem dX12_word_268 : decode cX12_word 268 = .ok (.baload, 1) := by decide +kernel
theorem dX12_word_269 : decode cX12_word 269 = .ok (.bipush 97, 2) := by decide +kernel
theorem dX12_word_271 : decode cX12_word 271 = .ok (.isub, 1) := by decide +kernel
theorem dX12_word_272 : decode cX12_word 272 = .ok (.goto 4, 3) := by decide +kernel
theorem dX12_word_275 : decode cX12_word 275 = .ok (.iconst 0, 1) := by decide +kernel
theorem dX12_word_276 : decode cX12_word 276 = .ok (.iastore, 1) := by decide +kernel
theorem dX12_word_277 : decode cX12_word 277 = .ok (.iinc 9 1, 3) := by decide +kernel
theorem dX12_word_280 : decode cX12_word 280 = .ok (.goto (-43), 3) := by decide +kernel
theorem dX12_word_283 : decode cX12_word 283 = .ok (.aload_n 0, 1) := by decide +kernel
theorem dX12_word_284 : decode cX12_word 284 = .ok (.getfield 24, 3) := by decide +kernel
theorem dX12_word_287 : decode cX12_word 287 = .ok (.sipush 316, 3) := by decide +kernel
theorem dX12_word_290 : decode cX12_word 290 = .ok (.dup2, 1) := by decide +kernel
theorem dX12_word_291 : decode cX12_word 291 = .ok (.iaload, 1) := by decide +kernel
theorem dX12_word_292 : decode cX12_word 292 = .ok (.iconst 1, 1) := by decide +kernel
theorem dX12_word_293 : decode cX12_word 293 = .ok (.iadd, 1) := by decide +kernel
theorem dX12_word_294 : decode cX12_word 294 = .ok (.iastore, 1) := by decide +kernel
theorem dX12_word_295 : decode cX12_word 295 = .ok (.aload_n 0, 1) := by decide +kernel
theorem dX12_word_296 : decode cX12_word 296 = .ok (.iload 5, 2) := by decide +kernel
theorem dX12_word_298 : decode cX12_word 298 = .ok (.invokevirtual 14, 3) := by decide +kernel
theorem dX12_word_301 : decode cX12_word 301 = .ok (.ireturn, 1) := by decide +kernel
theorem dX12_hairsOf_0 : decode cX12_hairsOf 0 = .ok (.aload_n 0, 1) := by decide +kernel
theorem dX12_hairsOf_1 : decode cX12_hairsOf 1 = .ok (.getfield 24, 3) := by decide +kernel
theorem dX12_hairsOf_4 : decode cX12_hairsOf 4 = .ok (.bipush 26, 2) := by decide +kernel
theorem dX12_hairsOf_6 : decode cX12_hairsOf 6 = .ok (.iload_n 1, 1) := by decide +kernel
theorem dX12_hairsOf_7 : decode cX12_hairsOf 7 = .ok (.iadd, 1) := by decide +kernel
theorem dX12_hairsOf_8 : decode cX12_hairsOf 8 = .ok (.iaload, 1) := by decide +kernel
theorem dX12_hairsOf_9 : decode cX12_hairsOf 9 = .ok (.iload_n 2, 1) := by decide +kernel
theorem dX12_hairsOf_10 : decode cX12_hairsOf 10 = .ok (.iconst 2, 1) := by decide +kernel
theorem dX12_hairsOf_11 : decode cX12_hairsOf 11 = .ok (.iadd, 1) := by decide +kernel
theorem dX12_hairsOf_12 : decode cX12_hairsOf 12 = .ok (.imul, 1) := by decide +kernel
theorem dX12_hairsOf_13 : decode cX12_hairsOf 13 = .ok (.iconst 2, 1) := by decide +kernel
theorem dX12_hairsOf_14 : decode cX12_hairsOf 14 = .ok (.idiv, 1) := by decide +kernel
theorem dX12_hairsOf_15 : decode cX12_hairsOf 15 = .ok (.ireturn, 1) := by decide +kernel
theorem dX12_broadOf_0 : decode cX12_broadOf 0 = .ok (.iconst 0, 1) := by decide +kernel
theorem dX12_broadOf_1 : decode cX12_broadOf 1 = .ok (.istore_n 3, 1) := by decide +kernel
theorem dX12_broadOf_2 : decode cX12_broadOf 2 = .ok (.iconst 0, 1) := by decide +kernel
theorem dX12_broadOf_3 : decode cX12_broadOf 3 = .ok (.istore 4, 2) := by decide +kernel
theorem dX12_broadOf_5 : decode cX12_broadOf 5 = .ok (.iload 4, 2) := by decide +kernel
theorem dX12_broadOf_7 : decode cX12_broadOf 7 = .ok (.aload_n 0, 1) := by decide +kernel
theorem dX12_broadOf_8 : decode cX12_broadOf 8 = .ok (.iload_n 1, 1) := by decide +kernel
theorem dX12_broadOf_9 : decode cX12_broadOf 9 = .ok (.iconst 3, 1) := by decide +kernel
theorem dX12_broadOf_10 : decode cX12_broadOf 10 = .ok (.invokevirtual 120, 3) := by decide +kernel
theorem dX12_broadOf_13 : decode cX12_broadOf 13 = .ok (.if_icmp .ge 26, 3) := by decide +kernel
theorem dX12_broadOf_16 : decode cX12_broadOf 16 = .ok (.iload_n 3, 1) := by decide +kernel
theorem dX12_broadOf_17 : decode cX12_broadOf 17 = .ok (.aload_n 0, 1) := by decide +kernel
theorem dX12_broadOf_18 : decode cX12_broadOf 18 = .ok (.aload_n 0, 1) := by decide +kernel
theorem dX12_broadOf_19 : decode cX12_broadOf 19 = .ok (.iload_n 1, 1) := by decide +kernel
theorem dX12_broadOf_20 : decode cX12_broadOf 20 = .ok (.iconst 4, 1) := by decide +kernel
theorem dX12_broadOf_21 : decode cX12_broadOf 21 = .ok (.iload 4, 2) := by decide +kernel
theorem dX12_broadOf_23 : decode cX12_broadOf 23 = .ok (.iadd, 1) := by decide +kernel
theorem dX12_broadOf_24 : decode cX12_broadOf 24 = .ok (.invokevirtual 120, 3) := by decide +kernel
theorem dX12_broadOf_27 : decode cX12_broadOf 27 = .ok (.iload_n 2, 1) := by decide +kernel
theorem dX12_broadOf_28 : decode cX12_broadOf 28 = .ok (.invokevirtual 124, 3) := by decide +kernel
theorem dX12_broadOf_31 : decode cX12_broadOf 31 = .ok (.iadd, 1) := by decide +kernel
theorem dX12_broadOf_32 : decode cX12_broadOf 32 = .ok (.istore_n 3, 1) := by decide +kernel
theorem dX12_broadOf_33 : decode cX12_broadOf 33 = .ok (.iinc 4 1, 3) := by decide +kernel
theorem dX12_broadOf_36 : decode cX12_broadOf 36 = .ok (.goto (-31), 3) := by decide +kernel
theorem dX12_broadOf_39 : decode cX12_broadOf 39 = .ok (.iload_n 3, 1) := by decide +kernel
theorem dX12_broadOf_40 : decode cX12_broadOf 40 = .ok (.ireturn, 1) := by decide +kernel
theorem dX12_at_0 : decode cX12_at 0 = .ok (.aload_n 0, 1) := by decide +kernel
theorem dX12_at_1 : decode cX12_at 1 = .ok (.iload_n 1, 1) := by decide +kernel
theorem dX12_at_2 : decode cX12_at 2 = .ok (.invokevirtual 127, 3) := by decide +kernel
theorem dX12_at_5 : decode cX12_at 5 = .ok (.ifCond .ne 5, 3) := by decide +kernel
theorem dX12_at_8 : decode cX12_at 8 = .ok (.iconst (-1), 1) := by decide +kernel
theorem dX12_at_9 : decode cX12_at 9 = .ok (.ireturn, 1) := by decide +kernel
theorem dX12_at_10 : decode cX12_at 10 = .ok (.iload_n 2, 1) := by decide +kernel
theorem dX12_at_11 : decode cX12_at 11 = .ok (.tableswitch 101 0 7 #[45, 45, 45, 45, 52, 66, 73, 79], 45) := by decide +kernel
theorem dX12_at_56 : decode cX12_at 56 = .ok (.aload_n 0, 1) := by decide +kernel
theorem dX12_at_57 : decode cX12_at 57 = .ok (.iload_n 1, 1) := by decide +kernel
theorem dX12_at_58 : decode cX12_at 58 = .ok (.iload_n 2, 1) := by decide +kernel
theorem dX12_at_59 : decode cX12_at 59 = .ok (.invokevirtual 120, 3) := by decide +kernel
theorem dX12_at_62 : decode cX12_at 62 = .ok (.ireturn, 1) := by decide +kernel
theorem dX12_at_63 : decode cX12_at 63 = .ok (.aload_n 0, 1) := by decide +kernel
theorem dX12_at_64 : decode cX12_at 64 = .ok (.iload_n 1, 1) := by decide +kernel
theorem dX12_at_65 : decode cX12_at 65 = .ok (.aload_n 0, 1) := by decide +kernel
theorem dX12_at_66 : decode cX12_at 66 = .ok (.getfield 24, 3) := by decide +kernel
theorem dX12_at_69 : decode cX12_at 69 = .ok (.sipush 315, 3) := by decide +kernel
theorem dX12_at_72 : decode cX12_at 72 = .ok (.iaload, 1) := by decide +kernel
theorem dX12_at_73 : decode cX12_at 73 = .ok (.invokevirtual 131, 3) := by decide +kernel
theorem dX12_at_76 : decode cX12_at 76 = .ok (.ireturn, 1) := by decide +kernel
theorem dX12_at_77 : decode cX12_at 77 = .ok (.aload_n 0, 1) := by decide +kernel
theorem dX12_at_78 : decode cX12_at 78 = .ok (.iload_n 1, 1) := by decide +kernel
theorem dX12_at_79 : decode cX12_at 79 = .ok (.iconst 4, 1) := by decide +kernel
theorem dX12_at_80 : decode cX12_at 80 = .ok (.invokevirtual 120, 3) := by decide +kernel
theorem dX12_at_83 : decode cX12_at 83 = .ok (.ireturn, 1) := by decide +kernel
theorem dX12_at_84 : decode cX12_at 84 = .ok (.aload_n 0, 1) := by decide +kernel
theorem dX12_at_85 : decode cX12_at 85 = .ok (.iload_n 1, 1) := by decide +kernel
theorem dX12_at_86 : decode cX12_at 86 = .ok (.invokevirtual 134, 3) := by decide +kernel
theorem dX12_at_89 : decode cX12_at 89 = .ok (.ireturn, 1) := by decide +kernel
theorem dX12_at_90 : decode cX12_at 90 = .ok (.aload_n 0, 1) := by decide +kernel
theorem dX12_at_91 : decode cX12_at 91 = .ok (.iload_n 1, 1) := by decide +kernel
theorem dX12_at_92 : decode cX12_at 92 = .ok (.aload_n 0, 1) := by decide +kernel
theorem dX12_at_93 : decode cX12_at 93 = .ok (.getfield 24, 3) := by decide +kernel
theorem dX12_at_96 : decode cX12_at 96 = .ok (.sipush 315, 3) := by decide +kernel
theorem dX12_at_99 : decode cX12_at 99 = .ok (.iaload, 1) := by decide +kernel
theorem dX12_at_100 : decode cX12_at 100 = .ok (.invokevirtual 137, 3) := by decide +kernel
theorem dX12_at_103 : decode cX12_at 103 = .ok (.ifCond .eq 7, 3) := by decide +kernel
theorem dX12_at_106 : decode cX12_at 106 = .ok (.iconst 1, 1) := by decide +kernel
theorem dX12_at_107 : decode cX12_at 107 = .ok (.goto 4, 3) := by decide +kernel
theorem dX12_at_110 : decode cX12_at 110 = .ok (.iconst 0, 1) := by decide +kernel
theorem dX12_at_111 : decode cX12_at 111 = .ok (.ireturn, 1) := by decide +kernel
theorem dX12_at_112 : decode cX12_at 112 = .ok (.iconst (-1), 1) := by decide +kernel
theorem dX12_at_113 : decode cX12_at 113 = .ok (.ireturn, 1) := by decide +kernel
theorem dX12_say_0 : decode cX12_say 0 = .ok (.iload_n 1, 1) := by decide +kernel
theorem dX12_say_1 : decode cX12_say 1 = .ok (.iconst 0, 1) := by decide +kernel
theorem dX12_say_2 : decode cX12_say 2 = .ok (.bipush 7, 2) := by decide +kernel
theorem dX12_say_4 : decode cX12_say 4 = .ok (.invokestatic 101, 3) := by decide +kernel
theorem dX12_say_7 : decode cX12_say 7 = .ok (.ifCond .ne 9, 3) := by decide +kernel
theorem dX12_say_10 : decode cX12_say 10 = .ok (.aload_n 0, 1) := by decide +kernel
theorem dX12_say_11 : decode cX12_say 11 = .ok (.iconst (-1), 1) := by decide +kernel
theorem dX12_say_12 : decode cX12_say 12 = .ok (.invokevirtual 105, 3) := by decide +kernel
theorem dX12_say_15 : decode cX12_say 15 = .ok (.ireturn, 1) := by decide +kernel
theorem dX12_say_16 : decode cX12_say 16 = .ok (.aload_n 0, 1) := by decide +kernel
theorem dX12_say_17 : decode cX12_say 17 = .ok (.getfield 24, 3) := by decide +kernel
theorem dX12_say_20 : decode cX12_say 20 = .ok (.sipush 317, 3) := by decide +kernel
theorem dX12_say_23 : decode cX12_say 23 = .ok (.iaload, 1) := by decide +kernel
theorem dX12_say_24 : decode cX12_say 24 = .ok (.istore_n 2, 1) := by decide +kernel
theorem dX12_say_25 : decode cX12_say 25 = .ok (.iload_n 2, 1) := by decide +kernel
theorem dX12_say_26 : decode cX12_say 26 = .ok (.bipush 6, 2) := by decide +kernel
theorem dX12_say_28 : decode cX12_say 28 = .ok (.if_icmp .ne 10, 3) := by decide +kernel
theorem dX12_say_31 : decode cX12_say 31 = .ok (.aload_n 0, 1) := by decide +kernel
theorem dX12_say_32 : decode cX12_say 32 = .ok (.bipush (-5), 2) := by decide +kernel
theorem dX12_say_34 : decode cX12_say 34 = .ok (.invokevirtual 105, 3) := by decide +kernel
theorem dX12_say_37 : decode cX12_say 37 = .ok (.ireturn, 1) := by decide +kernel
theorem dX12_say_38 : decode cX12_say 38 = .ok (.aload_n 0, 1) := by decide +kernel
theorem dX12_say_39 : decode cX12_say 39 = .ok (.getfield 24, 3) := by decide +kernel
theorem dX12_say_42 : decode cX12_say 42 = .ok (.sipush 269, 3) := by decide +kernel
theorem dX12_say_45 : decode cX12_say 45 = .ok (.iload_n 2, 1) := by decide +kernel
theorem dX12_say_46 : decode cX12_say 46 = .ok (.iadd, 1) := by decide +kernel
theorem dX12_say_47 : decode cX12_say 47 = .ok (.iload_n 1, 1) := by decide +kernel
theorem dX12_say_48 : decode cX12_say 48 = .ok (.iastore, 1) := by decide +kernel
theorem dX12_say_49 : decode cX12_say 49 = .ok (.aload_n 0, 1) := by decide +kernel
theorem dX12_say_50 : decode cX12_say 50 = .ok (.getfield 24, 3) := by decide +kernel
theorem dX12_say_53 : decode cX12_say 53 = .ok (.sipush 317, 3) := by decide +kernel
theorem dX12_say_56 : decode cX12_say 56 = .ok (.dup2, 1) := by decide +kernel
theorem dX12_say_57 : decode cX12_say 57 = .ok (.iaload, 1) := by decide +kernel
theorem dX12_say_58 : decode cX12_say 58 = .ok (.iconst 1, 1) := by decide +kernel
theorem dX12_say_59 : decode cX12_say 59 = .ok (.iadd, 1) := by decide +kernel
theorem dX12_say_60 : decode cX12_say 60 = .ok (.iastore, 1) := by decide +kernel
theorem dX12_say_61 : decode cX12_say 61 = .ok (.aload_n 0, 1) := by decide +kernel
theorem dX12_say_62 : decode cX12_say 62 = .ok (.iload_n 2, 1) := by decide +kernel
theorem dX12_say_63 : decode cX12_say 63 = .ok (.iconst 1, 1) := by decide +kernel
theorem dX12_say_64 : decode cX12_say 64 = .ok (.iadd, 1) := by decide +kernel
theorem dX12_say_65 : decode cX12_say 65 = .ok (.invokevirtual 14, 3) := by decide +kernel
theorem dX12_say_68 : decode cX12_say 68 = .ok (.ireturn, 1) := by decide +kernel
theorem dX12_hush_0 : decode cX12_hush 0 = .ok (.aload_n 0, 1) := by decide +kernel
theorem dX12_hush_1 : decode cX12_hush 1 = .ok (.getfield 24, 3) := by decide +kernel
theorem dX12_hush_4 : decode cX12_hush 4 = .ok (.sipush 317, 3) := by decide +kernel
theorem dX12_hush_7 : decode cX12_hush 7 = .ok (.iaload, 1) := by decide +kernel
theorem dX12_hush_8 : decode cX12_hush 8 = .ok (.istore_n 1, 1) := by decide +kernel
theorem dX12_hush_9 : decode cX12_hush 9 = .ok (.aload_n 0, 1) := by decide +kernel
theorem dX12_hush_10 : decode cX12_hush 10 = .ok (.getfield 24, 3) := by decide +kernel
theorem dX12_hush_13 : decode cX12_hush 13 = .ok (.sipush 317, 3) := by decide +kernel
theorem dX12_hush_16 : decode cX12_hush 16 = .ok (.iconst 0, 1) := by decide +kernel
theorem dX12_hush_17 : decode cX12_hush 17 = .ok (.iastore, 1) := by decide +kernel
theorem dX12_hush_18 : decode cX12_hush 18 = .ok (.iload_n 1, 1) := by decide +kernel
theorem dX12_hush_19 : decode cX12_hush 19 = .ok (.ireturn, 1) := by decide +kernel
theorem dX12_beside_0 : decode cX12_beside 0 = .ok (.iload_n 1, 1) := by decide +kernel
theorem dX12_beside_1 : decode cX12_beside 1 = .ok (.iconst 0, 1) := by decide +kernel
theorem dX12_beside_2 : decode cX12_beside 2 = .ok (.iconst 3, 1) := by decide +kernel
theorem dX12_beside_3 : decode cX12_beside 3 = .ok (.invokestatic 101, 3) := by decide +kernel
theorem dX12_beside_6 : decode cX12_beside 6 = .ok (.ifCond .ne 9, 3) := by decide +kernel
theorem dX12_beside_9 : decode cX12_beside 9 = .ok (.aload_n 0, 1) := by decide +kernel
theorem dX12_beside_10 : decode cX12_beside 10 = .ok (.iconst (-1), 1) := by decide +kernel
theorem dX12_beside_11 : decode cX12_beside 11 = .ok (.invokevirtual 105, 3) := by decide +kernel
theorem dX12_beside_14 : decode cX12_beside 14 = .ok (.ireturn, 1) := by decide +kernel
theorem dX12_beside_15 : decode cX12_beside 15 = .ok (.iload_n 2, 1) := by decide +kernel
theorem dX12_beside_16 : decode cX12_beside 16 = .ok (.iconst (-1), 1) := by decide +kernel
theorem dX12_beside_17 : decode cX12_beside 17 = .ok (.if_icmp .eq 18, 3) := by decide +kernel
theorem dX12_beside_20 : decode cX12_beside 20 = .ok (.aload_n 0, 1) := by decide +kernel
theorem dX12_beside_21 : decode cX12_beside 21 = .ok (.iload_n 2, 1) := by decide +kernel
theorem dX12_beside_22 : decode cX12_beside 22 = .ok (.invokevirtual 127, 3) := by decide +kernel
theorem dX12_beside_25 : decode cX12_beside 25 = .ok (.ifCond .ne 10, 3) := by decide +kernel
theorem dX12_beside_28 : decode cX12_beside 28 = .ok (.aload_n 0, 1) := by decide +kernel
theorem dX12_beside_29 : decode cX12_beside 29 = .ok (.bipush (-2), 2) := by decide +kernel
theorem dX12_beside_31 : decode cX12_beside 31 = .ok (.invokevirtual 105, 3) := by decide +kernel
theorem dX12_beside_34 : decode cX12_beside 34 = .ok (.ireturn, 1) := by decide +kernel
theorem dX12_beside_35 : decode cX12_beside 35 = .ok (.aload_n 0, 1) := by decide +kernel
theorem dX12_beside_36 : decode cX12_beside 36 = .ok (.getfield 24, 3) := by decide +kernel
theorem dX12_beside_39 : decode cX12_beside 39 = .ok (.sipush 275, 3) := by decide +kernel
theorem dX12_beside_42 : decode cX12_beside 42 = .ok (.iload_n 1, 1) := by decide +kernel
theorem dX12_beside_43 : decode cX12_beside 43 = .ok (.iadd, 1) := by decide +kernel
theorem dX12_beside_44 : decode cX12_beside 44 = .ok (.iaload, 1) := by decide +kernel
theorem dX12_beside_45 : decode cX12_beside 45 = .ok (.istore_n 3, 1) := by decide +kernel
theorem dX12_beside_46 : decode cX12_beside 46 = .ok (.aload_n 0, 1) := by decide +kernel
theorem dX12_beside_47 : decode cX12_beside 47 = .ok (.getfield 24, 3) := by decide +kernel
theorem dX12_beside_50 : decode cX12_beside 50 = .ok (.sipush 275, 3) := by decide +kernel
theorem dX12_beside_53 : decode cX12_beside 53 = .ok (.iload_n 1, 1) := by decide +kernel
theorem dX12_beside_54 : decode cX12_beside 54 = .ok (.iadd, 1) := by decide +kernel
theorem dX12_beside_55 : decode cX12_beside 55 = .ok (.iload_n 2, 1) := by decide +kernel
theorem dX12_beside_56 : decode cX12_beside 56 = .ok (.iastore, 1) := by decide +kernel
theorem dX12_beside_57 : decode cX12_beside 57 = .ok (.aload_n 0, 1) := by decide +kernel
theorem dX12_beside_58 : decode cX12_beside 58 = .ok (.iload_n 3, 1) := by decide +kernel
theorem dX12_beside_59 : decode cX12_beside 59 = .ok (.invokevirtual 14, 3) := by decide +kernel
theorem dX12_beside_62 : decode cX12_beside 62 = .ok (.ireturn, 1) := by decide +kernel
theorem dX12_feed_0 : decode cX12_feed 0 = .ok (.aload_n 0, 1) := by decide +kernel
theorem dX12_feed_1 : decode cX12_feed 1 = .ok (.getfield 117, 3) := by decide +kernel
theorem dX12_feed_4 : decode cX12_feed 4 = .ok (.bipush 20, 2) := by decide +kernel
theorem dX12_feed_6 : decode cX12_feed 6 = .ok (.iadd, 1) := by decide +kernel
theorem dX12_feed_7 : decode cX12_feed 7 = .ok (.sipush 400, 3) := by decide +kernel
theorem dX12_feed_10 : decode cX12_feed 10 = .ok (.if_icmp .le 5, 3) := by decide +kernel
theorem dX12_feed_13 : decode cX12_feed 13 = .ok (.iconst (-1), 1) := by decide +kernel
theorem dX12_feed_14 : decode cX12_feed 14 = .ok (.ireturn, 1) := by decide +kernel
theorem dX12_feed_15 : decode cX12_feed 15 = .ok (.aload_n 0, 1) := by decide +kernel
theorem dX12_feed_16 : decode cX12_feed 16 = .ok (.getfield 44, 3) := by decide +kernel
theorem dX12_feed_19 : decode cX12_feed 19 = .ok (.iconst 0, 1) := by decide +kernel
theorem dX12_feed_20 : decode cX12_feed 20 = .ok (.iload_n 1, 1) := by decide +kernel
theorem dX12_feed_21 : decode cX12_feed 21 = .ok (.iastore, 1) := by decide +kernel
theorem dX12_feed_22 : decode cX12_feed 22 = .ok (.aload_n 0, 1) := by decide +kernel
theorem dX12_feed_23 : decode cX12_feed 23 = .ok (.getfield 44, 3) := by decide +kernel
theorem dX12_feed_26 : decode cX12_feed 26 = .ok (.iconst 1, 1) := by decide +kernel
theorem dX12_feed_27 : decode cX12_feed 27 = .ok (.iload_n 2, 1) := by decide +kernel
theorem dX12_feed_28 : decode cX12_feed 28 = .ok (.iastore, 1) := by decide +kernel
theorem dX12_feed_29 : decode cX12_feed 29 = .ok (.aload_n 0, 1) := by decide +kernel
theorem dX12_feed_30 : decode cX12_feed 30 = .ok (.getfield 44, 3) := by decide +kernel
theorem dX12_feed_33 : decode cX12_feed 33 = .ok (.iconst 2, 1) := by decide +kernel
theorem dX12_feed_34 : decode cX12_feed 34 = .ok (.iload_n 3, 1) := by decide +kernel
theorem dX12_feed_35 : decode cX12_feed 35 = .ok (.iastore, 1) := by decide +kernel
theorem dX12_feed_36 : decode cX12_feed 36 = .ok (.aload_n 0, 1) := by decide +kernel
theorem dX12_feed_37 : decode cX12_feed 37 = .ok (.getfield 44, 3) := by decide +kernel
theorem dX12_feed_40 : decode cX12_feed 40 = .ok (.iconst 3, 1) := by decide +kernel
theorem dX12_feed_41 : decode cX12_feed 41 = .ok (.iload 4, 2) := by decide +kernel
theorem dX12_feed_43 : decode cX12_feed 43 = .ok (.iastore, 1) := by decide +kernel
theorem dX12_feed_44 : decode cX12_feed 44 = .ok (.aload_n 0, 1) := by decide +kernel
theorem dX12_feed_45 : decode cX12_feed 45 = .ok (.getfield 44, 3) := by decide +kernel
theorem dX12_feed_48 : decode cX12_feed 48 = .ok (.iconst 4, 1) := by decide +kernel
theorem dX12_feed_49 : decode cX12_feed 49 = .ok (.iload 5, 2) := by decide +kernel
theorem dX12_feed_51 : decode cX12_feed 51 = .ok (.iastore, 1) := by decide +kernel
theorem dX12_feed_52 : decode cX12_feed 52 = .ok (.iconst 0, 1) := by decide +kernel
theorem dX12_feed_53 : decode cX12_feed 53 = .ok (.istore 6, 2) := by decide +kernel
theorem dX12_feed_55 : decode cX12_feed 55 = .ok (.iload 6, 2) := by decide +kernel
theorem dX12_feed_57 : decode cX12_feed 57 = .ok (.bipush 20, 2) := by decide +kernel
theorem dX12_feed_59 : decode cX12_feed 59 = .ok (.if_icmp .ge 42, 3) := by decide +kernel
theorem dX12_feed_62 : decode cX12_feed 62 = .ok (.aload_n 0, 1) := by decide +kernel
theorem dX12_feed_63 : decode cX12_feed 63 = .ok (.getfield 41, 3) := by decide +kernel
theorem dX12_feed_66 : decode cX12_feed 66 = .ok (.aload_n 0, 1) := by decide +kernel
theorem dX12_feed_67 : decode cX12_feed 67 = .ok (.getfield 117, 3) := by decide +kernel
theorem dX12_feed_70 : decode cX12_feed 70 = .ok (.iload 6, 2) := by decide +kernel
theorem dX12_feed_72 : decode cX12_feed 72 = .ok (.iadd, 1) := by decide +kernel
theorem dX12_feed_73 : decode cX12_feed 73 = .ok (.aload_n 0, 1) := by decide +kernel
theorem dX12_feed_74 : decode cX12_feed 74 = .ok (.getfield 44, 3) := by decide +kernel
theorem dX12_feed_77 : decode cX12_feed 77 = .ok (.iload 6, 2) := by decide +kernel
theorem dX12_feed_79 : decode cX12_feed 79 = .ok (.iconst 4, 1) := by decide +kernel
theorem dX12_feed_80 : decode cX12_feed 80 = .ok (.idiv, 1) := by decide +kernel
theorem dX12_feed_81 : decode cX12_feed 81 = .ok (.iaload, 1) := by decide +kernel
theorem dX12_feed_82 : decode cX12_feed 82 = .ok (.bipush 24, 2) := by decide +kernel
theorem dX12_feed_84 : decode cX12_feed 84 = .ok (.bipush 8, 2) := by decide +kernel
theorem dX12_feed_86 : decode cX12_feed 86 = .ok (.iload 6, 2) := by decide +kernel
theorem dX12_feed_88 : decode cX12_feed 88 = .ok (.iconst 4, 1) := by decide +kernel
theorem dX12_feed_89 : decode cX12_feed 89 = .ok (.irem, 1) := by decide +kernel
theorem dX12_feed_90 : decode cX12_feed 90 = .ok (.imul, 1) := by decide +kernel
theorem dX12_feed_91 : decode cX12_feed 91 = .ok (.isub, 1) := by decide +kernel
theorem dX12_feed_92 : decode cX12_feed 92 = .ok (.ishr, 1) := by decide +kernel
theorem dX12_feed_93 : decode cX12_feed 93 = .ok (.i2b, 1) := by decide +kernel
theorem dX12_feed_94 : decode cX12_feed 94 = .ok (.bastore, 1) := by decide +kernel
theorem dX12_feed_95 : decode cX12_feed 95 = .ok (.iinc 6 1, 3) := by decide +kernel
theorem dX12_feed_98 : decode cX12_feed 98 = .ok (.goto (-43), 3) := by decide +kernel
theorem dX12_feed_101 : decode cX12_feed 101 = .ok (.aload_n 0, 1) := by decide +kernel
theorem dX12_feed_102 : decode cX12_feed 102 = .ok (.dup, 1) := by decide +kernel
theorem dX12_feed_103 : decode cX12_feed 103 = .ok (.getfield 117, 3) := by decide +kernel
theorem dX12_feed_106 : decode cX12_feed 106 = .ok (.bipush 20, 2) := by decide +kernel
theorem dX12_feed_108 : decode cX12_feed 108 = .ok (.iadd, 1) := by decide +kernel
theorem dX12_feed_109 : decode cX12_feed 109 = .ok (.putfield 117, 3) := by decide +kernel
theorem dX12_feed_112 : decode cX12_feed 112 = .ok (.aload_n 0, 1) := by decide +kernel
theorem dX12_feed_113 : decode cX12_feed 113 = .ok (.getfield 117, 3) := by decide +kernel
theorem dX12_feed_116 : decode cX12_feed 116 = .ok (.ireturn, 1) := by decide +kernel
theorem dX12_end_0 : decode cX12_end 0 = .ok (.iload_n 1, 1) := by decide +kernel
theorem dX12_end_1 : decode cX12_end 1 = .ok (.iconst 0, 1) := by decide +kernel
theorem dX12_end_2 : decode cX12_end 2 = .ok (.aload_n 0, 1) := by decide +kernel
theorem dX12_end_3 : decode cX12_end 3 = .ok (.getfield 117, 3) := by decide +kernel
theorem dX12_end_6 : decode cX12_end 6 = .ok (.invokestatic 101, 3) := by decide +kernel
theorem dX12_end_9 : decode cX12_end 9 = .ok (.ifCond .ne 5, 3) := by decide +kernel
theorem dX12_end_12 : decode cX12_end 12 = .ok (.iconst (-1), 1) := by decide +kernel
theorem dX12_end_13 : decode cX12_end 13 = .ok (.ireturn, 1) := by decide +kernel
theorem dX12_end_14 : decode cX12_end 14 = .ok (.aload_n 0, 1) := by decide +kernel
theorem dX12_end_15 : decode cX12_end 15 = .ok (.iload_n 1, 1) := by decide +kernel
theorem dX12_end_16 : decode cX12_end 16 = .ok (.putfield 117, 3) := by decide +kernel
theorem dX12_end_19 : decode cX12_end 19 = .ok (.iload_n 1, 1) := by decide +kernel
theorem dX12_end_20 : decode cX12_end 20 = .ok (.ireturn, 1) := by decide +kernel
theorem dX12_isSmall_0 : decode cX12_isSmall 0 = .ok (.iload_n 0, 1) := by decide +kernel
theorem dX12_isSmall_1 : decode cX12_isSmall 1 = .ok (.bipush 97, 2) := by decide +kernel
theorem dX12_isSmall_3 : decode cX12_isSmall 3 = .ok (.if_icmp .lt 13, 3) := by decide +kernel
theorem dX12_isSmall_6 : decode cX12_isSmall 6 = .ok (.iload_n 0, 1) := by decide +kernel
theorem dX12_isSmall_7 : decode cX12_isSmall 7 = .ok (.bipush 122, 2) := by decide +kernel
theorem dX12_isSmall_9 : decode cX12_isSmall 9 = .ok (.if_icmp .gt 7, 3) := by decide +kernel
theorem dX12_isSmall_12 : decode cX12_isSmall 12 = .ok (.iconst 1, 1) := by decide +kernel
theorem dX12_isSmall_13 : decode cX12_isSmall 13 = .ok (.goto 4, 3) := by decide +kernel
theorem dX12_isSmall_16 : decode cX12_isSmall 16 = .ok (.iconst 0, 1) := by decide +kernel
theorem dX12_isSmall_17 : decode cX12_isSmall 17 = .ok (.ireturn, 1) := by decide +kernel
theorem dX12_isDigit_0 : decode cX12_isDigit 0 = .ok (.iload_n 0, 1) := by decide +kernel
theorem dX12_isDigit_1 : decode cX12_isDigit 1 = .ok (.bipush 48, 2) := by decide +kernel
theorem dX12_isDigit_3 : decode cX12_isDigit 3 = .ok (.if_icmp .lt 13, 3) := by decide +kernel
theorem dX12_isDigit_6 : decode cX12_isDigit 6 = .ok (.iload_n 0, 1) := by decide +kernel
theorem dX12_isDigit_7 : decode cX12_isDigit 7 = .ok (.bipush 57, 2) := by decide +kernel
theorem dX12_isDigit_9 : decode cX12_isDigit 9 = .ok (.if_icmp .gt 7, 3) := by decide +kernel
theorem dX12_isDigit_12 : decode cX12_isDigit 12 = .ok (.iconst 1, 1) := by decide +kernel
theorem dX12_isDigit_13 : decode cX12_isDigit 13 = .ok (.goto 4, 3) := by decide +kernel
theorem dX12_isDigit_16 : decode cX12_isDigit 16 = .ok (.iconst 0, 1) := by decide +kernel
theorem dX12_isDigit_17 : decode cX12_isDigit 17 = .ok (.ireturn, 1) := by decide +kernel
theorem dX12_wordAt_0 : decode cX12_wordAt 0 = .ok (.iconst 1, 1) := by decide +kernel
theorem dX12_wordAt_1 : decode cX12_wordAt 1 = .ok (.istore_n 3, 1) := by decide +kernel
theorem dX12_wordAt_2 : decode cX12_wordAt 2 = .ok (.iconst 0, 1) := by decide +kernel
theorem dX12_wordAt_3 : decode cX12_wordAt 3 = .ok (.istore 4, 2) := by decide +kernel
theorem dX12_wordAt_5 : decode cX12_wordAt 5 = .ok (.iload 4, 2) := by decide +kernel
theorem dX12_wordAt_7 : decode cX12_wordAt 7 = .ok (.aload_n 0, 1) := by decide +kernel
theorem dX12_wordAt_8 : decode cX12_wordAt 8 = .ok (.getfield 37, 3) := by decide +kernel
theorem dX12_wordAt_11 : decode cX12_wordAt 11 = .ok (.arraylength, 1) := by decide +kernel
theorem dX12_wordAt_12 : decode cX12_wordAt 12 = .ok (.if_icmp .ge 114, 3) := by decide +kernel
theorem dX12_wordAt_15 : decode cX12_wordAt 15 = .ok (.iconst 0, 1) := by decide +kernel
theorem dX12_wordAt_16 : decode cX12_wordAt 16 = .ok (.istore 5, 2) := by decide +kernel
theorem dX12_wordAt_18 : decode cX12_wordAt 18 = .ok (.aload_n 0, 1) := by decide +kernel
theorem dX12_wordAt_19 : decode cX12_wordAt 19 = .ok (.getfield 37, 3) := by decide +kernel
theorem dX12_wordAt_22 : decode cX12_wordAt 22 = .ok (.iload 4, 2) := by decide +kernel
theorem dX12_wordAt_24 : decode cX12_wordAt 24 = .ok (.iload 5, 2) := by decide +kernel
theorem dX12_wordAt_26 : decode cX12_wordAt 26 = .ok (.iadd, 1) := by decide +kernel
theorem dX12_wordAt_27 : decode cX12_wordAt 27 = .ok (.baload, 1) := by decide +kernel
theorem dX12_wordAt_28 : decode cX12_wordAt 28 = .ok (.bipush 32, 2) := by decide +kernel
theorem dX12_wordAt_30 : decode cX12_wordAt 30 = .ok (.if_icmp .eq 9, 3) := by decide +kernel
theorem dX12_wordAt_33 : decode cX12_wordAt 33 = .ok (.iinc 5 1, 3) := by decide +kernel
theorem dX12_wordAt_36 : decode cX12_wordAt 36 = .ok (.goto (-18), 3) := by decide +kernel
theorem dX12_wordAt_39 : decode cX12_wordAt 39 = .ok (.iload 5, 2) := by decide +kernel
theorem dX12_wordAt_41 : decode cX12_wordAt 41 = .ok (.iload_n 2, 1) := by decide +kernel
theorem dX12_wordAt_42 : decode cX12_wordAt 42 = .ok (.iload_n 1, 1) := by decide +kernel
theorem dX12_wordAt_43 : decode cX12_wordAt 43 = .ok (.isub, 1) := by decide +kernel
theorem dX12_wordAt_44 : decode cX12_wordAt 44 = .ok (.if_icmp .ne 7, 3) := by decide +kernel
theorem dX12_wordAt_47 : decode cX12_wordAt 47 = .ok (.iconst 1, 1) := by decide +kernel
theorem dX12_wordAt_48 : decode cX12_wordAt 48 = .ok (.goto 4, 3) := by decide +kernel
theorem dX12_wordAt_51 : decode cX12_wordAt 51 = .ok (.iconst 0, 1) := by decide +kernel
theorem dX12_wordAt_52 : decode cX12_wordAt 52 = .ok (.istore 6, 2) := by decide +kernel
theorem dX12_wordAt_54 : decode cX12_wordAt 54 = .ok (.iconst 0, 1) := by decide +kernel
theorem dX12_wordAt_55 : decode cX12_wordAt 55 = .ok (.istore 7, 2) := by decide +kernel
theorem dX12_wordAt_57 : decode cX12_wordAt 57 = .ok (.iload 7, 2) := by decide +kernel
theorem dX12_wordAt_59 : decode cX12_wordAt 59 = .ok (.iload 5, 2) := by decide +kernel
theorem dX12_wordAt_61 : decode cX12_wordAt 61 = .ok (.if_icmp .ge 43, 3) := by decide +kernel
theorem dX12_wordAt_64 : decode cX12_wordAt 64 = .ok (.iload 6, 2) := by decide +kernel
theorem dX12_wordAt_66 : decode cX12_wordAt 66 = .ok (.ifCond .eq 38, 3) := by decide +kernel
theorem dX12_wordAt_69 : decode cX12_wordAt 69 = .ok (.aload_n 0, 1) := by decide +kernel
theorem dX12_wordAt_70 : decode cX12_wordAt 70 = .ok (.getfield 37, 3) := by decide +kernel
theorem dX12_wordAt_73 : decode cX12_wordAt 73 = .ok (.iload 4, 2) := by decide +kernel
theorem dX12_wordAt_75 : decode cX12_wordAt 75 = .ok (.iload 7, 2) := by decide +kernel
theorem dX12_wordAt_77 : decode cX12_wordAt 77 = .ok (.iadd, 1) := by decide +kernel
theorem dX12_wordAt_78 : decode cX12_wordAt 78 = .ok (.baload, 1) := by decide +kernel
theorem dX12_wordAt_79 : decode cX12_wordAt 79 = .ok (.aload_n 0, 1) := by decide +kernel
theorem dX12_wordAt_80 : decode cX12_wordAt 80 = .ok (.getfield 41, 3) := by decide +kernel
theorem dX12_wordAt_83 : decode cX12_wordAt 83 = .ok (.iload_n 1, 1) := by decide +kernel
theorem dX12_wordAt_84 : decode cX12_wordAt 84 = .ok (.iload 7, 2) := by decide +kernel
theorem dX12_wordAt_86 : decode cX12_wordAt 86 = .ok (.iadd, 1) := by decide +kernel
theorem dX12_wordAt_87 : decode cX12_wordAt 87 = .ok (.baload, 1) := by decide +kernel
theorem dX12_wordAt_88 : decode cX12_wordAt 88 = .ok (.if_icmp .ne 7, 3) := by decide +kernel
theorem dX12_wordAt_91 : decode cX12_wordAt 91 = .ok (.iconst 1, 1) := by decide +kernel
theorem dX12_wordAt_92 : decode cX12_wordAt 92 = .ok (.goto 4, 3) := by decide +kernel
theorem dX12_wordAt_95 : decode cX12_wordAt 95 = .ok (.iconst 0, 1) := by decide +kernel
theorem dX12_wordAt_96 : decode cX12_wordAt 96 = .ok (.istore 6, 2) := by decide +kernel
theorem dX12_wordAt_98 : decode cX12_wordAt 98 = .ok (.iinc 7 1, 3) := by decide +kernel
theorem dX12_wordAt_101 : decode cX12_wordAt 101 = .ok (.goto (-44), 3) := by decide +kernel
theorem dX12_wordAt_104 : decode cX12_wordAt 104 = .ok (.iload 6, 2) := by decide +kernel
theorem dX12_wordAt_106 : decode cX12_wordAt 106 = .ok (.ifCond .eq 5, 3) := by decide +kernel
theorem dX12_wordAt_109 : decode cX12_wordAt 109 = .ok (.iload_n 3, 1) := by decide +kernel
theorem dX12_wordAt_110 : decode cX12_wordAt 110 = .ok (.ireturn, 1) := by decide +kernel
theorem dX12_wordAt_111 : decode cX12_wordAt 111 = .ok (.iload 4, 2) := by decide +kernel
theorem dX12_wordAt_113 : decode cX12_wordAt 113 = .ok (.iload 5, 2) := by decide +kernel
theorem dX12_wordAt_115 : decode cX12_wordAt 115 = .ok (.iconst 1, 1) := by decide +kernel
theorem dX12_wordAt_116 : decode cX12_wordAt 116 = .ok (.iadd, 1) := by decide +kernel
theorem dX12_wordAt_117 : decode cX12_wordAt 117 = .ok (.iadd, 1) := by decide +kernel
theorem dX12_wordAt_118 : decode cX12_wordAt 118 = .ok (.istore 4, 2) := by decide +kernel
theorem dX12_wordAt_120 : decode cX12_wordAt 120 = .ok (.iinc 3 1, 3) := by decide +kernel
theorem dX12_wordAt_123 : decode cX12_wordAt 123 = .ok (.goto (-118), 3) := by decide +kernel
theorem dX12_wordAt_126 : decode cX12_wordAt 126 = .ok (.iconst 0, 1) := by decide +kernel
theorem dX12_wordAt_127 : decode cX12_wordAt 127 = .ok (.ireturn, 1) := by decide +kernel
theorem dX12_splits_0 : decode cX12_splits 0 = .ok (.aload_n 0, 1) := by decide +kernel
theorem dX12_splits_1 : decode cX12_splits 1 = .ok (.iconst 0, 1) := by decide +kernel
theorem dX12_splits_2 : decode cX12_splits 2 = .ok (.putfield 141, 3) := by decide +kernel
theorem dX12_splits_5 : decode cX12_splits 5 = .ok (.iconst 0, 1) := by decide +kernel
theorem dX12_splits_6 : decode cX12_splits 6 = .ok (.istore_n 2, 1) := by decide +kernel
theorem dX12_splits_7 : decode cX12_splits 7 = .ok (.iload_n 2, 1) := by decide +kernel
theorem dX12_splits_8 : decode cX12_splits 8 = .ok (.iload_n 1, 1) := by decide +kernel
theorem dX12_splits_9 : decode cX12_splits 9 = .ok (.if_icmp .ge 254, 3) := by decide +kernel
theorem dX12_splits_12 : decode cX12_splits 12 = .ok (.aload_n 0, 1) := by decide +kernel
theorem dX12_splits_13 : decode cX12_splits 13 = .ok (.getfield 41, 3) := by decide +kernel
theorem dX12_splits_16 : decode cX12_splits 16 = .ok (.iload_n 2, 1) := by decide +kernel
theorem dX12_splits_17 : decode cX12_splits 17 = .ok (.baload, 1) := by decide +kernel
theorem dX12_splits_18 : decode cX12_splits 18 = .ok (.istore_n 3, 1) := by decide +kernel
theorem dX12_splits_19 : decode cX12_splits 19 = .ok (.iload_n 3, 1) := by decide +kernel
theorem dX12_splits_20 : decode cX12_splits 20 = .ok (.bipush 32, 2) := by decide +kernel
theorem dX12_splits_22 : decode cX12_splits 22 = .ok (.if_icmp .ne 9, 3) := by decide +kernel
theorem dX12_splits_25 : decode cX12_splits 25 = .ok (.iinc 2 1, 3) := by decide +kernel
theorem dX12_splits_28 : decode cX12_splits 28 = .ok (.goto (-21), 3) := by decide +kernel
theorem dX12_splits_31 : decode cX12_splits 31 = .ok (.iload_n 2, 1) := by decide +kernel
theorem dX12_splits_32 : decode cX12_splits 32 = .ok (.iconst 1, 1) := by decide +kernel
theorem dX12_splits_33 : decode cX12_splits 33 = .ok (.iadd, 1) := by decide +kernel
theorem dX12_splits_34 : decode cX12_splits 34 = .ok (.istore 4, 2) := by decide +kernel
theorem dX12_splits_36 : decode cX12_splits 36 = .ok (.iload_n 3, 1) := by decide +kernel
theorem dX12_splits_37 : decode cX12_splits 37 = .ok (.invokestatic 144, 3) := by decide +kernel
theorem dX12_splits_40 : decode cX12_splits 40 = .ok (.ifCond .eq 28, 3) := by decide +kernel
theorem dX12_splits_43 : decode cX12_splits 43 = .ok (.iload 4, 2) := by decide +kernel
theorem dX12_splits_45 : decode cX12_splits 45 = .ok (.iload_n 1, 1) := by decide +kernel
theorem dX12_splits_46 : decode cX12_splits 46 = .ok (.if_icmp .ge 22, 3) := by decide +kernel
theorem dX12_splits_49 : decode cX12_splits 49 = .ok (.aload_n 0, 1) := by decide +kernel
theorem dX12_splits_50 : decode cX12_splits 50 = .ok (.getfield 41, 3) := by decide +kernel
theorem dX12_splits_53 : decode cX12_splits 53 = .ok (.iload 4, 2) := by decide +kernel
theorem dX12_splits_55 : decode cX12_splits 55 = .ok (.baload, 1) := by decide +kernel
theorem dX12_splits_56 : decode cX12_splits 56 = .ok (.invokestatic 144, 3) := by decide +kernel
theorem dX12_splits_59 : decode cX12_splits 59 = .ok (.ifCond .eq 9, 3) := by decide +kernel
theorem dX12_splits_62 : decode cX12_splits 62 = .ok (.iinc 4 1, 3) := by decide +kernel
theorem dX12_splits_65 : decode cX12_splits 65 = .ok (.goto (-22), 3) := by decide +kernel
theorem dX12_splits_68 : decode cX12_splits 68 = .ok (.iload_n 3, 1) := by decide +kernel
theorem dX12_splits_69 : decode cX12_splits 69 = .ok (.invokestatic 147, 3) := by decide +kernel
theorem dX12_splits_72 : decode cX12_splits 72 = .ok (.ifCond .eq 28, 3) := by decide +kernel
theorem dX12_splits_75 : decode cX12_splits 75 = .ok (.iload 4, 2) := by decide +kernel
theorem dX12_splits_77 : decode cX12_splits 77 = .ok (.iload_n 1, 1) := by decide +kernel
theorem dX12_splits_78 : decode cX12_splits 78 = .ok (.if_icmp .ge 22, 3) := by decide +kernel
theorem dX12_splits_81 : decode cX12_splits 81 = .ok (.aload_n 0, 1) := by decide +kernel
theorem dX12_splits_82 : decode cX12_splits 82 = .ok (.getfield 41, 3) := by decide +kernel
theorem dX12_splits_85 : decode cX12_splits 85 = .ok (.iload 4, 2) := by decide +kernel
theorem dX12_splits_87 : decode cX12_splits 87 = .ok (.baload, 1) := by decide +kernel
theorem dX12_splits_88 : decode cX12_splits 88 = .ok (.invokestatic 147, 3) := by decide +kernel
theorem dX12_splits_91 : decode cX12_splits 91 = .ok (.ifCond .eq 9, 3) := by decide +kernel
theorem dX12_splits_94 : decode cX12_splits 94 = .ok (.iinc 4 1, 3) := by decide +kernel
theorem dX12_splits_97 : decode cX12_splits 97 = .ok (.goto (-22), 3) := by decide +kernel
theorem dX12_splits_100 : decode cX12_splits 100 = .ok (.aload_n 0, 1) := by decide +kernel
theorem dX12_splits_101 : decode cX12_splits 101 = .ok (.getfield 56, 3) := by decide +kernel
theorem dX12_splits_104 : decode cX12_splits 104 = .ok (.aload_n 0, 1) := by decide +kernel
theorem dX12_splits_105 : decode cX12_splits 105 = .ok (.getfield 141, 3) := by decide +kernel
theorem dX12_splits_108 : decode cX12_splits 108 = .ok (.iload_n 2, 1) := by decide +kernel
theorem dX12_splits_109 : decode cX12_splits 109 = .ok (.iastore, 1) := by decide +kernel
theorem dX12_splits_110 : decode cX12_splits 110 = .ok (.aload_n 0, 1) := by decide +kernel
theorem dX12_splits_111 : decode cX12_splits 111 = .ok (.getfield 53, 3) := by decide +kernel
theorem dX12_splits_114 : decode cX12_splits 114 = .ok (.aload_n 0, 1) := by decide +kernel
theorem dX12_splits_115 : decode cX12_splits 115 = .ok (.getfield 141, 3) := by decide +kernel
theorem dX12_splits_118 : decode cX12_splits 118 = .ok (.iconst 0, 1) := by decide +kernel
theorem dX12_splits_119 : decode cX12_splits 119 = .ok (.iastore, 1) := by decide +kernel
theorem dX12_splits_120 : decode cX12_splits 120 = .ok (.aload_n 0, 1) := by decide +kernel
theorem dX12_splits_121 : decode cX12_splits 121 = .ok (.getfield 50, 3) := by decide +kernel
theorem dX12_splits_124 : decode cX12_splits 124 = .ok (.aload_n 0, 1) := by decide +kernel
theorem dX12_splits_125 : decode cX12_splits 125 = .ok (.getfield 141, 3) := by decide +kernel
theorem dX12_splits_128 : decode cX12_splits 128 = .ok (.iload_n 3, 1) := by decide +kernel
theorem dX12_splits_129 : decode cX12_splits 129 = .ok (.invokestatic 144, 3) := by decide +kernel
theorem dX12_splits_132 : decode cX12_splits 132 = .ok (.ifCond .eq 13, 3) := by decide +kernel
theorem dX12_splits_135 : decode cX12_splits 135 = .ok (.aload_n 0, 1) := by decide +kernel
theorem dX12_splits_136 : decode cX12_splits 136 = .ok (.iload_n 2, 1) := by decide +kernel
theorem dX12_splits_137 : decode cX12_splits 137 = .ok (.iload 4, 2) := by decide +kernel
theorem dX12_splits_139 : decode cX12_splits 139 = .ok (.invokevirtual 150, 3) := by decide +kernel
theorem dX12_splits_142 : decode cX12_splits 142 = .ok (.goto 23, 3) := by decide +kernel
theorem dX12_splits_145 : decode cX12_splits 145 = .ok (.iload_n 3, 1) := by decide +kernel
theorem dX12_splits_146 : decode cX12_splits 146 = .ok (.invokestatic 147, 3) := by decide +kernel
theorem dX12_splits_149 : decode cX12_splits 149 = .ok (.ifCond .eq 8, 3) := by decide +kernel
theorem dX12_splits_152 : decode cX12_splits 152 = .ok (.bipush 50, 2) := by decide +kernel
theorem dX12_splits_154 : decode cX12_splits 154 = .ok (.goto 11, 3) := by decide +kernel
theorem dX12_splits_157 : decode cX12_splits 157 = .ok (.bipush 100, 2) := by decide +kernel
theorem dX12_splits_159 : decode cX12_splits 159 = .ok (.iload_n 3, 1) := by decide +kernel
theorem dX12_splits_160 : decode cX12_splits 160 = .ok (.sipush 255, 3) := by decide +kernel
theorem dX12_splits_163 : decode cX12_splits 163 = .ok (.iand, 1) := by decide +kernel
theorem dX12_splits_164 : decode cX12_splits 164 = .ok (.iadd, 1) := by decide +kernel
theorem dX12_splits_165 : decode cX12_splits 165 = .ok (.iastore, 1) := by decide +kernel
theorem dX12_splits_166 : decode cX12_splits 166 = .ok (.iload_n 2, 1) := by decide +kernel
theorem dX12_splits_167 : decode cX12_splits 167 = .ok (.istore 5, 2) := by decide +kernel
theorem dX12_splits_169 : decode cX12_splits 169 = .ok (.iload 5, 2) := by decide +kernel
theorem dX12_splits_171 : decode cX12_splits 171 = .ok (.iload 4, 2) := by decide +kernel
theorem dX12_splits_173 : decode cX12_splits 173 = .ok (.if_icmp .ge 74, 3) := by decide +kernel
theorem dX12_splits_176 : decode cX12_splits 176 = .ok (.iload_n 3, 1) := by decide +kernel
theorem dX12_splits_177 : decode cX12_splits 177 = .ok (.invokestatic 147, 3) := by decide +kernel
theorem dX12_splits_180 : decode cX12_splits 180 = .ok (.ifCond .eq 67, 3) := by decide +kernel
theorem dX12_splits_183 : decode cX12_splits 183 = .ok (.aload_n 0, 1) := by decide +kernel
theorem dX12_splits_184 : decode cX12_splits 184 = .ok (.getfield 53, 3) := by decide +kernel
theorem dX12_splits_187 : decode cX12_splits 187 = .ok (.aload_n 0, 1) := by decide +kernel
theorem dX12_splits_188 : decode cX12_splits 188 = .ok (.getfield 141, 3) := by decide +kernel
theorem dX12_splits_191 : decode cX12_splits 191 = .ok (.aload_n 0, 1) := by decide +kernel
theorem dX12_splits_192 : decode cX12_splits 192 = .ok (.getfield 53, 3) := by decide +kernel
theorem dX12_splits_195 : decode cX12_splits 195 = .ok (.aload_n 0, 1) := by decide +kernel
theorem dX12_splits_196 : decode cX12_splits 196 = .ok (.getfield 141, 3) := by decide +kernel
theorem dX12_splits_199 : decode cX12_splits 199 = .ok (.iaload, 1) := by decide +kernel
theorem dX12_splits_200 : decode cX12_splits 200 = .ok (.ldc 153, 2) := by decide +kernel
theorem dX12_splits_202 : decode cX12_splits 202 = .ok (.if_icmp .le 15, 3) := by decide +kernel
theorem dX12_splits_205 : decode cX12_splits 205 = .ok (.aload_n 0, 1) := by decide +kernel
theorem dX12_splits_206 : decode cX12_splits 206 = .ok (.getfield 53, 3) := by decide +kernel
theorem dX12_splits_209 : decode cX12_splits 209 = .ok (.aload_n 0, 1) := by decide +kernel
theorem dX12_splits_210 : decode cX12_splits 210 = .ok (.getfield 141, 3) := by decide +kernel
theorem dX12_splits_213 : decode cX12_splits 213 = .ok (.iaload, 1) := by decide +kernel
theorem dX12_splits_214 : decode cX12_splits 214 = .ok (.goto 26, 3) := by decide +kernel
theorem dX12_splits_217 : decode cX12_splits 217 = .ok (.bipush 10, 2) := by decide +kernel
theorem dX12_splits_219 : decode cX12_splits 219 = .ok (.aload_n 0, 1) := by decide +kernel
theorem dX12_splits_220 : decode cX12_splits 220 = .ok (.getfield 53, 3) := by decide +kernel
theorem dX12_splits_223 : decode cX12_splits 223 = .ok (.aload_n 0, 1) := by decide +kernel
theorem dX12_splits_224 : decode cX12_splits 224 = .ok (.getfield 141, 3) := by decide +kernel
theorem dX12_splits_227 : decode cX12_splits 227 = .ok (.iaload, 1) := by decide +kernel
theorem dX12_splits_228 : decode cX12_splits 228 = .ok (.imul, 1) := by decide +kernel
theorem dX12_splits_229 : decode cX12_splits 229 = .ok (.aload_n 0, 1) := by decide +kernel
theorem dX12_splits_230 : decode cX12_splits 230 = .ok (.getfield 41, 3) := by decide +kernel
theorem dX12_splits_233 : decode cX12_splits 233 = .ok (.iload 5, 2) := by decide +kernel
theorem dX12_splits_235 : decode cX12_splits 235 = .ok (.baload, 1) := by decide +kernel
theorem dX12_splits_236 : decode cX12_splits 236 = .ok (.iadd, 1) := by decide +kernel
theorem dX12_splits_237 : decode cX12_splits 237 = .ok (.bipush 48, 2) := by decide +kernel
theorem dX12_splits_239 : decode cX12_splits 239 = .ok (.isub, 1) := by decide +kernel
theorem dX12_splits_240 : decode cX12_splits 240 = .ok (.iastore, 1) := by decide +kernel
theorem dX12_splits_241 : decode cX12_splits 241 = .ok (.iinc 5 1, 3) := by decide +kernel
theorem dX12_splits_244 : decode cX12_splits 244 = .ok (.goto (-75), 3) := by decide +kernel
theorem dX12_splits_247 : decode cX12_splits 247 = .ok (.aload_n 0, 1) := by decide +kernel
theorem dX12_splits_248 : decode cX12_splits 248 = .ok (.dup, 1) := by decide +kernel
theorem dX12_splits_249 : decode cX12_splits 249 = .ok (.getfield 141, 3) := by decide +kernel
theorem dX12_splits_252 : decode cX12_splits 252 = .ok (.iconst 1, 1) := by decide +kernel
theorem dX12_splits_253 : decode cX12_splits 253 = .ok (.iadd, 1) := by decide +kernel
theorem dX12_splits_254 : decode cX12_splits 254 = .ok (.putfield 141, 3) := by decide +kernel
theorem dX12_splits_257 : decode cX12_splits 257 = .ok (.iload 4, 2) := by decide +kernel
theorem dX12_splits_259 : decode cX12_splits 259 = .ok (.istore_n 2, 1) := by decide +kernel
theorem dX12_splits_260 : decode cX12_splits 260 = .ok (.goto (-253), 3) := by decide +kernel
theorem dX12_splits_263 : decode cX12_splits 263 = .ok (.aload_n 0, 1) := by decide +kernel
theorem dX12_splits_264 : decode cX12_splits 264 = .ok (.getfield 56, 3) := by decide +kernel
theorem dX12_splits_267 : decode cX12_splits 267 = .ok (.aload_n 0, 1) := by decide +kernel
theorem dX12_splits_268 : decode cX12_splits 268 = .ok (.getfield 141, 3) := by decide +kernel
theorem dX12_splits_271 : decode cX12_splits 271 = .ok (.iload_n 1, 1) := by decide +kernel
theorem dX12_splits_272 : decode cX12_splits 272 = .ok (.iastore, 1) := by decide +kernel
theorem dX12_splits_273 : decode cX12_splits 273 = .ok (.aload_n 0, 1) := by decide +kernel
theorem dX12_splits_274 : decode cX12_splits 274 = .ok (.getfield 50, 3) := by decide +kernel
theorem dX12_splits_277 : decode cX12_splits 277 = .ok (.aload_n 0, 1) := by decide +kernel
theorem dX12_splits_278 : decode cX12_splits 278 = .ok (.getfield 141, 3) := by decide +kernel
theorem dX12_splits_281 : decode cX12_splits 281 = .ok (.iconst 0, 1) := by decide +kernel
theorem dX12_splits_282 : decode cX12_splits 282 = .ok (.iastore, 1) := by decide +kernel
theorem dX12_splits_283 : decode cX12_splits 283 = .ok (.aload_n 0, 1) := by decide +kernel
theorem dX12_splits_284 : decode cX12_splits 284 = .ok (.getfield 53, 3) := by decide +kernel
theorem dX12_splits_287 : decode cX12_splits 287 = .ok (.aload_n 0, 1) := by decide +kernel
theorem dX12_splits_288 : decode cX12_splits 288 = .ok (.getfield 141, 3) := by decide +kernel
theorem dX12_splits_291 : decode cX12_splits 291 = .ok (.iconst 0, 1) := by decide +kernel
theorem dX12_splits_292 : decode cX12_splits 292 = .ok (.iastore, 1) := by decide +kernel
theorem dX12_splits_293 : decode cX12_splits 293 = .ok (.return_, 1) := by decide +kernel
theorem dX12_fine_0 : decode cX12_fine 0 = .ok (.aload_n 0, 1) := by decide +kernel
theorem dX12_fine_1 : decode cX12_fine 1 = .ok (.getfield 154, 3) := by decide +kernel
theorem dX12_fine_4 : decode cX12_fine 4 = .ok (.iconst (-1), 1) := by decide +kernel
theorem dX12_fine_5 : decode cX12_fine 5 = .ok (.if_icmp .ne 7, 3) := by decide +kernel
theorem dX12_fine_8 : decode cX12_fine 8 = .ok (.iconst 1, 1) := by decide +kernel
theorem dX12_fine_9 : decode cX12_fine 9 = .ok (.goto 4, 3) := by decide +kernel
theorem dX12_fine_12 : decode cX12_fine 12 = .ok (.iconst 0, 1) := by decide +kernel
theorem dX12_fine_13 : decode cX12_fine 13 = .ok (.ireturn, 1) := by decide +kernel
theorem dX12_faults_0 : decode cX12_faults 0 = .ok (.aload_n 0, 1) := by decide +kernel
theorem dX12_faults_1 : decode cX12_faults 1 = .ok (.invokevirtual 157, 3) := by decide +kernel
theorem dX12_faults_4 : decode cX12_faults 4 = .ok (.ifCond .eq 16, 3) := by decide +kernel
theorem dX12_faults_7 : decode cX12_faults 7 = .ok (.aload_n 0, 1) := by decide +kernel
theorem dX12_faults_8 : decode cX12_faults 8 = .ok (.aload_n 0, 1) := by decide +kernel
