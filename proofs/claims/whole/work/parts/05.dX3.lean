theorem dX3_init_0 : decode cX3_init 0 = .ok (.aload_n 0, 1) := by decide +kernel
theorem dX3_init_1 : decode cX3_init 1 = .ok (.invokespecial 1, 3) := by decide +kernel
theorem dX3_init_4 : decode cX3_init 4 = .ok (.aload_n 0, 1) := by decide +kernel
theorem dX3_init_5 : decode cX3_init 5 = .ok (.bipush 8, 2) := by decide +kernel
theorem dX3_init_7 : decode cX3_init 7 = .ok (.newarray .int, 2) := by decide +kernel
theorem dX3_init_9 : decode cX3_init 9 = .ok (.putfield 9, 3) := by decide +kernel
theorem dX3_init_12 : decode cX3_init 12 = .ok (.aload_n 0, 1) := by decide +kernel
theorem dX3_init_13 : decode cX3_init 13 = .ok (.bipush 8, 2) := by decide +kernel
theorem dX3_init_15 : decode cX3_init 15 = .ok (.newarray .char, 2) := by decide +kernel
theorem dX3_init_17 : decode cX3_init 17 = .ok (.putfield 13, 3) := by decide +kernel
theorem dX3_init_20 : decode cX3_init 20 = .ok (.aload_n 0, 1) := by decide +kernel
theorem dX3_init_21 : decode cX3_init 21 = .ok (.sipush 256, 3) := by decide +kernel
theorem dX3_init_24 : decode cX3_init 24 = .ok (.newarray .int, 2) := by decide +kernel
theorem dX3_init_26 : decode cX3_init 26 = .ok (.putfield 17, 3) := by decide +kernel
theorem dX3_init_29 : decode cX3_init 29 = .ok (.aload_n 0, 1) := by decide +kernel
theorem dX3_init_30 : decode cX3_init 30 = .ok (.sipush 256, 3) := by decide +kernel
theorem dX3_init_33 : decode cX3_init 33 = .ok (.newarray .int, 2) := by decide +kernel
theorem dX3_init_35 : decode cX3_init 35 = .ok (.putfield 20, 3) := by decide +kernel
theorem dX3_init_38 : decode cX3_init 38 = .ok (.aload_n 0, 1) := by decide +kernel
theorem dX3_init_39 : decode cX3_init 39 = .ok (.sipush 256, 3) := by decide +kernel
theorem dX3_init_42 : decode cX3_init 42 = .ok (.newarray .boolean, 2) := by decide +kernel
theorem dX3_init_44 : decode cX3_init 44 = .ok (.putfield 23, 3) := by decide +kernel
theorem dX3_init_47 : decode cX3_init 47 = .ok (.aload_n 0, 1) := by decide +kernel
theorem dX3_init_48 : decode cX3_init 48 = .ok (.sipush 256, 3) := by decide +kernel
theorem dX3_init_51 : decode cX3_init 51 = .ok (.newarray .boolean, 2) := by decide +kernel
theorem dX3_init_53 : decode cX3_init 53 = .ok (.putfield 27, 3) := by decide +kernel
theorem dX3_init_56 : decode cX3_init 56 = .ok (.aload_n 0, 1) := by decide +kernel
theorem dX3_init_57 : decode cX3_init 57 = .ok (.sipush 400, 3) := by decide +kernel
theorem dX3_init_60 : decode cX3_init 60 = .ok (.iconst 3, 1) := by decide +kernel
theorem dX3_init_61 : decode cX3_init 61 = .ok (.multianewarray 30 2, 4) := by decide +kernel
theorem dX3_init_65 : decode cX3_init 65 = .ok (.putfield 32, 3) := by decide +kernel
theorem dX3_init_68 : decode cX3_init 68 = .ok (.aload_n 0, 1) := by decide +kernel
theorem dX3_init_69 : decode cX3_init 69 = .ok (.sipush 400, 3) := by decide +kernel
theorem dX3_init_72 : decode cX3_init 72 = .ok (.iconst 3, 1) := by decide +kernel
theorem dX3_init_73 : decode cX3_init 73 = .ok (.multianewarray 30 2, 4) := by decide +kernel
theorem dX3_init_77 : decode cX3_init 77 = .ok (.putfield 35, 3) := by decide +kernel
theorem dX3_init_80 : decode cX3_init 80 = .ok (.aload_n 0, 1) := by decide +kernel
theorem dX3_init_81 : decode cX3_init 81 = .ok (.sipush 400, 3) := by decide +kernel
theorem dX3_init_84 : decode cX3_init 84 = .ok (.newarray .int, 2) := by decide +kernel
theorem dX3_init_86 : decode cX3_init 86 = .ok (.putfield 38, 3) := by decide +kernel
theorem dX3_init_89 : decode cX3_init 89 = .ok (.aload_n 0, 1) := by decide +kernel
theorem dX3_init_90 : decode cX3_init 90 = .ok (.sipush 400, 3) := by decide +kernel
theorem dX3_init_93 : decode cX3_init 93 = .ok (.newarray .int, 2) := by decide +kernel
theorem dX3_init_95 : decode cX3_init 95 = .ok (.putfield 41, 3) := by decide +kernel
theorem dX3_init_98 : decode cX3_init 98 = .ok (.aload_n 0, 1) := by decide +kernel
theorem dX3_init_99 : decode cX3_init 99 = .ok (.sipush 400, 3) := by decide +kernel
theorem dX3_init_102 : decode cX3_init 102 = .ok (.newarray .int, 2) := by decide +kernel
theorem dX3_init_104 : decode cX3_init 104 = .ok (.putfield 44, 3) := by decide +kernel
theorem dX3_init_107 : decode cX3_init 107 = .ok (.aload_n 0, 1) := by decide +kernel
theorem dX3_init_108 : decode cX3_init 108 = .ok (.sipush 400, 3) := by decide +kernel
theorem dX3_init_111 : decode cX3_init 111 = .ok (.newarray .int, 2) := by decide +kernel
theorem dX3_init_113 : decode cX3_init 113 = .ok (.putfield 47, 3) := by decide +kernel
theorem dX3_init_116 : decode cX3_init 116 = .ok (.aload_n 0, 1) := by decide +kernel
theorem dX3_init_117 : decode cX3_init 117 = .ok (.sipush 400, 3) := by decide +kernel
theorem dX3_init_120 : decode cX3_init 120 = .ok (.newarray .boolean, 2) := by decide +kernel
theorem dX3_init_122 : decode cX3_init 122 = .ok (.putfield 50, 3) := by decide +kernel
theorem dX3_init_125 : decode cX3_init 125 = .ok (.aload_n 0, 1) := by decide +kernel
theorem dX3_init_126 : decode cX3_init 126 = .ok (.iconst 4, 1) := by decide +kernel
theorem dX3_init_127 : decode cX3_init 127 = .ok (.newarray .int, 2) := by decide +kernel
theorem dX3_init_129 : decode cX3_init 129 = .ok (.putfield 53, 3) := by decide +kernel
theorem dX3_init_132 : decode cX3_init 132 = .ok (.aload_n 0, 1) := by decide +kernel
theorem dX3_init_133 : decode cX3_init 133 = .ok (.iconst 4, 1) := by decide +kernel
theorem dX3_init_134 : decode cX3_init 134 = .ok (.newarray .int, 2) := by decide +kernel
theorem dX3_init_136 : decode cX3_init 136 = .ok (.putfield 56, 3) := by decide +kernel
theorem dX3_init_139 : decode cX3_init 139 = .ok (.aload_n 0, 1) := by decide +kernel
theorem dX3_init_140 : decode cX3_init 140 = .ok (.iconst 4, 1) := by decide +kernel
theorem dX3_init_141 : decode cX3_init 141 = .ok (.newarray .int, 2) := by decide +kernel
theorem dX3_init_143 : decode cX3_init 143 = .ok (.putfield 59, 3) := by decide +kernel
theorem dX3_init_146 : decode cX3_init 146 = .ok (.aload_n 0, 1) := by decide +kernel
theorem dX3_init_147 : decode cX3_init 147 = .ok (.iconst 4, 1) := by decide +kernel
theorem dX3_init_148 : decode cX3_init 148 = .ok (.newarray .int, 2) := by decide +kernel
theorem dX3_init_150 : decode cX3_init 150 = .ok (.putfield 62, 3) := by decide +kernel
theorem dX3_init_153 : decode cX3_init 153 = .ok (.aload_n 0, 1) := by decide +kernel
theorem dX3_init_154 : decode cX3_init 154 = .ok (.iconst 4, 1) := by decide +kernel
theorem dX3_init_155 : decode cX3_init 155 = .ok (.newarray .int, 2) := by decide +kernel
theorem dX3_init_157 : decode cX3_init 157 = .ok (.putfield 65, 3) := by decide +kernel
theorem dX3_init_160 : decode cX3_init 160 = .ok (.aload_n 0, 1) := by decide +kernel
theorem dX3_init_161 : decode cX3_init 161 = .ok (.iconst 4, 1) := by decide +kernel
theorem dX3_init_162 : decode cX3_init 162 = .ok (.newarray .int, 2) := by decide +kernel
theorem dX3_init_164 : decode cX3_init 164 = .ok (.putfield 68, 3) := by decide +kernel
theorem dX3_init_167 : decode cX3_init 167 = .ok (.aload_n 0, 1) := by decide +kernel
theorem dX3_init_168 : decode cX3_init 168 = .ok (.iconst 4, 1) := by decide +kernel
theorem dX3_init_169 : decode cX3_init 169 = .ok (.newarray .int, 2) := by decide +kernel
theorem dX3_init_171 : decode cX3_init 171 = .ok (.putfield 71, 3) := by decide +kernel
theorem dX3_init_174 : decode cX3_init 174 = .ok (.aload_n 0, 1) := by decide +kernel
theorem dX3_init_175 : decode cX3_init 175 = .ok (.sipush 300, 3) := by decide +kernel
theorem dX3_init_178 : decode cX3_init 178 = .ok (.newarray .int, 2) := by decide +kernel
theorem dX3_init_180 : decode cX3_init 180 = .ok (.putfield 74, 3) := by decide +kernel
theorem dX3_init_183 : decode cX3_init 183 = .ok (.aload_n 0, 1) := by decide +kernel
theorem dX3_init_184 : decode cX3_init 184 = .ok (.sipush 300, 3) := by decide +kernel
theorem dX3_init_187 : decode cX3_init 187 = .ok (.newarray .int, 2) := by decide +kernel
theorem dX3_init_189 : decode cX3_init 189 = .ok (.putfield 77, 3) := by decide +kernel
theorem dX3_init_192 : decode cX3_init 192 = .ok (.aload_n 0, 1) := by decide +kernel
theorem dX3_init_193 : decode cX3_init 193 = .ok (.sipush 300, 3) := by decide +kernel
theorem dX3_init_196 : decode cX3_init 196 = .ok (.newarray .int, 2) := by decide +kernel
theorem dX3_init_198 : decode cX3_init 198 = .ok (.putfield 80, 3) := by decide +kernel
theorem dX3_init_201 : decode cX3_init 201 = .ok (.aload_n 0, 1) := by decide +kernel
theorem dX3_init_202 : decode cX3_init 202 = .ok (.sipush 300, 3) := by decide +kernel
theorem dX3_init_205 : decode cX3_init 205 = .ok (.newarray .char, 2) := by decide +kernel
theorem dX3_init_207 : decode cX3_init 207 = .ok (.putfield 83, 3) := by decide +kernel
theorem dX3_init_210 : decode cX3_init 210 = .ok (.aload_n 0, 1) := by decide +kernel
theorem dX3_init_211 : decode cX3_init 211 = .ok (.bipush 10, 2) := by decide +kernel
theorem dX3_init_213 : decode cX3_init 213 = .ok (.putfield 86, 3) := by decide +kernel
theorem dX3_init_216 : decode cX3_init 216 = .ok (.aload_n 0, 1) := by decide +kernel
theorem dX3_init_217 : decode cX3_init 217 = .ok (.ldc 90, 2) := by decide +kernel
theorem dX3_init_219 : decode cX3_init 219 = .ok (.putfield 92, 3) := by decide +kernel
theorem dX3_init_222 : decode cX3_init 222 = .ok (.return_, 1) := by decide +kernel
theorem dX3_thrown_0 : decode cX3_thrown 0 = .ok (.aload_n 0, 1) := by decide +kernel
theorem dX3_thrown_1 : decode cX3_thrown 1 = .ok (.getfield 96, 3) := by decide +kernel
theorem dX3_thrown_4 : decode cX3_thrown 4 = .ok (.ireturn, 1) := by decide +kernel
theorem dX3_fails_0 : decode cX3_fails 0 = .ok (.aload_n 0, 1) := by decide +kernel
theorem dX3_fails_1 : decode cX3_fails 1 = .ok (.iload_n 1, 1) := by decide +kernel
theorem dX3_fails_2 : decode cX3_fails 2 = .ok (.putfield 96, 3) := by decide +kernel
theorem dX3_fails_5 : decode cX3_fails 5 = .ok (.iconst 0, 1) := by decide +kernel
theorem dX3_fails_6 : decode cX3_fails 6 = .ok (.ireturn, 1) := by decide +kernel
theorem dX3_isBetween_0 : decode cX3_isBetween 0 = .ok (.iload_n 1, 1) := by decide +kernel
theorem dX3_isBetween_1 : decode cX3_isBetween 1 = .ok (.iload_n 0, 1) := by decide +kernel
theorem dX3_isBetween_2 : decode cX3_isBetween 2 = .ok (.if_icmp .gt 12, 3) := by decide +kernel
theorem dX3_isBetween_5 : decode cX3_isBetween 5 = .ok (.iload_n 0, 1) := by decide +kernel
theorem dX3_isBetween_6 : decode cX3_isBetween 6 = .ok (.iload_n 2, 1) := by decide +kernel
theorem dX3_isBetween_7 : decode cX3_isBetween 7 = .ok (.if_icmp .gt 7, 3) := by decide +kernel
theorem dX3_isBetween_10 : decode cX3_isBetween 10 = .ok (.iconst 1, 1) := by decide +kernel
theorem dX3_isBetween_11 : decode cX3_isBetween 11 = .ok (.goto 4, 3) := by decide +kernel
theorem dX3_isBetween_14 : decode cX3_isBetween 14 = .ok (.iconst 0, 1) := by decide +kernel
theorem dX3_isBetween_15 : decode cX3_isBetween 15 = .ok (.ireturn, 1) := by decide +kernel
theorem dX3_isDisk_0 : decode cX3_isDisk 0 = .ok (.iload_n 1, 1) := by decide +kernel
theorem dX3_isDisk_1 : decode cX3_isDisk 1 = .ok (.iconst 0, 1) := by decide +kernel
theorem dX3_isDisk_2 : decode cX3_isDisk 2 = .ok (.aload_n 0, 1) := by decide +kernel
theorem dX3_isDisk_3 : decode cX3_isDisk 3 = .ok (.getfield 99, 3) := by decide +kernel
theorem dX3_isDisk_6 : decode cX3_isDisk 6 = .ok (.iconst 1, 1) := by decide +kernel
theorem dX3_isDisk_7 : decode cX3_isDisk 7 = .ok (.isub, 1) := by decide +kernel
theorem dX3_isDisk_8 : decode cX3_isDisk 8 = .ok (.invokestatic 102, 3) := by decide +kernel
theorem dX3_isDisk_11 : decode cX3_isDisk 11 = .ok (.ireturn, 1) := by decide +kernel
theorem dX3_isTenant_0 : decode cX3_isTenant 0 = .ok (.iload_n 1, 1) := by decide +kernel
theorem dX3_isTenant_1 : decode cX3_isTenant 1 = .ok (.iconst 0, 1) := by decide +kernel
theorem dX3_isTenant_2 : decode cX3_isTenant 2 = .ok (.aload_n 0, 1) := by decide +kernel
theorem dX3_isTenant_3 : decode cX3_isTenant 3 = .ok (.getfield 106, 3) := by decide +kernel
theorem dX3_isTenant_6 : decode cX3_isTenant 6 = .ok (.iconst 1, 1) := by decide +kernel
theorem dX3_isTenant_7 : decode cX3_isTenant 7 = .ok (.isub, 1) := by decide +kernel
theorem dX3_isTenant_8 : decode cX3_isTenant 8 = .ok (.invokestatic 102, 3) := by decide +kernel
theorem dX3_isTenant_11 : decode cX3_isTenant 11 = .ok (.ireturn, 1) := by decide +kernel
theorem dX3_isRequest_0 : decode cX3_isRequest 0 = .ok (.iload_n 1, 1) := by decide +kernel
theorem dX3_isRequest_1 : decode cX3_isRequest 1 = .ok (.iconst 0, 1) := by decide +kernel
theorem dX3_isRequest_2 : decode cX3_isRequest 2 = .ok (.aload_n 0, 1) := by decide +kernel
theorem dX3_isRequest_3 : decode cX3_isRequest 3 = .ok (.getfield 109, 3) := by decide +kernel
theorem dX3_isRequest_6 : decode cX3_isRequest 6 = .ok (.iconst 1, 1) := by decide +kernel
theorem dX3_isRequest_7 : decode cX3_isRequest 7 = .ok (.isub, 1) := by decide +kernel
theorem dX3_isRequest_8 : decode cX3_isRequest 8 = .ok (.invokestatic 102, 3) := by decide +kernel
theorem dX3_isRequest_11 : decode cX3_isRequest 11 = .ok (.ireturn, 1) := by decide +kernel
theorem dX3_usedOf_0 : decode cX3_usedOf 0 = .ok (.iconst 0, 1) := by decide +kernel
theorem dX3_usedOf_1 : decode cX3_usedOf 1 = .ok (.istore_n 2, 1) := by decide +kernel
theorem dX3_usedOf_2 : decode cX3_usedOf 2 = .ok (.iconst 0, 1) := by decide +kernel
theorem dX3_usedOf_3 : decode cX3_usedOf 3 = .ok (.istore_n 3, 1) := by decide +kernel
theorem dX3_usedOf_4 : decode cX3_usedOf 4 = .ok (.iload_n 3, 1) := by decide +kernel
theorem dX3_usedOf_5 : decode cX3_usedOf 5 = .ok (.aload_n 0, 1) := by decide +kernel
theorem dX3_usedOf_6 : decode cX3_usedOf 6 = .ok (.getfield 9, 3) := by decide +kernel
theorem dX3_usedOf_9 : decode cX3_usedOf 9 = .ok (.iload_n 1, 1) := by decide +kernel
theorem dX3_usedOf_10 : decode cX3_usedOf 10 = .ok (.iaload, 1) := by decide +kernel
theorem dX3_usedOf_11 : decode cX3_usedOf 11 = .ok (.if_icmp .ge 31, 3) := by decide +kernel
theorem dX3_usedOf_14 : decode cX3_usedOf 14 = .ok (.iload_n 2, 1) := by decide +kernel
theorem dX3_usedOf_15 : decode cX3_usedOf 15 = .ok (.aload_n 0, 1) := by decide +kernel
theorem dX3_usedOf_16 : decode cX3_usedOf 16 = .ok (.getfield 17, 3) := by decide +kernel
theorem dX3_usedOf_19 : decode cX3_usedOf 19 = .ok (.bipush 32, 2) := by decide +kernel
theorem dX3_usedOf_21 : decode cX3_usedOf 21 = .ok (.iload_n 1, 1) := by decide +kernel
theorem dX3_usedOf_22 : decode cX3_usedOf 22 = .ok (.imul, 1) := by decide +kernel
theorem dX3_usedOf_23 : decode cX3_usedOf 23 = .ok (.iload_n 3, 1) := by decide +kernel
theorem dX3_usedOf_24 : decode cX3_usedOf 24 = .ok (.iadd, 1) := by decide +kernel
theorem dX3_usedOf_25 : decode cX3_usedOf 25 = .ok (.iaload, 1) := by decide +kernel
theorem dX3_usedOf_26 : decode cX3_usedOf 26 = .ok (.ifCond .ge 7, 3) := by decide +kernel
theorem dX3_usedOf_29 : decode cX3_usedOf 29 = .ok (.iconst 0, 1) := by decide +kernel
theorem dX3_usedOf_30 : decode cX3_usedOf 30 = .ok (.goto 4, 3) := by decide +kernel
theorem dX3_usedOf_33 : decode cX3_usedOf 33 = .ok (.iconst 1, 1) := by decide +kernel
theorem dX3_usedOf_34 : decode cX3_usedOf 34 = .ok (.iadd, 1) := by decide +kernel
theorem dX3_usedOf_35 : decode cX3_usedOf 35 = .ok (.istore_n 2, 1) := by decide +kernel
theorem dX3_usedOf_36 : decode cX3_usedOf 36 = .ok (.iinc 3 1, 3) := by decide +kernel
theorem dX3_usedOf_39 : decode cX3_usedOf 39 = .ok (.goto (-35), 3) := by decide +kernel
theorem dX3_usedOf_42 : decode cX3_usedOf 42 = .ok (.iload_n 2, 1) := by decide +kernel
theorem dX3_usedOf_43 : decode cX3_usedOf 43 = .ok (.ireturn, 1) := by decide +kernel
theorem dX3_has_0 : decode cX3_has 0 = .ok (.iconst 0, 1) := by decide +kernel
theorem dX3_has_1 : decode cX3_has 1 = .ok (.istore_n 3, 1) := by decide +kernel
theorem dX3_has_2 : decode cX3_has 2 = .ok (.iload_n 3, 1) := by decide +kernel
theorem dX3_has_3 : decode cX3_has 3 = .ok (.aload_n 0, 1) := by decide +kernel
theorem dX3_has_4 : decode cX3_has 4 = .ok (.getfield 38, 3) := by decide +kernel
theorem dX3_has_7 : decode cX3_has 7 = .ok (.iload_n 2, 1) := by decide +kernel
theorem dX3_has_8 : decode cX3_has 8 = .ok (.iaload, 1) := by decide +kernel
theorem dX3_has_9 : decode cX3_has 9 = .ok (.if_icmp .ge 26, 3) := by decide +kernel
theorem dX3_has_12 : decode cX3_has 12 = .ok (.aload_n 0, 1) := by decide +kernel
theorem dX3_has_13 : decode cX3_has 13 = .ok (.getfield 32, 3) := by decide +kernel
theorem dX3_has_16 : decode cX3_has 16 = .ok (.iload_n 2, 1) := by decide +kernel
theorem dX3_has_17 : decode cX3_has 17 = .ok (.aaload, 1) := by decide +kernel
theorem dX3_has_18 : decode cX3_has 18 = .ok (.iload_n 3, 1) := by decide +kernel
theorem dX3_has_19 : decode cX3_has 19 = .ok (.iaload, 1) := by decide +kernel
theorem dX3_has_20 : decode cX3_has 20 = .ok (.bipush 32, 2) := by decide +kernel
theorem dX3_has_22 : decode cX3_has 22 = .ok (.idiv, 1) := by decide +kernel
theorem dX3_has_23 : decode cX3_has 23 = .ok (.iload_n 1, 1) := by decide +kernel
theorem dX3_has_24 : decode cX3_has 24 = .ok (.if_icmp .ne 5, 3) := by decide +kernel
theorem dX3_has_27 : decode cX3_has 27 = .ok (.iconst 1, 1) := by decide +kernel
theorem dX3_has_28 : decode cX3_has 28 = .ok (.ireturn, 1) := by decide +kernel
theorem dX3_has_29 : decode cX3_has 29 = .ok (.iinc 3 1, 3) := by decide +kernel
theorem dX3_has_32 : decode cX3_has 32 = .ok (.goto (-30), 3) := by decide +kernel
theorem dX3_has_35 : decode cX3_has 35 = .ok (.iconst 0, 1) := by decide +kernel
theorem dX3_has_36 : decode cX3_has 36 = .ok (.ireturn, 1) := by decide +kernel
theorem dX3_place_0 : decode cX3_place 0 = .ok (.iconst (-1), 1) := by decide +kernel
theorem dX3_place_1 : decode cX3_place 1 = .ok (.istore_n 2, 1) := by decide +kernel
theorem dX3_place_2 : decode cX3_place 2 = .ok (.iconst 0, 1) := by decide +kernel
theorem dX3_place_3 : decode cX3_place 3 = .ok (.istore_n 3, 1) := by decide +kernel
theorem dX3_place_4 : decode cX3_place 4 = .ok (.iload_n 3, 1) := by decide +kernel
theorem dX3_place_5 : decode cX3_place 5 = .ok (.aload_n 0, 1) := by decide +kernel
theorem dX3_place_6 : decode cX3_place 6 = .ok (.getfield 99, 3) := by decide +kernel
theorem dX3_place_9 : decode cX3_place 9 = .ok (.if_icmp .ge 79, 3) := by decide +kernel
theorem dX3_place_12 : decode cX3_place 12 = .ok (.aload_n 0, 1) := by decide +kernel
theorem dX3_place_13 : decode cX3_place 13 = .ok (.getfield 13, 3) := by decide +kernel
theorem dX3_place_16 : decode cX3_place 16 = .ok (.iload_n 3, 1) := by decide +kernel
theorem dX3_place_17 : decode cX3_place 17 = .ok (.caload, 1) := by decide +kernel
theorem dX3_place_18 : decode cX3_place 18 = .ok (.bipush 115, 2) := by decide +kernel
theorem dX3_place_20 : decode cX3_place 20 = .ok (.if_icmp .ne 62, 3) := by decide +kernel
theorem dX3_place_23 : decode cX3_place 23 = .ok (.aload_n 0, 1) := by decide +kernel
theorem dX3_place_24 : decode cX3_place 24 = .ok (.iload_n 3, 1) := by decide +kernel
theorem dX3_place_25 : decode cX3_place 25 = .ok (.invokevirtual 112, 3) := by decide +kernel
theorem dX3_place_28 : decode cX3_place 28 = .ok (.aload_n 0, 1) := by decide +kernel
theorem dX3_place_29 : decode cX3_place 29 = .ok (.getfield 9, 3) := by decide +kernel
theorem dX3_place_32 : decode cX3_place 32 = .ok (.iload_n 3, 1) := by decide +kernel
theorem dX3_place_33 : decode cX3_place 33 = .ok (.iaload, 1) := by decide +kernel
theorem dX3_place_34 : decode cX3_place 34 = .ok (.if_icmp .eq 48, 3) := by decide +kernel
theorem dX3_place_37 : decode cX3_place 37 = .ok (.aload_n 0, 1) := by decide +kernel
theorem dX3_place_38 : decode cX3_place 38 = .ok (.iload_n 3, 1) := by decide +kernel
theorem dX3_place_39 : decode cX3_place 39 = .ok (.iload_n 1, 1) := by decide +kernel
theorem dX3_place_40 : decode cX3_place 40 = .ok (.invokevirtual 116, 3) := by decide +kernel
theorem dX3_place_43 : decode cX3_place 43 = .ok (.ifCond .eq 6, 3) := by decide +kernel
theorem dX3_place_46 : decode cX3_place 46 = .ok (.goto 36, 3) := by decide +kernel
theorem dX3_place_49 : decode cX3_place 49 = .ok (.iload_n 2, 1) := by decide +kernel
theorem dX3_place_50 : decode cX3_place 50 = .ok (.ifCond .lt 30, 3) := by decide +kernel
theorem dX3_place_53 : decode cX3_place 53 = .ok (.aload_n 0, 1) := by decide +kernel
theorem dX3_place_54 : decode cX3_place 54 = .ok (.getfield 9, 3) := by decide +kernel
theorem dX3_place_57 : decode cX3_place 57 = .ok (.iload_n 3, 1) := by decide +kernel
theorem dX3_place_58 : decode cX3_place 58 = .ok (.iaload, 1) := by decide +kernel
theorem dX3_place_59 : decode cX3_place 59 = .ok (.aload_n 0, 1) := by decide +kernel
theorem dX3_place_60 : decode cX3_place 60 = .ok (.iload_n 3, 1) := by decide +kernel
theorem dX3_place_61 : decode cX3_place 61 = .ok (.invokevirtual 112, 3) := by decide +kernel
theorem dX3_place_64 : decode cX3_place 64 = .ok (.isub, 1) := by decide +kernel
theorem dX3_place_65 : decode cX3_place 65 = .ok (.aload_n 0, 1) := by decide +kernel
theorem dX3_place_66 : decode cX3_place 66 = .ok (.getfield 9, 3) := by decide +kernel
theorem dX3_place_69 : decode cX3_place 69 = .ok (.iload_n 2, 1) := by decide +kernel
theorem dX3_place_70 : decode cX3_place 70 = .ok (.iaload, 1) := by decide +kernel
theorem dX3_place_71 : decode cX3_place 71 = .ok (.aload_n 0, 1) := by decide +kernel
theorem dX3_place_72 : decode cX3_place 72 = .ok (.iload_n 2, 1) := by decide +kernel
theorem dX3_place_73 : decode cX3_place 73 = .ok (.invokevirtual 112, 3) := by decide +kernel
theorem dX3_place_76 : decode cX3_place 76 = .ok (.isub, 1) := by decide +kernel
theorem dX3_place_77 : decode cX3_place 77 = .ok (.if_icmp .le 5, 3) := by decide +kernel
theorem dX3_place_80 : decode cX3_place 80 = .ok (.iload_n 3, 1) := by decide +kernel
theorem dX3_place_81 : decode cX3_place 81 = .ok (.istore_n 2, 1) := by decide +kernel
theorem dX3_place_82 : decode cX3_place 82 = .ok (.iinc 3 1, 3) := by decide +kernel
theorem dX3_place_85 : decode cX3_place 85 = .ok (.goto (-81), 3) := by decide +kernel
theorem dX3_place_88 : decode cX3_place 88 = .ok (.iload_n 2, 1) := by decide +kernel
theorem dX3_place_89 : decode cX3_place 89 = .ok (.ifCond .ge 5, 3) := by decide +kernel
theorem dX3_place_92 : decode cX3_place 92 = .ok (.iconst (-1), 1) := by decide +kernel
theorem dX3_place_93 : decode cX3_place 93 = .ok (.ireturn, 1) := by decide +kernel
theorem dX3_place_94 : decode cX3_place 94 = .ok (.bipush 32, 2) := by decide +kernel
theorem dX3_place_96 : decode cX3_place 96 = .ok (.iload_n 2, 1) := by decide +kernel
theorem dX3_place_97 : decode cX3_place 97 = .ok (.imul, 1) := by decide +kernel
theorem dX3_place_98 : decode cX3_place 98 = .ok (.istore_n 3, 1) := by decide +kernel
theorem dX3_place_99 : decode cX3_place 99 = .ok (.aload_n 0, 1) := by decide +kernel
theorem dX3_place_100 : decode cX3_place 100 = .ok (.getfield 17, 3) := by decide +kernel
theorem dX3_place_103 : decode cX3_place 103 = .ok (.iload_n 3, 1) := by decide +kernel
theorem dX3_place_104 : decode cX3_place 104 = .ok (.iaload, 1) := by decide +kernel
theorem dX3_place_105 : decode cX3_place 105 = .ok (.ifCond .lt 9, 3) := by decide +kernel
theorem dX3_place_108 : decode cX3_place 108 = .ok (.iinc 3 1, 3) := by decide +kernel
theorem dX3_place_111 : decode cX3_place 111 = .ok (.goto (-12), 3) := by decide +kernel
theorem dX3_place_114 : decode cX3_place 114 = .ok (.iload_n 3, 1) := by decide +kernel
theorem dX3_place_115 : decode cX3_place 115 = .ok (.ireturn, 1) := by decide +kernel
theorem dX3_puts_0 : decode cX3_puts 0 = .ok (.aload_n 0, 1) := by decide +kernel
theorem dX3_puts_1 : decode cX3_puts 1 = .ok (.getfield 17, 3) := by decide +kernel
theorem dX3_puts_4 : decode cX3_puts 4 = .ok (.iload_n 2, 1) := by decide +kernel
theorem dX3_puts_5 : decode cX3_puts 5 = .ok (.iload_n 1, 1) := by decide +kernel
theorem dX3_puts_6 : decode cX3_puts 6 = .ok (.iastore, 1) := by decide +kernel
theorem dX3_puts_7 : decode cX3_puts 7 = .ok (.aload_n 0, 1) := by decide +kernel
theorem dX3_puts_8 : decode cX3_puts 8 = .ok (.getfield 23, 3) := by decide +kernel
theorem dX3_puts_11 : decode cX3_puts 11 = .ok (.iload_n 2, 1) := by decide +kernel
theorem dX3_puts_12 : decode cX3_puts 12 = .ok (.iconst 0, 1) := by decide +kernel
theorem dX3_puts_13 : decode cX3_puts 13 = .ok (.bastore, 1) := by decide +kernel
theorem dX3_puts_14 : decode cX3_puts 14 = .ok (.aload_n 0, 1) := by decide +kernel
theorem dX3_puts_15 : decode cX3_puts 15 = .ok (.getfield 32, 3) := by decide +kernel
theorem dX3_puts_18 : decode cX3_puts 18 = .ok (.iload_n 1, 1) := by decide +kernel
theorem dX3_puts_19 : decode cX3_puts 19 = .ok (.aaload, 1) := by decide +kernel
theorem dX3_puts_20 : decode cX3_puts 20 = .ok (.aload_n 0, 1) := by decide +kernel
theorem dX3_puts_21 : decode cX3_puts 21 = .ok (.getfield 38, 3) := by decide +kernel
theorem dX3_puts_24 : decode cX3_puts 24 = .ok (.iload_n 1, 1) := by decide +kernel
theorem dX3_puts_25 : decode cX3_puts 25 = .ok (.iaload, 1) := by decide +kernel
theorem dX3_puts_26 : decode cX3_puts 26 = .ok (.iload_n 2, 1) := by decide +kernel
theorem dX3_puts_27 : decode cX3_puts 27 = .ok (.iastore, 1) := by decide +kernel
theorem dX3_puts_28 : decode cX3_puts 28 = .ok (.aload_n 0, 1) := by decide +kernel
theorem dX3_puts_29 : decode cX3_puts 29 = .ok (.getfield 38, 3) := by decide +kernel
theorem dX3_puts_32 : decode cX3_puts 32 = .ok (.iload_n 1, 1) := by decide +kernel
theorem dX3_puts_33 : decode cX3_puts 33 = .ok (.dup2, 1) := by decide +kernel
theorem dX3_puts_34 : decode cX3_puts 34 = .ok (.iaload, 1) := by decide +kernel
theorem dX3_puts_35 : decode cX3_puts 35 = .ok (.iconst 1, 1) := by decide +kernel
theorem dX3_puts_36 : decode cX3_puts 36 = .ok (.iadd, 1) := by decide +kernel
theorem dX3_puts_37 : decode cX3_puts 37 = .ok (.iastore, 1) := by decide +kernel
theorem dX3_puts_38 : decode cX3_puts 38 = .ok (.return_, 1) := by decide +kernel
theorem dX3_takes_0 : decode cX3_takes 0 = .ok (.aload_n 0, 1) := by decide +kernel
theorem dX3_takes_1 : decode cX3_takes 1 = .ok (.getfield 17, 3) := by decide +kernel
theorem dX3_takes_4 : decode cX3_takes 4 = .ok (.aload_n 0, 1) := by decide +kernel
theorem dX3_takes_5 : decode cX3_takes 5 = .ok (.getfield 32, 3) := by decide +kernel
theorem dX3_takes_8 : decode cX3_takes 8 = .ok (.iload_n 1, 1) := by decide +kernel
theorem dX3_takes_9 : decode cX3_takes 9 = .ok (.aaload, 1) := by decide +kernel
theorem dX3_takes_10 : decode cX3_takes 10 = .ok (.iload_n 2, 1) := by decide +kernel
theorem dX3_takes_11 : decode cX3_takes 11 = .ok (.iaload, 1) := by decide +kernel
theorem dX3_takes_12 : decode cX3_takes 12 = .ok (.iconst (-1), 1) := by decide +kernel
theorem dX3_takes_13 : decode cX3_takes 13 = .ok (.iastore, 1) := by decide +kernel
theorem dX3_takes_14 : decode cX3_takes 14 = .ok (.aload_n 0, 1) := by decide +kernel
theorem dX3_takes_15 : decode cX3_takes 15 = .ok (.getfield 38, 3) := by decide +kernel
theorem dX3_takes_18 : decode cX3_takes 18 = .ok (.iload_n 1, 1) := by decide +kernel
theorem dX3_takes_19 : decode cX3_takes 19 = .ok (.dup2, 1) := by decide +kernel
theorem dX3_takes_20 : decode cX3_takes 20 = .ok (.iaload, 1) := by decide +kernel
theorem dX3_takes_21 : decode cX3_takes 21 = .ok (.iconst 1, 1) := by decide +kernel
theorem dX3_takes_22 : decode cX3_takes 22 = .ok (.isub, 1) := by decide +kernel
theorem dX3_takes_23 : decode cX3_takes 23 = .ok (.iastore, 1) := by decide +kernel
theorem dX3_takes_24 : decode cX3_takes 24 = .ok (.iload_n 2, 1) := by decide +kernel
theorem dX3_takes_25 : decode cX3_takes 25 = .ok (.istore_n 3, 1) := by decide +kernel
theorem dX3_takes_26 : decode cX3_takes 26 = .ok (.iload_n 3, 1) := by decide +kernel
theorem dX3_takes_27 : decode cX3_takes 27 = .ok (.aload_n 0, 1) := by decide +kernel
theorem dX3_takes_28 : decode cX3_takes 28 = .ok (.getfield 38, 3) := by decide +kernel
theorem dX3_takes_31 : decode cX3_takes 31 = .ok (.iload_n 1, 1) := by decide +kernel
theorem dX3_takes_32 : decode cX3_takes 32 = .ok (.iaload, 1) := by decide +kernel
theorem dX3_takes_33 : decode cX3_takes 33 = .ok (.if_icmp .ge 27, 3) := by decide +kernel
theorem dX3_takes_36 : decode cX3_takes 36 = .ok (.aload_n 0, 1) := by decide +kernel
theorem dX3_takes_37 : decode cX3_takes 37 = .ok (.getfield 32, 3) := by decide +kernel
theorem dX3_takes_40 : decode cX3_takes 40 = .ok (.iload_n 1, 1) := by decide +kernel
theorem dX3_takes_41 : decode cX3_takes 41 = .ok (.aaload, 1) := by decide +kernel
theorem dX3_takes_42 : decode cX3_takes 42 = .ok (.iload_n 3, 1) := by decide +kernel
theorem dX3_takes_43 : decode cX3_takes 43 = .ok (.aload_n 0, 1) := by decide +kernel
theorem dX3_takes_44 : decode cX3_takes 44 = .ok (.getfield 32, 3) := by decide +kernel
theorem dX3_takes_47 : decode cX3_takes 47 = .ok (.iload_n 1, 1) := by decide +kernel
theorem dX3_takes_48 : decode cX3_takes 48 = .ok (.aaload, 1) := by decide +kernel
theorem dX3_takes_49 : decode cX3_takes 49 = .ok (.iload_n 3, 1) := by decide +kernel
theorem dX3_takes_50 : decode cX3_takes 50 = .ok (.iconst 1, 1) := by decide +kernel
theorem dX3_takes_51 : decode cX3_takes 51 = .ok (.iadd, 1) := by decide +kernel
theorem dX3_takes_52 : decode cX3_takes 52 = .ok (.iaload, 1) := by decide +kernel
theorem dX3_takes_53 : decode cX3_takes 53 = .ok (.iastore, 1) := by decide +kernel
theorem dX3_takes_54 : decode cX3_takes 54 = .ok (.iinc 3 1, 3) := by decide +kernel
theorem dX3_takes_57 : decode cX3_takes 57 = .ok (.goto (-31), 3) := by decide +kernel
theorem dX3_takes_60 : decode cX3_takes 60 = .ok (.return_, 1) := by decide +kernel
theorem dX3_goodOf_0 : decode cX3_goodOf 0 = .ok (.iconst 0, 1) := by decide +kernel
theorem dX3_goodOf_1 : decode cX3_goodOf 1 = .ok (.istore_n 2, 1) := by decide +kernel
theorem dX3_goodOf_2 : decode cX3_goodOf 2 = .ok (.iconst 0, 1) := by decide +kernel
theorem dX3_goodOf_3 : decode cX3_goodOf 3 = .ok (.istore_n 3, 1) := by decide +kernel
theorem dX3_goodOf_4 : decode cX3_goodOf 4 = .ok (.iload_n 3, 1) := by decide +kernel
theorem dX3_goodOf_5 : decode cX3_goodOf 5 = .ok (.aload_n 0, 1) := by decide +kernel
theorem dX3_goodOf_6 : decode cX3_goodOf 6 = .ok (.getfield 38, 3) := by decide +kernel
theorem dX3_goodOf_9 : decode cX3_goodOf 9 = .ok (.iload_n 1, 1) := by decide +kernel
theorem dX3_goodOf_10 : decode cX3_goodOf 10 = .ok (.iaload, 1) := by decide +kernel
theorem dX3_goodOf_11 : decode cX3_goodOf 11 = .ok (.if_icmp .ge 33, 3) := by decide +kernel
theorem dX3_goodOf_14 : decode cX3_goodOf 14 = .ok (.iload_n 2, 1) := by decide +kernel
theorem dX3_goodOf_15 : decode cX3_goodOf 15 = .ok (.aload_n 0, 1) := by decide +kernel
theorem dX3_goodOf_16 : decode cX3_goodOf 16 = .ok (.getfield 23, 3) := by decide +kernel
theorem dX3_goodOf_19 : decode cX3_goodOf 19 = .ok (.aload_n 0, 1) := by decide +kernel
theorem dX3_goodOf_20 : decode cX3_goodOf 20 = .ok (.getfield 32, 3) := by decide +kernel
theorem dX3_goodOf_23 : decode cX3_goodOf 23 = .ok (.iload_n 1, 1) := by decide +kernel
theorem dX3_goodOf_24 : decode cX3_goodOf 24 = .ok (.aaload, 1) := by decide +kernel
theorem dX3_goodOf_25 : decode cX3_goodOf 25 = .ok (.iload_n 3, 1) := by decide +kernel
theorem dX3_goodOf_26 : decode cX3_goodOf 26 = .ok (.iaload, 1) := by decide +kernel
theorem dX3_goodOf_27 : decode cX3_goodOf 27 = .ok (.baload, 1) := by decide +kernel
theorem dX3_goodOf_28 : decode cX3_goodOf 28 = .ok (.ifCond .eq 7, 3) := by decide +kernel
theorem dX3_goodOf_31 : decode cX3_goodOf 31 = .ok (.iconst 0, 1) := by decide +kernel
theorem dX3_goodOf_32 : decode cX3_goodOf 32 = .ok (.goto 4, 3) := by decide +kernel
theorem dX3_goodOf_35 : decode cX3_goodOf 35 = .ok (.iconst 1, 1) := by decide +kernel
theorem dX3_goodOf_36 : decode cX3_goodOf 36 = .ok (.iadd, 1) := by decide +kernel
theorem dX3_goodOf_37 : decode cX3_goodOf 37 = .ok (.istore_n 2, 1) := by decide +kernel
theorem dX3_goodOf_38 : decode cX3_goodOf 38 = .ok (.iinc 3 1, 3) := by decide +kernel
theorem dX3_goodOf_41 : decode cX3_goodOf 41 = .ok (.goto (-37), 3) := by decide +kernel
theorem dX3_goodOf_44 : decode cX3_goodOf 44 = .ok (.iload_n 2, 1) := by decide +kernel
theorem dX3_goodOf_45 : decode cX3_goodOf 45 = .ok (.ireturn, 1) := by decide +kernel
theorem dX3_lost_0 : decode cX3_lost 0 = .ok (.aload_n 0, 1) := by decide +kernel
theorem dX3_lost_1 : decode cX3_lost 1 = .ok (.getfield 50, 3) := by decide +kernel
theorem dX3_lost_4 : decode cX3_lost 4 = .ok (.iload_n 1, 1) := by decide +kernel
theorem dX3_lost_5 : decode cX3_lost 5 = .ok (.baload, 1) := by decide +kernel
theorem dX3_lost_6 : decode cX3_lost 6 = .ok (.ifCond .eq 15, 3) := by decide +kernel
theorem dX3_lost_9 : decode cX3_lost 9 = .ok (.aload_n 0, 1) := by decide +kernel
theorem dX3_lost_10 : decode cX3_lost 10 = .ok (.iload_n 1, 1) := by decide +kernel
theorem dX3_lost_11 : decode cX3_lost 11 = .ok (.invokevirtual 120, 3) := by decide +kernel
theorem dX3_lost_14 : decode cX3_lost 14 = .ok (.ifCond .ne 7, 3) := by decide +kernel
theorem dX3_lost_17 : decode cX3_lost 17 = .ok (.iconst 1, 1) := by decide +kernel
theorem dX3_lost_18 : decode cX3_lost 18 = .ok (.goto 4, 3) := by decide +kernel
theorem dX3_lost_21 : decode cX3_lost 21 = .ok (.iconst 0, 1) := by decide +kernel
theorem dX3_lost_22 : decode cX3_lost 22 = .ok (.ireturn, 1) := by decide +kernel
theorem dX3_degraded_0 : decode cX3_degraded 0 = .ok (.aload_n 0, 1) := by decide +kernel
theorem dX3_degraded_1 : decode cX3_degraded 1 = .ok (.getfield 50, 3) := by decide +kernel
theorem dX3_degraded_4 : decode cX3_degraded 4 = .ok (.iload_n 1, 1) := by decide +kernel
theorem dX3_degraded_5 : decode cX3_degraded 5 = .ok (.baload, 1) := by decide +kernel
theorem dX3_degraded_6 : decode cX3_degraded 6 = .ok (.ifCond .eq 25, 3) := by decide +kernel
theorem dX3_degraded_9 : decode cX3_degraded 9 = .ok (.aload_n 0, 1) := by decide +kernel
theorem dX3_degraded_10 : decode cX3_degraded 10 = .ok (.getfield 38, 3) := by decide +kernel
theorem dX3_degraded_13 : decode cX3_degraded 13 = .ok (.iload_n 1, 1) := by decide +kernel
theorem dX3_degraded_14 : decode cX3_degraded 14 = .ok (.iaload, 1) := by decide +kernel
theorem dX3_degraded_15 : decode cX3_degraded 15 = .ok (.aload_n 0, 1) := by decide +kernel
theorem dX3_degraded_16 : decode cX3_degraded 16 = .ok (.getfield 53, 3) := by decide +kernel
theorem dX3_degraded_19 : decode cX3_degraded 19 = .ok (.iload_n 1, 1) := by decide +kernel
theorem dX3_degraded_20 : decode cX3_degraded 20 = .ok (.bipush 100, 2) := by decide +kernel
theorem dX3_degraded_22 : decode cX3_degraded 22 = .ok (.idiv, 1) := by decide +kernel
theorem dX3_degraded_23 : decode cX3_degraded 23 = .ok (.iaload, 1) := by decide +kernel
theorem dX3_degraded_24 : decode cX3_degraded 24 = .ok (.if_icmp .ge 7, 3) := by decide +kernel
theorem dX3_degraded_27 : decode cX3_degraded 27 = .ok (.iconst 1, 1) := by decide +kernel
theorem dX3_degraded_28 : decode cX3_degraded 28 = .ok (.goto 4, 3) := by decide +kernel
theorem dX3_degraded_31 : decode cX3_degraded 31 = .ok (.iconst 0, 1) := by decide +kernel
theorem dX3_degraded_32 : decode cX3_degraded 32 = .ok (.ireturn, 1) := by decide +kernel
theorem dX3_keepsAll_0 : decode cX3_keepsAll 0 = .ok (.iconst 0, 1) := by decide +kernel
theorem dX3_keepsAll_1 : decode cX3_keepsAll 1 = .ok (.istore_n 1, 1) := by decide +kernel
theorem dX3_keepsAll_2 : decode cX3_keepsAll 2 = .ok (.iload_n 1, 1) := by decide +kernel
theorem dX3_keepsAll_3 : decode cX3_keepsAll 3 = .ok (.sipush 256, 3) := by decide +kernel
theorem dX3_keepsAll_6 : decode cX3_keepsAll 6 = .ok (.if_icmp .ge 33, 3) := by decide +kernel
theorem dX3_keepsAll_9 : decode cX3_keepsAll 9 = .ok (.aload_n 0, 1) := by decide +kernel
theorem dX3_keepsAll_10 : decode cX3_keepsAll 10 = .ok (.getfield 20, 3) := by decide +kernel
theorem dX3_keepsAll_13 : decode cX3_keepsAll 13 = .ok (.iload_n 1, 1) := by decide +kernel
theorem dX3_keepsAll_14 : decode cX3_keepsAll 14 = .ok (.aload_n 0, 1) := by decide +kernel
theorem dX3_keepsAll_15 : decode cX3_keepsAll 15 = .ok (.getfield 17, 3) := by decide +kernel
theorem dX3_keepsAll_18 : decode cX3_keepsAll 18 = .ok (.iload_n 1, 1) := by decide +kernel
theorem dX3_keepsAll_19 : decode cX3_keepsAll 19 = .ok (.iaload, 1) := by decide +kernel
theorem dX3_keepsAll_20 : decode cX3_keepsAll 20 = .ok (.iastore, 1) := by decide +kernel
theorem dX3_keepsAll_21 : decode cX3_keepsAll 21 = .ok (.aload_n 0, 1) := by decide +kernel
theorem dX3_keepsAll_22 : decode cX3_keepsAll 22 = .ok (.getfield 27, 3) := by decide +kernel
theorem dX3_keepsAll_25 : decode cX3_keepsAll 25 = .ok (.iload_n 1, 1) := by decide +kernel
theorem dX3_keepsAll_26 : decode cX3_keepsAll 26 = .ok (.aload_n 0, 1) := by decide +kernel
theorem dX3_keepsAll_27 : decode cX3_keepsAll 27 = .ok (.getfield 23, 3) := by decide +kernel
theorem dX3_keepsAll_30 : decode cX3_keepsAll 30 = .ok (.iload_n 1, 1) := by decide +kernel
theorem dX3_keepsAll_31 : decode cX3_keepsAll 31 = .ok (.baload, 1) := by decide +kernel
theorem dX3_keepsAll_32 : decode cX3_keepsAll 32 = .ok (.bastore, 1) := by decide +kernel
theorem dX3_keepsAll_33 : decode cX3_keepsAll 33 = .ok (.iinc 1 1, 3) := by decide +kernel
theorem dX3_keepsAll_36 : decode cX3_keepsAll 36 = .ok (.goto (-34), 3) := by decide +kernel
theorem dX3_keepsAll_39 : decode cX3_keepsAll 39 = .ok (.iconst 0, 1) := by decide +kernel
theorem dX3_keepsAll_40 : decode cX3_keepsAll 40 = .ok (.istore_n 1, 1) := by decide +kernel
theorem dX3_keepsAll_41 : decode cX3_keepsAll 41 = .ok (.iload_n 1, 1) := by decide +kernel
theorem dX3_keepsAll_42 : decode cX3_keepsAll 42 = .ok (.sipush 400, 3) := by decide +kernel
theorem dX3_keepsAll_45 : decode cX3_keepsAll 45 = .ok (.if_icmp .ge 50, 3) := by decide +kernel
theorem dX3_keepsAll_48 : decode cX3_keepsAll 48 = .ok (.aload_n 0, 1) := by decide +kernel
theorem dX3_keepsAll_49 : decode cX3_keepsAll 49 = .ok (.getfield 41, 3) := by decide +kernel
theorem dX3_keepsAll_52 : decode cX3_keepsAll 52 = .ok (.iload_n 1, 1) := by decide +kernel
theorem dX3_keepsAll_53 : decode cX3_keepsAll 53 = .ok (.aload_n 0, 1) := by decide +kernel
theorem dX3_keepsAll_54 : decode cX3_keepsAll 54 = .ok (.getfield 38, 3) := by decide +kernel
theorem dX3_keepsAll_57 : decode cX3_keepsAll 57 = .ok (.iload_n 1, 1) := by decide +kernel
theorem dX3_keepsAll_58 : decode cX3_keepsAll 58 = .ok (.iaload, 1) := by decide +kernel
theorem dX3_keepsAll_59 : decode cX3_keepsAll 59 = .ok (.iastore, 1) := by decide +kernel
theorem dX3_keepsAll_60 : decode cX3_keepsAll 60 = .ok (.iconst 0, 1) := by decide +kernel
theorem dX3_keepsAll_61 : decode cX3_keepsAll 61 = .ok (.istore_n 2, 1) := by decide +kernel
theorem dX3_keepsAll_62 : decode cX3_keepsAll 62 = .ok (.iload_n 2, 1) := by decide +kernel
theorem dX3_keepsAll_63 : decode cX3_keepsAll 63 = .ok (.iconst 3, 1) := by decide +kernel
theorem dX3_keepsAll_64 : decode cX3_keepsAll 64 = .ok (.if_icmp .ge 25, 3) := by decide +kernel
theorem dX3_keepsAll_67 : decode cX3_keepsAll 67 = .ok (.aload_n 0, 1) := by decide +kernel
theorem dX3_keepsAll_68 : decode cX3_keepsAll 68 = .ok (.getfield 35, 3) := by decide +kernel
theorem dX3_keepsAll_71 : decode cX3_keepsAll 71 = .ok (.iload_n 1, 1) := by decide +kernel
theorem dX3_keepsAll_72 : decode cX3_keepsAll 72 = .ok (.aaload, 1) := by decide +kernel
theorem dX3_keepsAll_73 : decode cX3_keepsAll 73 = .ok (.iload_n 2, 1) := by decide +kernel
theorem dX3_keepsAll_74 : decode cX3_keepsAll 74 = .ok (.aload_n 0, 1) := by decide +kernel
theorem dX3_keepsAll_75 : decode cX3_keepsAll 75 = .ok (.getfield 32, 3) := by decide +kernel
theorem dX3_keepsAll_78 : decode cX3_keepsAll 78 = .ok (.iload_n 1, 1) := by decide +kernel
theorem dX3_keepsAll_79 : decode cX3_keepsAll 79 = .ok (.aaload, 1) := by decide +kernel
theorem dX3_keepsAll_80 : decode cX3_keepsAll 80 = .ok (.iload_n 2, 1) := by decide +kernel
theorem dX3_keepsAll_81 : decode cX3_keepsAll 81 = .ok (.iaload, 1) := by decide +kernel
theorem dX3_keepsAll_82 : decode cX3_keepsAll 82 = .ok (.iastore, 1) := by decide +kernel
theorem dX3_keepsAll_83 : decode cX3_keepsAll 83 = .ok (.iinc 2 1, 3) := by decide +kernel
theorem dX3_keepsAll_86 : decode cX3_keepsAll 86 = .ok (.goto (-24), 3) := by decide +kernel
theorem dX3_keepsAll_89 : decode cX3_keepsAll 89 = .ok (.iinc 1 1, 3) := by decide +kernel
theorem dX3_keepsAll_92 : decode cX3_keepsAll 92 = .ok (.goto (-51), 3) := by decide +kernel
theorem dX3_keepsAll_95 : decode cX3_keepsAll 95 = .ok (.return_, 1) := by decide +kernel
theorem dX3_laysBack_0 : decode cX3_laysBack 0 = .ok (.iconst 0, 1) := by decide +kernel
theorem dX3_laysBack_1 : decode cX3_laysBack 1 = .ok (.istore_n 1, 1) := by decide +kernel
theorem dX3_laysBack_2 : decode cX3_laysBack 2 = .ok (.iload_n 1, 1) := by decide +kernel
theorem dX3_laysBack_3 : decode cX3_laysBack 3 = .ok (.sipush 256, 3) := by decide +kernel
theorem dX3_laysBack_6 : decode cX3_laysBack 6 = .ok (.if_icmp .ge 33, 3) := by decide +kernel
theorem dX3_laysBack_9 : decode cX3_laysBack 9 = .ok (.aload_n 0, 1) := by decide +kernel
theorem dX3_laysBack_10 : decode cX3_laysBack 10 = .ok (.getfield 17, 3) := by decide +kernel
theorem dX3_laysBack_13 : decode cX3_laysBack 13 = .ok (.iload_n 1, 1) := by decide +kernel
theorem dX3_laysBack_14 : decode cX3_laysBack 14 = .ok (.aload_n 0, 1) := by decide +kernel
theorem dX3_laysBack_15 : decode cX3_laysBack 15 = .ok (.getfield 20, 3) := by decide +kernel
theorem dX3_laysBack_18 : decode cX3_laysBack 18 = .ok (.iload_n 1, 1) := by decide +kernel
theorem dX3_laysBack_19 : decode cX3_laysBack 19 = .ok (.iaload, 1) := by decide +kernel
theorem dX3_laysBack_20 : decode cX3_laysBack 20 = .ok (.iastore, 1) := by decide +kernel
theorem dX3_laysBack_21 : decode cX3_laysBack 21 = .ok (.aload_n 0, 1) := by decide +kernel
theorem dX3_laysBack_22 : decode cX3_laysBack 22 = .ok (.getfield 23, 3) := by decide +kernel
theorem dX3_laysBack_25 : decode cX3_laysBack 25 = .ok (.iload_n 1, 1) := by decide +kernel
theorem dX3_laysBack_26 : decode cX3_laysBack 26 = .ok (.aload_n 0, 1) := by decide +kernel
theorem dX3_laysBack_27 : decode cX3_laysBack 27 = .ok (.getfield 27, 3) := by decide +kernel
theorem dX3_laysBack_30 : decode cX3_laysBack 30 = .ok (.iload_n 1, 1) := by decide +kernel
theorem dX3_laysBack_31 : decode cX3_laysBack 31 = .ok (.baload, 1) := by decide +kernel
theorem dX3_laysBack_32 : decode cX3_laysBack 32 = .ok (.bastore, 1) := by decide +kernel
theorem dX3_laysBack_33 : decode cX3_laysBack 33 = .ok (.iinc 1 1, 3) := by decide +kernel
theorem dX3_laysBack_36 : decode cX3_laysBack 36 = .ok (.goto (-34), 3) := by decide +kernel
theorem dX3_laysBack_39 : decode cX3_laysBack 39 = .ok (.iconst 0, 1) := by decide +kernel
theorem dX3_laysBack_40 : decode cX3_laysBack 40 = .ok (.istore_n 1, 1) := by decide +kernel
theorem dX3_laysBack_41 : decode cX3_laysBack 41 = .ok (.iload_n 1, 1) := by decide +kernel
theorem dX3_laysBack_42 : decode cX3_laysBack 42 = .ok (.sipush 400, 3) := by decide +kernel
theorem dX3_laysBack_45 : decode cX3_laysBack 45 = .ok (.if_icmp .ge 50, 3) := by decide +kernel
theorem dX3_laysBack_48 : decode cX3_laysBack 48 = .ok (.aload_n 0, 1) := by decide +kernel
theorem dX3_laysBack_49 : decode cX3_laysBack 49 = .ok (.getfield 38, 3) := by decide +kernel
theorem dX3_laysBack_52 : decode cX3_laysBack 52 = .ok (.iload_n 1, 1) := by decide +kernel
theorem dX3_laysBack_53 : decode cX3_laysBack 53 = .ok (.aload_n 0, 1) := by decide +kernel
theorem dX3_laysBack_54 : decode cX3_laysBack 54 = .ok (.getfield 41, 3) := by decide +kernel
theorem dX3_laysBack_57 : decode cX3_laysBack 57 = .ok (.iload_n 1, 1) := by decide +kernel
theorem dX3_laysBack_58 : decode cX3_laysBack 58 = .ok (.iaload, 1) := by decide +kernel
theorem dX3_laysBack_59 : decode cX3_laysBack 59 = .ok (.iastore, 1) := by decide +kernel
theorem dX3_laysBack_60 : decode cX3_laysBack 60 = .ok (.iconst 0, 1) := by decide +kernel
theorem dX3_laysBack_61 : decode cX3_laysBack 61 = .ok (.istore_n 2, 1) := by decide +kernel
theorem dX3_laysBack_62 : decode cX3_laysBack 62 = .ok (.iload_n 2, 1) := by decide +kernel
theorem dX3_laysBack_63 : decode cX3_laysBack 63 = .ok (.iconst 3, 1) := by decide +kernel
theorem dX3_laysBack_64 : decode cX3_laysBack 64 = .ok (.if_icmp .ge 25, 3) := by decide +kernel
theorem dX3_laysBack_67 : decode cX3_laysBack 67 = .ok (.aload_n 0, 1) := by decide +kernel
theorem dX3_laysBack_68 : decode cX3_laysBack 68 = .ok (.getfield 32, 3) := by decide +kernel
theorem dX3_laysBack_71 : decode cX3_laysBack 71 = .ok (.iload_n 1, 1) := by decide +kernel
theorem dX3_laysBack_72 : decode cX3_laysBack 72 = .ok (.aaload, 1) := by decide +kernel
theorem dX3_laysBack_73 : decode cX3_laysBack 73 = .ok (.iload_n 2, 1) := by decide +kernel
theorem dX3_laysBack_74 : decode cX3_laysBack 74 = .ok (.aload_n 0, 1) := by decide +kernel
theorem dX3_laysBack_75 : decode cX3_laysBack 75 = .ok (.getfield 35, 3) := by decide +kernel
theorem dX3_laysBack_78 : decode cX3_laysBack 78 = .ok (.iload_n 1, 1) := by decide +kernel
theorem dX3_laysBack_79 : decode cX3_laysBack 79 = .ok (.aaload, 1) := by decide +kernel
theorem dX3_laysBack_80 : decode cX3_laysBack 80 = .ok (.iload_n 2, 1) := by decide +kernel
theorem dX3_laysBack_81 : decode cX3_laysBack 81 = .ok (.iaload, 1) := by decide +kernel
theorem dX3_laysBack_82 : decode cX3_laysBack 82 = .ok (.iastore, 1) := by decide +kernel
theorem dX3_laysBack_83 : decode cX3_laysBack 83 = .ok (.iinc 2 1, 3) := by decide +kernel
theorem dX3_laysBack_86 : decode cX3_laysBack 86 = .ok (.goto (-24), 3) := by decide +kernel
theorem dX3_laysBack_89 : decode cX3_laysBack 89 = .ok (.iinc 1 1, 3) := by decide +kernel
theorem dX3_laysBack_92 : decode cX3_laysBack 92 = .ok (.goto (-51), 3) := by decide +kernel
theorem dX3_laysBack_95 : decode cX3_laysBack 95 = .ok (.return_, 1) := by decide +kernel
theorem dX3_addDisk_0 : decode cX3_addDisk 0 = .ok (.aload_n 0, 1) := by decide +kernel
theorem dX3_addDisk_1 : decode cX3_addDisk 1 = .ok (.iconst 0, 1) := by decide +kernel
theorem dX3_addDisk_2 : decode cX3_addDisk 2 = .ok (.putfield 96, 3) := by decide +kernel
theorem dX3_addDisk_5 : decode cX3_addDisk 5 = .ok (.iload_n 1, 1) := by decide +kernel
theorem dX3_addDisk_6 : decode cX3_addDisk 6 = .ok (.iconst 1, 1) := by decide +kernel
theorem dX3_addDisk_7 : decode cX3_addDisk 7 = .ok (.bipush 32, 2) := by decide +kernel
theorem dX3_addDisk_9 : decode cX3_addDisk 9 = .ok (.invokestatic 102, 3) := by decide +kernel
theorem dX3_addDisk_12 : decode cX3_addDisk 12 = .ok (.ifCond .ne 9, 3) := by decide +kernel
theorem dX3_addDisk_15 : decode cX3_addDisk 15 = .ok (.aload_n 0, 1) := by decide +kernel
theorem dX3_addDisk_16 : decode cX3_addDisk 16 = .ok (.iconst 1, 1) := by decide +kernel
theorem dX3_addDisk_17 : decode cX3_addDisk 17 = .ok (.invokevirtual 123, 3) := by decide +kernel
theorem dX3_addDisk_20 : decode cX3_addDisk 20 = .ok (.ireturn, 1) := by decide +kernel
theorem dX3_addDisk_21 : decode cX3_addDisk 21 = .ok (.aload_n 0, 1) := by decide +kernel
theorem dX3_addDisk_22 : decode cX3_addDisk 22 = .ok (.getfield 99, 3) := by decide +kernel
theorem dX3_addDisk_25 : decode cX3_addDisk 25 = .ok (.bipush 8, 2) := by decide +kernel
theorem dX3_addDisk_27 : decode cX3_addDisk 27 = .ok (.if_icmp .ne 9, 3) := by decide +kernel
theorem dX3_addDisk_30 : decode cX3_addDisk 30 = .ok (.aload_n 0, 1) := by decide +kernel
theorem dX3_addDisk_31 : decode cX3_addDisk 31 = .ok (.iconst 2, 1) := by decide +kernel
theorem dX3_addDisk_32 : decode cX3_addDisk 32 = .ok (.invokevirtual 123, 3) := by decide +kernel
theorem dX3_addDisk_35 : decode cX3_addDisk 35 = .ok (.ireturn, 1) := by decide +kernel
theorem dX3_addDisk_36 : decode cX3_addDisk 36 = .ok (.aload_n 0, 1) := by decide +kernel
theorem dX3_addDisk_37 : decode cX3_addDisk 37 = .ok (.getfield 9, 3) := by decide +kernel
theorem dX3_addDisk_40 : decode cX3_addDisk 40 = .ok (.aload_n 0, 1) := by decide +kernel
theorem dX3_addDisk_41 : decode cX3_addDisk 41 = .ok (.getfield 99, 3) := by decide +kernel
theorem dX3_addDisk_44 : decode cX3_addDisk 44 = .ok (.iload_n 1, 1) := by decide +kernel
theorem dX3_addDisk_45 : decode cX3_addDisk 45 = .ok (.iastore, 1) := by decide +kernel
theorem dX3_addDisk_46 : decode cX3_addDisk 46 = .ok (.aload_n 0, 1) := by decide +kernel
theorem dX3_addDisk_47 : decode cX3_addDisk 47 = .ok (.getfield 13, 3) := by decide +kernel
theorem dX3_addDisk_50 : decode cX3_addDisk 50 = .ok (.aload_n 0, 1) := by decide +kernel
theorem dX3_addDisk_51 : decode cX3_addDisk 51 = .ok (.getfield 99, 3) := by decide +kernel
theorem dX3_addDisk_54 : decode cX3_addDisk 54 = .ok (.bipush 115, 2) := by decide +kernel
theorem dX3_addDisk_56 : decode cX3_addDisk 56 = .ok (.castore, 1) := by decide +kernel
theorem dX3_addDisk_57 : decode cX3_addDisk 57 = .ok (.iconst 0, 1) := by decide +kernel
theorem dX3_addDisk_58 : decode cX3_addDisk 58 = .ok (.istore_n 2, 1) := by decide +kernel
theorem dX3_addDisk_59 : decode cX3_addDisk 59 = .ok (.iload_n 2, 1) := by decide +kernel
theorem dX3_addDisk_60 : decode cX3_addDisk 60 = .ok (.bipush 32, 2) := by decide +kernel
theorem dX3_addDisk_62 : decode cX3_addDisk 62 = .ok (.if_icmp .ge 24, 3) := by decide +kernel
theorem dX3_addDisk_65 : decode cX3_addDisk 65 = .ok (.aload_n 0, 1) := by decide +kernel
theorem dX3_addDisk_66 : decode cX3_addDisk 66 = .ok (.getfield 17, 3) := by decide +kernel
theorem dX3_addDisk_69 : decode cX3_addDisk 69 = .ok (.bipush 32, 2) := by decide +kernel
theorem dX3_addDisk_71 : decode cX3_addDisk 71 = .ok (.aload_n 0, 1) := by decide +kernel
theorem dX3_addDisk_72 : decode cX3_addDisk 72 = .ok (.getfield 99, 3) := by decide +kernel
theorem dX3_addDisk_75 : decode cX3_addDisk 75 = .ok (.imul, 1) := by decide +kernel
theorem dX3_addDisk_76 : decode cX3_addDisk 76 = .ok (.iload_n 2, 1) := by decide +kernel
theorem dX3_addDisk_77 : decode cX3_addDisk 77 = .ok (.iadd, 1) := by decide +kernel
theorem dX3_addDisk_78 : decode cX3_addDisk 78 = .ok (.iconst (-1), 1) := by decide +kernel
theorem dX3_addDisk_79 : decode cX3_addDisk 79 = .ok (.iastore, 1) := by decide +kernel
theorem dX3_addDisk_80 : decode cX3_addDisk 80 = .ok (.iinc 2 1, 3) := by decide +kernel
theorem dX3_addDisk_83 : decode cX3_addDisk 83 = .ok (.goto (-24), 3) := by decide +kernel
theorem dX3_addDisk_86 : decode cX3_addDisk 86 = .ok (.aload_n 0, 1) := by decide +kernel
theorem dX3_addDisk_87 : decode cX3_addDisk 87 = .ok (.dup, 1) := by decide +kernel
theorem dX3_addDisk_88 : decode cX3_addDisk 88 = .ok (.getfield 99, 3) := by decide +kernel
theorem dX3_addDisk_91 : decode cX3_addDisk 91 = .ok (.iconst 1, 1) := by decide +kernel
theorem dX3_addDisk_92 : decode cX3_addDisk 92 = .ok (.iadd, 1) := by decide +kernel
theorem dX3_addDisk_93 : decode cX3_addDisk 93 = .ok (.putfield 99, 3) := by decide +kernel
theorem dX3_addDisk_96 : decode cX3_addDisk 96 = .ok (.aload_n 0, 1) := by decide +kernel
theorem dX3_addDisk_97 : decode cX3_addDisk 97 = .ok (.getfield 99, 3) := by decide +kernel
theorem dX3_addDisk_100 : decode cX3_addDisk 100 = .ok (.iconst 1, 1) := by decide +kernel
theorem dX3_addDisk_101 : decode cX3_addDisk 101 = .ok (.isub, 1) := by decide +kernel
theorem dX3_addDisk_102 : decode cX3_addDisk 102 = .ok (.ireturn, 1) := by decide +kernel
theorem dX3_diskCount_0 : decode cX3_diskCount 0 = .ok (.aload_n 0, 1) := by decide +kernel
theorem dX3_diskCount_1 : decode cX3_diskCount 1 = .ok (.iconst 0, 1) := by decide +kernel
theorem dX3_diskCount_2 : decode cX3_diskCount 2 = .ok (.putfield 96, 3) := by decide +kernel
theorem dX3_diskCount_5 : decode cX3_diskCount 5 = .ok (.aload_n 0, 1) := by decide +kernel
theorem dX3_diskCount_6 : decode cX3_diskCount 6 = .ok (.getfield 99, 3) := by decide +kernel
theorem dX3_diskCount_9 : decode cX3_diskCount 9 = .ok (.ireturn, 1) := by decide +kernel
theorem dX3_isNoDisk_0 : decode cX3_isNoDisk 0 = .ok (.aload_n 0, 1) := by decide +kernel
theorem dX3_isNoDisk_1 : decode cX3_isNoDisk 1 = .ok (.aload_n 0, 1) := by decide +kernel
theorem dX3_isNoDisk_2 : decode cX3_isNoDisk 2 = .ok (.iload_n 1, 1) := by decide +kernel
theorem dX3_isNoDisk_3 : decode cX3_isNoDisk 3 = .ok (.invokevirtual 126, 3) := by decide +kernel
theorem dX3_isNoDisk_6 : decode cX3_isNoDisk 6 = .ok (.ifCond .eq 7, 3) := by decide +kernel
theorem dX3_isNoDisk_9 : decode cX3_isNoDisk 9 = .ok (.iconst 0, 1) := by decide +kernel
theorem dX3_isNoDisk_10 : decode cX3_isNoDisk 10 = .ok (.goto 4, 3) := by decide +kernel
theorem dX3_isNoDisk_13 : decode cX3_isNoDisk 13 = .ok (.iconst 1, 1) := by decide +kernel
theorem dX3_isNoDisk_14 : decode cX3_isNoDisk 14 = .ok (.putfield 96, 3) := by decide +kernel
theorem dX3_isNoDisk_17 : decode cX3_isNoDisk 17 = .ok (.aload_n 0, 1) := by decide +kernel
theorem dX3_isNoDisk_18 : decode cX3_isNoDisk 18 = .ok (.getfield 96, 3) := by decide +kernel
theorem dX3_isNoDisk_21 : decode cX3_isNoDisk 21 = .ok (.ifCond .le 7, 3) := by decide +kernel
theorem dX3_isNoDisk_24 : decode cX3_isNoDisk 24 = .ok (.iconst 1, 1) := by decide +kernel
theorem dX3_isNoDisk_25 : decode cX3_isNoDisk 25 = .ok (.goto 4, 3) := by decide +kernel
theorem dX3_isNoDisk_28 : decode cX3_isNoDisk 28 = .ok (.iconst 0, 1) := by decide +kernel
theorem dX3_isNoDisk_29 : decode cX3_isNoDisk 29 = .ok (.ireturn, 1) := by decide +kernel
theorem dX3_diskState_0 : decode cX3_diskState 0 = .ok (.aload_n 0, 1) := by decide +kernel
theorem dX3_diskState_1 : decode cX3_diskState 1 = .ok (.iload_n 1, 1) := by decide +kernel
theorem dX3_diskState_2 : decode cX3_diskState 2 = .ok (.invokevirtual 130, 3) := by decide +kernel
theorem dX3_diskState_5 : decode cX3_diskState 5 = .ok (.ifCond .eq 7, 3) := by decide +kernel
theorem dX3_diskState_8 : decode cX3_diskState 8 = .ok (.iconst 0, 1) := by decide +kernel
theorem dX3_diskState_9 : decode cX3_diskState 9 = .ok (.goto 9, 3) := by decide +kernel
theorem dX3_diskState_12 : decode cX3_diskState 12 = .ok (.aload_n 0, 1) := by decide +kernel
theorem dX3_diskState_13 : decode cX3_diskState 13 = .ok (.getfield 13, 3) := by decide +kernel
theorem dX3_diskState_16 : decode cX3_diskState 16 = .ok (.iload_n 1, 1) := by decide +kernel
theorem dX3_diskState_17 : decode cX3_diskState 17 = .ok (.caload, 1) := by decide +kernel
theorem dX3_diskState_18 : decode cX3_diskState 18 = .ok (.ireturn, 1) := by decide +kernel
theorem dX3_usedOn_0 : decode cX3_usedOn 0 = .ok (.aload_n 0, 1) := by decide +kernel
theorem dX3_usedOn_1 : decode cX3_usedOn 1 = .ok (.iload_n 1, 1) := by decide +kernel
theorem dX3_usedOn_2 : decode cX3_usedOn 2 = .ok (.invokevirtual 130, 3) := by decide +kernel
theorem dX3_usedOn_5 : decode cX3_usedOn 5 = .ok (.ifCond .eq 7, 3) := by decide +kernel
theorem dX3_usedOn_8 : decode cX3_usedOn 8 = .ok (.iconst 0, 1) := by decide +kernel
theorem dX3_usedOn_9 : decode cX3_usedOn 9 = .ok (.goto 8, 3) := by decide +kernel
theorem dX3_usedOn_12 : decode cX3_usedOn 12 = .ok (.aload_n 0, 1) := by decide +kernel
theorem dX3_usedOn_13 : decode cX3_usedOn 13 = .ok (.iload_n 1, 1) := by decide +kernel
theorem dX3_usedOn_14 : decode cX3_usedOn 14 = .ok (.invokevirtual 112, 3) := by decide +kernel
theorem dX3_usedOn_17 : decode cX3_usedOn 17 = .ok (.ireturn, 1) := by decide +kernel
theorem dX3_addTenant_0 : decode cX3_addTenant 0 = .ok (.aload_n 0, 1) := by decide +kernel
theorem dX3_addTenant_1 : decode cX3_addTenant 1 = .ok (.iconst 0, 1) := by decide +kernel
theorem dX3_addTenant_2 : decode cX3_addTenant 2 = .ok (.putfield 96, 3) := by decide +kernel
theorem dX3_addTenant_5 : decode cX3_addTenant 5 = .ok (.iload_n 1, 1) := by decide +kernel
theorem dX3_addTenant_6 : decode cX3_addTenant 6 = .ok (.iconst 1, 1) := by decide +kernel
theorem dX3_addTenant_7 : decode cX3_addTenant 7 = .ok (.iconst 3, 1) := by decide +kernel
theorem dX3_addTenant_8 : decode cX3_addTenant 8 = .ok (.invokestatic 102, 3) := by decide +kernel
theorem dX3_addTenant_11 : decode cX3_addTenant 11 = .ok (.ifCond .eq 13, 3) := by decide +kernel
theorem dX3_addTenant_14 : decode cX3_addTenant 14 = .ok (.iload_n 2, 1) := by decide +kernel
theorem dX3_addTenant_15 : decode cX3_addTenant 15 = .ok (.iconst 0, 1) := by decide +kernel
theorem dX3_addTenant_16 : decode cX3_addTenant 16 = .ok (.bipush 20, 2) := by decide +kernel
theorem dX3_addTenant_18 : decode cX3_addTenant 18 = .ok (.invokestatic 102, 3) := by decide +kernel
theorem dX3_addTenant_21 : decode cX3_addTenant 21 = .ok (.ifCond .ne 9, 3) := by decide +kernel
theorem dX3_addTenant_24 : decode cX3_addTenant 24 = .ok (.aload_n 0, 1) := by decide +kernel
theorem dX3_addTenant_25 : decode cX3_addTenant 25 = .ok (.iconst 1, 1) := by decide +kernel
theorem dX3_addTenant_26 : decode cX3_addTenant 26 = .ok (.invokevirtual 123, 3) := by decide +kernel
theorem dX3_addTenant_29 : decode cX3_addTenant 29 = .ok (.ireturn, 1) := by decide +kernel
theorem dX3_addTenant_30 : decode cX3_addTenant 30 = .ok (.aload_n 0, 1) := by decide +kernel
theorem dX3_addTenant_31 : decode cX3_addTenant 31 = .ok (.getfield 106, 3) := by decide +kernel
theorem dX3_addTenant_34 : decode cX3_addTenant 34 = .ok (.iconst 4, 1) := by decide +kernel
theorem dX3_addTenant_35 : decode cX3_addTenant 35 = .ok (.if_icmp .ne 9, 3) := by decide +kernel
theorem dX3_addTenant_38 : decode cX3_addTenant 38 = .ok (.aload_n 0, 1) := by decide +kernel
theorem dX3_addTenant_39 : decode cX3_addTenant 39 = .ok (.iconst 2, 1) := by decide +kernel
theorem dX3_addTenant_40 : decode cX3_addTenant 40 = .ok (.invokevirtual 123, 3) := by decide +kernel
theorem dX3_addTenant_43 : decode cX3_addTenant 43 = .ok (.ireturn, 1) := by decide +kernel
theorem dX3_addTenant_44 : decode cX3_addTenant 44 = .ok (.aload_n 0, 1) := by decide +kernel
theorem dX3_addTenant_45 : decode cX3_addTenant 45 = .ok (.getfield 53, 3) := by decide +kernel
theorem dX3_addTenant_48 : decode cX3_addTenant 48 = .ok (.aload_n 0, 1) := by decide +kernel
theorem dX3_addTenant_49 : decode cX3_addTenant 49 = .ok (.getfield 106, 3) := by decide +kernel
theorem dX3_addTenant_52 : decode cX3_addTenant 52 = .ok (.iload_n 1, 1) := by decide +kernel
theorem dX3_addTenant_53 : decode cX3_addTenant 53 = .ok (.iastore, 1) := by decide +kernel
theorem dX3_addTenant_54 : decode cX3_addTenant 54 = .ok (.aload_n 0, 1) := by decide +kernel
theorem dX3_addTenant_55 : decode cX3_addTenant 55 = .ok (.getfield 56, 3) := by decide +kernel
theorem dX3_addTenant_58 : decode cX3_addTenant 58 = .ok (.aload_n 0, 1) := by decide +kernel
theorem dX3_addTenant_59 : decode cX3_addTenant 59 = .ok (.getfield 106, 3) := by decide +kernel
theorem dX3_addTenant_62 : decode cX3_addTenant 62 = .ok (.iload_n 2, 1) := by decide +kernel
theorem dX3_addTenant_63 : decode cX3_addTenant 63 = .ok (.iastore, 1) := by decide +kernel
theorem dX3_addTenant_64 : decode cX3_addTenant 64 = .ok (.aload_n 0, 1) := by decide +kernel
theorem dX3_addTenant_65 : decode cX3_addTenant 65 = .ok (.dup, 1) := by decide +kernel
theorem dX3_addTenant_66 : decode cX3_addTenant 66 = .ok (.getfield 106, 3) := by decide +kernel
theorem dX3_addTenant_69 : decode cX3_addTenant 69 = .ok (.iconst 1, 1) := by decide +kernel
theorem dX3_addTenant_70 : decode cX3_addTenant 70 = .ok (.iadd, 1) := by decide +kernel
theorem dX3_addTenant_71 : decode cX3_addTenant 71 = .ok (.putfield 106, 3) := by decide +kernel
theorem dX3_addTenant_74 : decode cX3_addTenant 74 = .ok (.aload_n 0, 1) := by decide +kernel
theorem dX3_addTenant_75 : decode cX3_addTenant 75 = .ok (.getfield 106, 3) := by decide +kernel
theorem dX3_addTenant_78 : decode cX3_addTenant 78 = .ok (.iconst 1, 1) := by decide +kernel
theorem dX3_addTenant_79 : decode cX3_addTenant 79 = .ok (.isub, 1) := by decide +kernel
theorem dX3_addTenant_80 : decode cX3_addTenant 80 = .ok (.ireturn, 1) := by decide +kernel
theorem dX3_tenantCount_0 : decode cX3_tenantCount 0 = .ok (.aload_n 0, 1) := by decide +kernel
theorem dX3_tenantCount_1 : decode cX3_tenantCount 1 = .ok (.iconst 0, 1) := by decide +kernel
theorem dX3_tenantCount_2 : decode cX3_tenantCount 2 = .ok (.putfield 96, 3) := by decide +kernel
theorem dX3_tenantCount_5 : decode cX3_tenantCount 5 = .ok (.aload_n 0, 1) := by decide +kernel
theorem dX3_tenantCount_6 : decode cX3_tenantCount 6 = .ok (.getfield 106, 3) := by decide +kernel
theorem dX3_tenantCount_9 : decode cX3_tenantCount 9 = .ok (.ireturn, 1) := by decide +kernel
theorem dX3_setHurry_0 : decode cX3_setHurry 0 = .ok (.aload_n 0, 1) := by decide +kernel
theorem dX3_setHurry_1 : decode cX3_setHurry 1 = .ok (.iconst 0, 1) := by decide +kernel
theorem dX3_setHurry_2 : decode cX3_setHurry 2 = .ok (.putfield 96, 3) := by decide +kernel
theorem dX3_setHurry_5 : decode cX3_setHurry 5 = .ok (.iload_n 1, 1) := by decide +kernel
theorem dX3_setHurry_6 : decode cX3_setHurry 6 = .ok (.iconst 0, 1) := by decide +kernel
theorem dX3_setHurry_7 : decode cX3_setHurry 7 = .ok (.bipush 20, 2) := by decide +kernel
theorem dX3_setHurry_9 : decode cX3_setHurry 9 = .ok (.invokestatic 102, 3) := by decide +kernel
theorem dX3_setHurry_12 : decode cX3_setHurry 12 = .ok (.ifCond .ne 9, 3) := by decide +kernel
theorem dX3_setHurry_15 : decode cX3_setHurry 15 = .ok (.aload_n 0, 1) := by decide +kernel
theorem dX3_setHurry_16 : decode cX3_setHurry 16 = .ok (.iconst 1, 1) := by decide +kernel
theorem dX3_setHurry_17 : decode cX3_setHurry 17 = .ok (.invokevirtual 123, 3) := by decide +kernel
theorem dX3_setHurry_20 : decode cX3_setHurry 20 = .ok (.ireturn, 1) := by decide +kernel
theorem dX3_setHurry_21 : decode cX3_setHurry 21 = .ok (.aload_n 0, 1) := by decide +kernel
theorem dX3_setHurry_22 : decode cX3_setHurry 22 = .ok (.getfield 86, 3) := by decide +kernel
theorem dX3_setHurry_25 : decode cX3_setHurry 25 = .ok (.istore_n 2, 1) := by decide +kernel
theorem dX3_setHurry_26 : decode cX3_setHurry 26 = .ok (.aload_n 0, 1) := by decide +kernel
theorem dX3_setHurry_27 : decode cX3_setHurry 27 = .ok (.iload_n 1, 1) := by decide +kernel
theorem dX3_setHurry_28 : decode cX3_setHurry 28 = .ok (.putfield 86, 3) := by decide +kernel
theorem dX3_setHurry_31 : decode cX3_setHurry 31 = .ok (.iload_n 2, 1) := by decide +kernel
theorem dX3_setHurry_32 : decode cX3_setHurry 32 = .ok (.ireturn, 1) := by decide +kernel
theorem dX3_isNone_0 : decode cX3_isNone 0 = .ok (.aload_n 0, 1) := by decide +kernel
theorem dX3_isNone_1 : decode cX3_isNone 1 = .ok (.aload_n 0, 1) := by decide +kernel
theorem dX3_isNone_2 : decode cX3_isNone 2 = .ok (.iload_n 1, 1) := by decide +kernel
theorem dX3_isNone_3 : decode cX3_isNone 3 = .ok (.invokevirtual 133, 3) := by decide +kernel
theorem dX3_isNone_6 : decode cX3_isNone 6 = .ok (.ifCond .eq 17, 3) := by decide +kernel
theorem dX3_isNone_9 : decode cX3_isNone 9 = .ok (.iload_n 2, 1) := by decide +kernel
theorem dX3_isNone_10 : decode cX3_isNone 10 = .ok (.iconst 0, 1) := by decide +kernel
theorem dX3_isNone_11 : decode cX3_isNone 11 = .ok (.bipush 99, 2) := by decide +kernel
theorem dX3_isNone_13 : decode cX3_isNone 13 = .ok (.invokestatic 102, 3) := by decide +kernel
theorem dX3_isNone_16 : decode cX3_isNone 16 = .ok (.ifCond .eq 7, 3) := by decide +kernel
theorem dX3_isNone_19 : decode cX3_isNone 19 = .ok (.iconst 0, 1) := by decide +kernel
theorem dX3_isNone_20 : decode cX3_isNone 20 = .ok (.goto 4, 3) := by decide +kernel
theorem dX3_isNone_23 : decode cX3_isNone 23 = .ok (.iconst 1, 1) := by decide +kernel
theorem dX3_isNone_24 : decode cX3_isNone 24 = .ok (.putfield 96, 3) := by decide +kernel
theorem dX3_isNone_27 : decode cX3_isNone 27 = .ok (.aload_n 0, 1) := by decide +kernel
theorem dX3_isNone_28 : decode cX3_isNone 28 = .ok (.getfield 96, 3) := by decide +kernel
theorem dX3_isNone_31 : decode cX3_isNone 31 = .ok (.ifCond .le 7, 3) := by decide +kernel
theorem dX3_isNone_34 : decode cX3_isNone 34 = .ok (.iconst 1, 1) := by decide +kernel
theorem dX3_isNone_35 : decode cX3_isNone 35 = .ok (.goto 4, 3) := by decide +kernel
theorem dX3_isNone_38 : decode cX3_isNone 38 = .ok (.iconst 0, 1) := by decide +kernel
theorem dX3_isNone_39 : decode cX3_isNone 39 = .ok (.ireturn, 1) := by decide +kernel
theorem dX3_waitingMany_0 : decode cX3_waitingMany 0 = .ok (.iconst 0, 1) := by decide +kernel
theorem dX3_waitingMany_1 : decode cX3_waitingMany 1 = .ok (.istore_n 2, 1) := by decide +kernel
theorem dX3_waitingMany_2 : decode cX3_waitingMany 2 = .ok (.iconst 0, 1) := by decide +kernel
theorem dX3_waitingMany_3 : decode cX3_waitingMany 3 = .ok (.istore_n 3, 1) := by decide +kernel
theorem dX3_waitingMany_4 : decode cX3_waitingMany 4 = .ok (.iload_n 3, 1) := by decide +kernel
theorem dX3_waitingMany_5 : decode cX3_waitingMany 5 = .ok (.aload_n 0, 1) := by decide +kernel
theorem dX3_waitingMany_6 : decode cX3_waitingMany 6 = .ok (.getfield 109, 3) := by decide +kernel
theorem dX3_waitingMany_9 : decode cX3_waitingMany 9 = .ok (.if_icmp .ge 45, 3) := by decide +kernel
theorem dX3_waitingMany_12 : decode cX3_waitingMany 12 = .ok (.iload_n 2, 1) := by decide +kernel
theorem dX3_waitingMany_13 : decode cX3_waitingMany 13 = .ok (.aload_n 0, 1) := by decide +kernel
theorem dX3_waitingMany_14 : decode cX3_waitingMany 14 = .ok (.getfield 83, 3) := by decide +kernel
theorem dX3_waitingMany_17 : decode cX3_waitingMany 17 = .ok (.iload_n 3, 1) := by decide +kernel
theorem dX3_waitingMany_18 : decode cX3_waitingMany 18 = .ok (.caload, 1) := by decide +kernel
theorem dX3_waitingMany_19 : decode cX3_waitingMany 19 = .ok (.bipush 119, 2) := by decide +kernel
theorem dX3_waitingMany_21 : decode cX3_waitingMany 21 = .ok (.if_icmp .ne 24, 3) := by decide +kernel
theorem dX3_waitingMany_24 : decode cX3_waitingMany 24 = .ok (.iload_n 1, 1) := by decide +kernel
theorem dX3_waitingMany_25 : decode cX3_waitingMany 25 = .ok (.ifCond .lt 16, 3) := by decide +kernel
theorem dX3_waitingMany_28 : decode cX3_waitingMany 28 = .ok (.aload_n 0, 1) := by decide +kernel
theorem dX3_waitingMany_29 : decode cX3_waitingMany 29 = .ok (.getfield 74, 3) := by decide +kernel
theorem dX3_waitingMany_32 : decode cX3_waitingMany 32 = .ok (.iload_n 3, 1) := by decide +kernel
theorem dX3_waitingMany_33 : decode cX3_waitingMany 33 = .ok (.iaload, 1) := by decide +kernel
theorem dX3_waitingMany_34 : decode cX3_waitingMany 34 = .ok (.bipush 100, 2) := by decide +kernel
theorem dX3_waitingMany_36 : decode cX3_waitingMany 36 = .ok (.idiv, 1) := by decide +kernel
theorem dX3_waitingMany_37 : decode cX3_waitingMany 37 = .ok (.iload_n 1, 1) := by decide +kernel
theorem dX3_waitingMany_38 : decode cX3_waitingMany 38 = .ok (.if_icmp .ne 7, 3) := by decide +kernel
theorem dX3_waitingMany_41 : decode cX3_waitingMany 41 = .ok (.iconst 1, 1) := by decide +kernel
theorem dX3_waitingMany_42 : decode cX3_waitingMany 42 = .ok (.goto 4, 3) := by decide +kernel
theorem dX3_waitingMany_45 : decode cX3_waitingMany 45 = .ok (.iconst 0, 1) := by decide +kernel
theorem dX3_waitingMany_46 : decode cX3_waitingMany 46 = .ok (.iadd, 1) := by decide +kernel
theorem dX3_waitingMany_47 : decode cX3_waitingMany 47 = .ok (.istore_n 2, 1) := by decide +kernel
theorem dX3_waitingMany_48 : decode cX3_waitingMany 48 = .ok (.iinc 3 1, 3) := by decide +kernel
theorem dX3_waitingMany_51 : decode cX3_waitingMany 51 = .ok (.goto (-47), 3) := by decide +kernel
theorem dX3_waitingMany_54 : decode cX3_waitingMany 54 = .ok (.iload_n 2, 1) := by decide +kernel
theorem dX3_waitingMany_55 : decode cX3_waitingMany 55 = .ok (.ireturn, 1) := by decide +kernel
theorem dX3_asks_0 : decode cX3_asks 0 = .ok (.aload_n 0, 1) := by decide +kernel
theorem dX3_asks_1 : decode cX3_asks 1 = .ok (.iconst (-1), 1) := by decide +kernel
theorem dX3_asks_2 : decode cX3_asks 2 = .ok (.invokevirtual 136, 3) := by decide +kernel
theorem dX3_asks_5 : decode cX3_asks 5 = .ok (.bipush 40, 2) := by decide +kernel
theorem dX3_asks_7 : decode cX3_asks 7 = .ok (.if_icmp .eq 13, 3) := by decide +kernel
theorem dX3_asks_10 : decode cX3_asks 10 = .ok (.aload_n 0, 1) := by decide +kernel
theorem dX3_asks_11 : decode cX3_asks 11 = .ok (.getfield 109, 3) := by decide +kernel
theorem dX3_asks_14 : decode cX3_asks 14 = .ok (.sipush 300, 3) := by decide +kernel
theorem dX3_asks_17 : decode cX3_asks 17 = .ok (.if_icmp .ne 9, 3) := by decide +kernel
theorem dX3_asks_20 : decode cX3_asks 20 = .ok (.aload_n 0, 1) := by decide +kernel
theorem dX3_asks_21 : decode cX3_asks 21 = .ok (.iload_n 3, 1) := by decide +kernel
theorem dX3_asks_22 : decode cX3_asks 22 = .ok (.invokevirtual 123, 3) := by decide +kernel
theorem dX3_asks_25 : decode cX3_asks 25 = .ok (.ireturn, 1) := by decide +kernel
theorem dX3_asks_26 : decode cX3_asks 26 = .ok (.aload_n 0, 1) := by decide +kernel
theorem dX3_asks_27 : decode cX3_asks 27 = .ok (.getfield 74, 3) := by decide +kernel
theorem dX3_asks_30 : decode cX3_asks 30 = .ok (.aload_n 0, 1) := by decide +kernel
theorem dX3_asks_31 : decode cX3_asks 31 = .ok (.getfield 109, 3) := by decide +kernel
theorem dX3_asks_34 : decode cX3_asks 34 = .ok (.iload_n 1, 1) := by decide +kernel
theorem dX3_asks_35 : decode cX3_asks 35 = .ok (.iastore, 1) := by decide +kernel
theorem dX3_asks_36 : decode cX3_asks 36 = .ok (.aload_n 0, 1) := by decide +kernel
theorem dX3_asks_37 : decode cX3_asks 37 = .ok (.getfield 77, 3) := by decide +kernel
theorem dX3_asks_40 : decode cX3_asks 40 = .ok (.aload_n 0, 1) := by decide +kernel
theorem dX3_asks_41 : decode cX3_asks 41 = .ok (.getfield 109, 3) := by decide +kernel
theorem dX3_asks_44 : decode cX3_asks 44 = .ok (.iload_n 2, 1) := by decide +kernel
theorem dX3_asks_45 : decode cX3_asks 45 = .ok (.iastore, 1) := by decide +kernel
theorem dX3_asks_46 : decode cX3_asks 46 = .ok (.aload_n 0, 1) := by decide +kernel
theorem dX3_asks_47 : decode cX3_asks 47 = .ok (.getfield 83, 3) := by decide +kernel
theorem dX3_asks_50 : decode cX3_asks 50 = .ok (.aload_n 0, 1) := by decide +kernel
theorem dX3_asks_51 : decode cX3_asks 51 = .ok (.getfield 109, 3) := by decide +kernel
theorem dX3_asks_54 : decode cX3_asks 54 = .ok (.bipush 119, 2) := by decide +kernel
theorem dX3_asks_56 : decode cX3_asks 56 = .ok (.castore, 1) := by decide +kernel
theorem dX3_asks_57 : decode cX3_asks 57 = .ok (.aload_n 0, 1) := by decide +kernel
theorem dX3_asks_58 : decode cX3_asks 58 = .ok (.dup, 1) := by decide +kernel
theorem dX3_asks_59 : decode cX3_asks 59 = .ok (.getfield 109, 3) := by decide +kernel
theorem dX3_asks_62 : decode cX3_asks 62 = .ok (.iconst 1, 1) := by decide +kernel
theorem dX3_asks_63 : decode cX3_asks 63 = .ok (.iadd, 1) := by decide +kernel
theorem dX3_asks_64 : decode cX3_asks 64 = .ok (.putfield 109, 3) := by decide +kernel
theorem dX3_asks_67 : decode cX3_asks 67 = .ok (.aload_n 0, 1) := by decide +kernel
theorem dX3_asks_68 : decode cX3_asks 68 = .ok (.getfield 109, 3) := by decide +kernel
theorem dX3_asks_71 : decode cX3_asks 71 = .ok (.iconst 1, 1) := by decide +kernel
theorem dX3_asks_72 : decode cX3_asks 72 = .ok (.isub, 1) := by decide +kernel
theorem dX3_asks_73 : decode cX3_asks 73 = .ok (.ireturn, 1) := by decide +kernel
theorem dX3_read_0 : decode cX3_read 0 = .ok (.aload_n 0, 1) := by decide +kernel
theorem dX3_read_1 : decode cX3_read 1 = .ok (.iload_n 1, 1) := by decide +kernel
theorem dX3_read_2 : decode cX3_read 2 = .ok (.iload_n 2, 1) := by decide +kernel
theorem dX3_read_3 : decode cX3_read 3 = .ok (.invokevirtual 139, 3) := by decide +kernel
theorem dX3_read_6 : decode cX3_read 6 = .ok (.ifCond .eq 7, 3) := by decide +kernel
theorem dX3_read_9 : decode cX3_read 9 = .ok (.iconst 0, 1) := by decide +kernel
theorem dX3_read_10 : decode cX3_read 10 = .ok (.goto 15, 3) := by decide +kernel
theorem dX3_read_13 : decode cX3_read 13 = .ok (.aload_n 0, 1) := by decide +kernel
theorem dX3_read_14 : decode cX3_read 14 = .ok (.bipush 100, 2) := by decide +kernel
theorem dX3_read_16 : decode cX3_read 16 = .ok (.iload_n 1, 1) := by decide +kernel
theorem dX3_read_17 : decode cX3_read 17 = .ok (.imul, 1) := by decide +kernel
theorem dX3_read_18 : decode cX3_read 18 = .ok (.iload_n 2, 1) := by decide +kernel
theorem dX3_read_19 : decode cX3_read 19 = .ok (.iadd, 1) := by decide +kernel
theorem dX3_read_20 : decode cX3_read 20 = .ok (.iconst (-1), 1) := by decide +kernel
theorem dX3_read_21 : decode cX3_read 21 = .ok (.iconst 2, 1) := by decide +kernel
theorem dX3_read_22 : decode cX3_read 22 = .ok (.invokevirtual 142, 3) := by decide +kernel
theorem dX3_read_25 : decode cX3_read 25 = .ok (.ireturn, 1) := by decide +kernel
theorem dX3_write_0 : decode cX3_write 0 = .ok (.aload_n 0, 1) := by decide +kernel
theorem dX3_write_1 : decode cX3_write 1 = .ok (.iload_n 1, 1) := by decide +kernel
theorem dX3_write_2 : decode cX3_write 2 = .ok (.iload_n 2, 1) := by decide +kernel
theorem dX3_write_3 : decode cX3_write 3 = .ok (.invokevirtual 139, 3) := by decide +kernel
theorem dX3_write_6 : decode cX3_write 6 = .ok (.ifCond .eq 5, 3) := by decide +kernel
theorem dX3_write_9 : decode cX3_write 9 = .ok (.iconst 0, 1) := by decide +kernel
theorem dX3_write_10 : decode cX3_write 10 = .ok (.ireturn, 1) := by decide +kernel
theorem dX3_write_11 : decode cX3_write 11 = .ok (.iload_n 3, 1) := by decide +kernel
theorem dX3_write_12 : decode cX3_write 12 = .ok (.iconst 0, 1) := by decide +kernel
theorem dX3_write_13 : decode cX3_write 13 = .ok (.sipush 9999, 3) := by decide +kernel
theorem dX3_write_16 : decode cX3_write 16 = .ok (.invokestatic 102, 3) := by decide +kernel
theorem dX3_write_19 : decode cX3_write 19 = .ok (.ifCond .eq 18, 3) := by decide +kernel
theorem dX3_write_22 : decode cX3_write 22 = .ok (.aload_n 0, 1) := by decide +kernel
theorem dX3_write_23 : decode cX3_write 23 = .ok (.bipush 100, 2) := by decide +kernel
theorem dX3_write_25 : decode cX3_write 25 = .ok (.iload_n 1, 1) := by decide +kernel
theorem dX3_write_26 : decode cX3_write 26 = .ok (.imul, 1) := by decide +kernel
theorem dX3_write_27 : decode cX3_write 27 = .ok (.iload_n 2, 1) := by decide +kernel
theorem dX3_write_28 : decode cX3_write 28 = .ok (.iadd, 1) := by decide +kernel
theorem dX3_write_29 : decode cX3_write 29 = .ok (.iload_n 3, 1) := by decide +kernel
theorem dX3_write_30 : decode cX3_write 30 = .ok (.iconst 3, 1) := by decide +kernel
theorem dX3_write_31 : decode cX3_write 31 = .ok (.invokevirtual 142, 3) := by decide +kernel
theorem dX3_write_34 : decode cX3_write 34 = .ok (.goto 8, 3) := by decide +kernel
theorem dX3_write_37 : decode cX3_write 37 = .ok (.aload_n 0, 1) := by decide +kernel
theorem dX3_write_38 : decode cX3_write 38 = .ok (.iconst 2, 1) := by decide +kernel
theorem dX3_write_39 : decode cX3_write 39 = .ok (.invokevirtual 123, 3) := by decide +kernel
theorem dX3_write_42 : decode cX3_write 42 = .ok (.ireturn, 1) := by decide +kernel
theorem dX3_isNoRequest_0 : decode cX3_isNoRequest 0 = .ok (.aload_n 0, 1) := by decide +kernel
theorem dX3_isNoRequest_1 : decode cX3_isNoRequest 1 = .ok (.aload_n 0, 1) := by decide +kernel
theorem dX3_isNoRequest_2 : decode cX3_isNoRequest 2 = .ok (.iload_n 1, 1) := by decide +kernel
theorem dX3_isNoRequest_3 : decode cX3_isNoRequest 3 = .ok (.invokevirtual 146, 3) := by decide +kernel
theorem dX3_isNoRequest_6 : decode cX3_isNoRequest 6 = .ok (.ifCond .eq 7, 3) := by decide +kernel
theorem dX3_isNoRequest_9 : decode cX3_isNoRequest 9 = .ok (.iconst 0, 1) := by decide +kernel
theorem dX3_isNoRequest_10 : decode cX3_isNoRequest 10 = .ok (.goto 4, 3) := by decide +kernel
theorem dX3_isNoRequest_13 : decode cX3_isNoRequest 13 = .ok (.iconst 1, 1) := by decide +kernel
theorem dX3_isNoRequest_14 : decode cX3_isNoRequest 14 = .ok (.putfield 96, 3) := by decide +kernel
theorem dX3_isNoRequest_17 : decode cX3_isNoRequest 17 = .ok (.aload_n 0, 1) := by decide +kernel
theorem dX3_isNoRequest_18 : decode cX3_isNoRequest 18 = .ok (.getfield 96, 3) := by decide +kernel
theorem dX3_isNoRequest_21 : decode cX3_isNoRequest 21 = .ok (.ifCond .le 7, 3) := by decide +kernel
theorem dX3_isNoRequest_24 : decode cX3_isNoRequest 24 = .ok (.iconst 1, 1) := by decide +kernel
theorem dX3_isNoRequest_25 : decode cX3_isNoRequest 25 = .ok (.goto 4, 3) := by decide +kernel
theorem dX3_isNoRequest_28 : decode cX3_isNoRequest 28 = .ok (.iconst 0, 1) := by decide +kernel
theorem dX3_isNoRequest_29 : decode cX3_isNoRequest 29 = .ok (.ireturn, 1) := by decide +kernel
theorem dX3_stateOf_0 : decode cX3_stateOf 0 = .ok (.aload_n 0, 1) := by decide +kernel
theorem dX3_stateOf_1 : decode cX3_stateOf 1 = .ok (.iload_n 1, 1) := by decide +kernel
theorem dX3_stateOf_2 : decode cX3_stateOf 2 = .ok (.invokevirtual 149, 3) := by decide +kernel
theorem dX3_stateOf_5 : decode cX3_stateOf 5 = .ok (.ifCond .eq 7, 3) := by decide +kernel
theorem dX3_stateOf_8 : decode cX3_stateOf 8 = .ok (.iconst 0, 1) := by decide +kernel
theorem dX3_stateOf_9 : decode cX3_stateOf 9 = .ok (.goto 9, 3) := by decide +kernel
theorem dX3_stateOf_12 : decode cX3_stateOf 12 = .ok (.aload_n 0, 1) := by decide +kernel
theorem dX3_stateOf_13 : decode cX3_stateOf 13 = .ok (.getfield 83, 3) := by decide +kernel
theorem dX3_stateOf_16 : decode cX3_stateOf 16 = .ok (.iload_n 1, 1) := by decide +kernel
theorem dX3_stateOf_17 : decode cX3_stateOf 17 = .ok (.caload, 1) := by decide +kernel
theorem dX3_stateOf_18 : decode cX3_stateOf 18 = .ok (.ireturn, 1) := by decide +kernel
theorem dX3_answerTo_0 : decode cX3_answerTo 0 = .ok (.aload_n 0, 1) := by decide +kernel
theorem dX3_answerTo_1 : decode cX3_answerTo 1 = .ok (.iload_n 1, 1) := by decide +kernel
theorem dX3_answerTo_2 : decode cX3_answerTo 2 = .ok (.invokevirtual 149, 3) := by decide +kernel
theorem dX3_answerTo_5 : decode cX3_answerTo 5 = .ok (.ifCond .eq 5, 3) := by decide +kernel
theorem dX3_answerTo_8 : decode cX3_answerTo 8 = .ok (.iconst 0, 1) := by decide +kernel
theorem dX3_answerTo_9 : decode cX3_answerTo 9 = .ok (.ireturn, 1) := by decide +kernel
theorem dX3_answerTo_10 : decode cX3_answerTo 10 = .ok (.aload_n 0, 1) := by decide +kernel
theorem dX3_answerTo_11 : decode cX3_answerTo 11 = .ok (.getfield 77, 3) := by decide +kernel
theorem dX3_answerTo_14 : decode cX3_answerTo 14 = .ok (.iload_n 1, 1) := by decide +kernel
theorem dX3_answerTo_15 : decode cX3_answerTo 15 = .ok (.iaload, 1) := by decide +kernel
theorem dX3_answerTo_16 : decode cX3_answerTo 16 = .ok (.ifCond .ge 23, 3) := by decide +kernel
theorem dX3_answerTo_19 : decode cX3_answerTo 19 = .ok (.aload_n 0, 1) := by decide +kernel
theorem dX3_answerTo_20 : decode cX3_answerTo 20 = .ok (.getfield 83, 3) := by decide +kernel
theorem dX3_answerTo_23 : decode cX3_answerTo 23 = .ok (.iload_n 1, 1) := by decide +kernel
theorem dX3_answerTo_24 : decode cX3_answerTo 24 = .ok (.caload, 1) := by decide +kernel
theorem dX3_answerTo_25 : decode cX3_answerTo 25 = .ok (.bipush 100, 2) := by decide +kernel
theorem dX3_answerTo_27 : decode cX3_answerTo 27 = .ok (.if_icmp .ne 12, 3) := by decide +kernel
theorem dX3_answerTo_30 : decode cX3_answerTo 30 = .ok (.aload_n 0, 1) := by decide +kernel
theorem dX3_answerTo_31 : decode cX3_answerTo 31 = .ok (.getfield 80, 3) := by decide +kernel
theorem dX3_answerTo_34 : decode cX3_answerTo 34 = .ok (.iload_n 1, 1) := by decide +kernel
theorem dX3_answerTo_35 : decode cX3_answerTo 35 = .ok (.iaload, 1) := by decide +kernel
theorem dX3_answerTo_36 : decode cX3_answerTo 36 = .ok (.goto 8, 3) := by decide +kernel
theorem dX3_answerTo_39 : decode cX3_answerTo 39 = .ok (.aload_n 0, 1) := by decide +kernel
theorem dX3_answerTo_40 : decode cX3_answerTo 40 = .ok (.iconst 2, 1) := by decide +kernel
theorem dX3_answerTo_41 : decode cX3_answerTo 41 = .ok (.invokevirtual 123, 3) := by decide +kernel
theorem dX3_answerTo_44 : decode cX3_answerTo 44 = .ok (.ireturn, 1) := by decide +kernel
theorem dX3_isNobody_0 : decode cX3_isNobody 0 = .ok (.aload_n 0, 1) := by decide +kernel
theorem dX3_isNobody_1 : decode cX3_isNobody 1 = .ok (.aload_n 0, 1) := by decide +kernel
theorem dX3_isNobody_2 : decode cX3_isNobody 2 = .ok (.iload_n 1, 1) := by decide +kernel
theorem dX3_isNobody_3 : decode cX3_isNobody 3 = .ok (.invokevirtual 133, 3) := by decide +kernel
theorem dX3_isNobody_6 : decode cX3_isNobody 6 = .ok (.ifCond .eq 7, 3) := by decide +kernel
theorem dX3_isNobody_9 : decode cX3_isNobody 9 = .ok (.iconst 0, 1) := by decide +kernel
theorem dX3_isNobody_10 : decode cX3_isNobody 10 = .ok (.goto 4, 3) := by decide +kernel
theorem dX3_isNobody_13 : decode cX3_isNobody 13 = .ok (.iconst 1, 1) := by decide +kernel
theorem dX3_isNobody_14 : decode cX3_isNobody 14 = .ok (.putfield 96, 3) := by decide +kernel
theorem dX3_isNobody_17 : decode cX3_isNobody 17 = .ok (.aload_n 0, 1) := by decide +kernel
theorem dX3_isNobody_18 : decode cX3_isNobody 18 = .ok (.getfield 96, 3) := by decide +kernel
theorem dX3_isNobody_21 : decode cX3_isNobody 21 = .ok (.ifCond .le 7, 3) := by decide +kernel
theorem dX3_isNobody_24 : decode cX3_isNobody 24 = .ok (.iconst 1, 1) := by decide +kernel
theorem dX3_isNobody_25 : decode cX3_isNobody 25 = .ok (.goto 4, 3) := by decide +kernel
theorem dX3_isNobody_28 : decode cX3_isNobody 28 = .ok (.iconst 0, 1) := by decide +kernel
theorem dX3_isNobody_29 : decode cX3_isNobody 29 = .ok (.ireturn, 1) := by decide +kernel
theorem dX3_waitingOf_0 : decode cX3_waitingOf 0 = .ok (.aload_n 0, 1) := by decide +kernel
theorem dX3_waitingOf_1 : decode cX3_waitingOf 1 = .ok (.iload_n 1, 1) := by decide +kernel
theorem dX3_waitingOf_2 : decode cX3_waitingOf 2 = .ok (.invokevirtual 152, 3) := by decide +kernel
theorem dX3_waitingOf_5 : decode cX3_waitingOf 5 = .ok (.ifCond .eq 7, 3) := by decide +kernel
theorem dX3_waitingOf_8 : decode cX3_waitingOf 8 = .ok (.iconst 0, 1) := by decide +kernel
theorem dX3_waitingOf_9 : decode cX3_waitingOf 9 = .ok (.goto 8, 3) := by decide +kernel
theorem dX3_waitingOf_12 : decode cX3_waitingOf 12 = .ok (.aload_n 0, 1) := by decide +kernel
theorem dX3_waitingOf_13 : decode cX3_waitingOf 13 = .ok (.iload_n 1, 1) := by decide +kernel
theorem dX3_waitingOf_14 : decode cX3_waitingOf 14 = .ok (.invokevirtual 136, 3) := by decide +kernel
theorem dX3_waitingOf_17 : decode cX3_waitingOf 17 = .ok (.ireturn, 1) := by decide +kernel
theorem dX3_servedOf_0 : decode cX3_servedOf 0 = .ok (.aload_n 0, 1) := by decide +kernel
theorem dX3_servedOf_1 : decode cX3_servedOf 1 = .ok (.iload_n 1, 1) := by decide +kernel
theorem dX3_servedOf_2 : decode cX3_servedOf 2 = .ok (.invokevirtual 152, 3) := by decide +kernel
theorem dX3_servedOf_5 : decode cX3_servedOf 5 = .ok (.ifCond .eq 7, 3) := by decide +kernel
theorem dX3_servedOf_8 : decode cX3_servedOf 8 = .ok (.iconst 0, 1) := by decide +kernel
theorem dX3_servedOf_9 : decode cX3_servedOf 9 = .ok (.goto 9, 3) := by decide +kernel
theorem dX3_servedOf_12 : decode cX3_servedOf 12 = .ok (.aload_n 0, 1) := by decide +kernel
theorem dX3_servedOf_13 : decode cX3_servedOf 13 = .ok (.getfield 59, 3) := by decide +kernel
theorem dX3_servedOf_16 : decode cX3_servedOf 16 = .ok (.iload_n 1, 1) := by decide +kernel
theorem dX3_servedOf_17 : decode cX3_servedOf 17 = .ok (.iaload, 1) := by decide +kernel
theorem dX3_servedOf_18 : decode cX3_servedOf 18 = .ok (.ireturn, 1) := by decide +kernel
theorem dX3_creditsOf_0 : decode cX3_creditsOf 0 = .ok (.aload_n 0, 1) := by decide +kernel
theorem dX3_creditsOf_1 : decode cX3_creditsOf 1 = .ok (.iload_n 1, 1) := by decide +kernel
theorem dX3_creditsOf_2 : decode cX3_creditsOf 2 = .ok (.invokevirtual 152, 3) := by decide +kernel
theorem dX3_creditsOf_5 : decode cX3_creditsOf 5 = .ok (.ifCond .eq 7, 3) := by decide +kernel
theorem dX3_creditsOf_8 : decode cX3_creditsOf 8 = .ok (.iconst 0, 1) := by decide +kernel
theorem dX3_creditsOf_9 : decode cX3_creditsOf 9 = .ok (.goto 9, 3) := by decide +kernel
theorem dX3_creditsOf_12 : decode cX3_creditsOf 12 = .ok (.aload_n 0, 1) := by decide +kernel
theorem dX3_creditsOf_13 : decode cX3_creditsOf 13 = .ok (.getfield 62, 3) := by decide +kernel
theorem dX3_creditsOf_16 : decode cX3_creditsOf 16 = .ok (.iload_n 1, 1) := by decide +kernel
theorem dX3_creditsOf_17 : decode cX3_creditsOf 17 = .ok (.iaload, 1) := by decide +kernel
theorem dX3_creditsOf_18 : decode cX3_creditsOf 18 = .ok (.ireturn, 1) := by decide +kernel
theorem dX3_breachesOf_0 : decode cX3_breachesOf 0 = .ok (.aload_n 0, 1) := by decide +kernel
theorem dX3_breachesOf_1 : decode cX3_breachesOf 1 = .ok (.iload_n 1, 1) := by decide +kernel
theorem dX3_breachesOf_2 : decode cX3_breachesOf 2 = .ok (.invokevirtual 152, 3) := by decide +kernel
theorem dX3_breachesOf_5 : decode cX3_breachesOf 5 = .ok (.ifCond .eq 7, 3) := by decide +kernel
theorem dX3_breachesOf_8 : decode cX3_breachesOf 8 = .ok (.iconst 0, 1) := by decide +kernel
theorem dX3_breachesOf_9 : decode cX3_breachesOf 9 = .ok (.goto 9, 3) := by decide +kernel
theorem dX3_breachesOf_12 : decode cX3_breachesOf 12 = .ok (.aload_n 0, 1) := by decide +kernel
theorem dX3_breachesOf_13 : decode cX3_breachesOf 13 = .ok (.getfield 65, 3) := by decide +kernel
theorem dX3_breachesOf_16 : decode cX3_breachesOf 16 = .ok (.iload_n 1, 1) := by decide +kernel
theorem dX3_breachesOf_17 : decode cX3_breachesOf 17 = .ok (.iaload, 1) := by decide +kernel
theorem dX3_breachesOf_18 : decode cX3_breachesOf 18 = .ok (.ireturn, 1) := by decide +kernel
theorem dX3_putsAnew_0 : decode cX3_putsAnew 0 = .ok (.aload_n 0, 1) := by decide +kernel
theorem dX3_putsAnew_1 : decode cX3_putsAnew 1 = .ok (.invokevirtual 155, 3) := by decide +kernel
theorem dX3_putsAnew_4 : decode cX3_putsAnew 4 = .ok (.aload_n 0, 1) := by decide +kernel
theorem dX3_putsAnew_5 : decode cX3_putsAnew 5 = .ok (.getfield 38, 3) := by decide +kernel
theorem dX3_putsAnew_8 : decode cX3_putsAnew 8 = .ok (.iload_n 1, 1) := by decide +kernel
theorem dX3_putsAnew_9 : decode cX3_putsAnew 9 = .ok (.iaload, 1) := by decide +kernel
theorem dX3_putsAnew_10 : decode cX3_putsAnew 10 = .ok (.ifCond .le 12, 3) := by decide +kernel
theorem dX3_putsAnew_13 : decode cX3_putsAnew 13 = .ok (.aload_n 0, 1) := by decide +kernel
theorem dX3_putsAnew_14 : decode cX3_putsAnew 14 = .ok (.iload_n 1, 1) := by decide +kernel
theorem dX3_putsAnew_15 : decode cX3_putsAnew 15 = .ok (.iconst 0, 1) := by decide +kernel
theorem dX3_putsAnew_16 : decode cX3_putsAnew 16 = .ok (.invokevirtual 158, 3) := by decide +kernel
theorem dX3_putsAnew_19 : decode cX3_putsAnew 19 = .ok (.goto (-15), 3) := by decide +kernel
theorem dX3_putsAnew_22 : decode cX3_putsAnew 22 = .ok (.iconst 0, 1) := by decide +kernel
theorem dX3_putsAnew_23 : decode cX3_putsAnew 23 = .ok (.istore_n 2, 1) := by decide +kernel
theorem dX3_putsAnew_24 : decode cX3_putsAnew 24 = .ok (.iload_n 2, 1) := by decide +kernel
theorem dX3_putsAnew_25 : decode cX3_putsAnew 25 = .ok (.aload_n 0, 1) := by decide +kernel
theorem dX3_putsAnew_26 : decode cX3_putsAnew 26 = .ok (.getfield 53, 3) := by decide +kernel
theorem dX3_putsAnew_29 : decode cX3_putsAnew 29 = .ok (.iload_n 1, 1) := by decide +kernel
theorem dX3_putsAnew_30 : decode cX3_putsAnew 30 = .ok (.bipush 100, 2) := by decide +kernel
theorem dX3_putsAnew_32 : decode cX3_putsAnew 32 = .ok (.idiv, 1) := by decide +kernel
theorem dX3_putsAnew_33 : decode cX3_putsAnew 33 = .ok (.iaload, 1) := by decide +kernel
theorem dX3_putsAnew_34 : decode cX3_putsAnew 34 = .ok (.if_icmp .ge 31, 3) := by decide +kernel
theorem dX3_putsAnew_37 : decode cX3_putsAnew 37 = .ok (.aload_n 0, 1) := by decide +kernel
theorem dX3_putsAnew_38 : decode cX3_putsAnew 38 = .ok (.iload_n 1, 1) := by decide +kernel
theorem dX3_putsAnew_39 : decode cX3_putsAnew 39 = .ok (.invokevirtual 162, 3) := by decide +kernel
theorem dX3_putsAnew_42 : decode cX3_putsAnew 42 = .ok (.istore_n 3, 1) := by decide +kernel
theorem dX3_putsAnew_43 : decode cX3_putsAnew 43 = .ok (.iload_n 3, 1) := by decide +kernel
theorem dX3_putsAnew_44 : decode cX3_putsAnew 44 = .ok (.ifCond .ge 9, 3) := by decide +kernel
theorem dX3_putsAnew_47 : decode cX3_putsAnew 47 = .ok (.aload_n 0, 1) := by decide +kernel
theorem dX3_putsAnew_48 : decode cX3_putsAnew 48 = .ok (.invokevirtual 165, 3) := by decide +kernel
theorem dX3_putsAnew_51 : decode cX3_putsAnew 51 = .ok (.iconst 0, 1) := by decide +kernel
theorem dX3_putsAnew_52 : decode cX3_putsAnew 52 = .ok (.ireturn, 1) := by decide +kernel
theorem dX3_putsAnew_53 : decode cX3_putsAnew 53 = .ok (.aload_n 0, 1) := by decide +kernel
theorem dX3_putsAnew_54 : decode cX3_putsAnew 54 = .ok (.iload_n 1, 1) := by decide +kernel
theorem dX3_putsAnew_55 : decode cX3_putsAnew 55 = .ok (.iload_n 3, 1) := by decide +kernel
theorem dX3_putsAnew_56 : decode cX3_putsAnew 56 = .ok (.invokevirtual 168, 3) := by decide +kernel
theorem dX3_putsAnew_59 : decode cX3_putsAnew 59 = .ok (.iinc 2 1, 3) := by decide +kernel
theorem dX3_putsAnew_62 : decode cX3_putsAnew 62 = .ok (.goto (-38), 3) := by decide +kernel
theorem dX3_putsAnew_65 : decode cX3_putsAnew 65 = .ok (.aload_n 0, 1) := by decide +kernel
theorem dX3_putsAnew_66 : decode cX3_putsAnew 66 = .ok (.getfield 50, 3) := by decide +kernel
theorem dX3_putsAnew_69 : decode cX3_putsAnew 69 = .ok (.iload_n 1, 1) := by decide +kernel
theorem dX3_putsAnew_70 : decode cX3_putsAnew 70 = .ok (.baload, 1) := by decide +kernel
theorem dX3_putsAnew_71 : decode cX3_putsAnew 71 = .ok (.ifCond .ne 23, 3) := by decide +kernel
theorem dX3_putsAnew_74 : decode cX3_putsAnew 74 = .ok (.aload_n 0, 1) := by decide +kernel
theorem dX3_putsAnew_75 : decode cX3_putsAnew 75 = .ok (.getfield 47, 3) := by decide +kernel
theorem dX3_putsAnew_78 : decode cX3_putsAnew 78 = .ok (.aload_n 0, 1) := by decide +kernel
theorem dX3_putsAnew_79 : decode cX3_putsAnew 79 = .ok (.getfield 171, 3) := by decide +kernel
theorem dX3_putsAnew_82 : decode cX3_putsAnew 82 = .ok (.iload_n 1, 1) := by decide +kernel
theorem dX3_putsAnew_83 : decode cX3_putsAnew 83 = .ok (.iastore, 1) := by decide +kernel
theorem dX3_putsAnew_84 : decode cX3_putsAnew 84 = .ok (.aload_n 0, 1) := by decide +kernel
theorem dX3_putsAnew_85 : decode cX3_putsAnew 85 = .ok (.dup, 1) := by decide +kernel
theorem dX3_putsAnew_86 : decode cX3_putsAnew 86 = .ok (.getfield 171, 3) := by decide +kernel
theorem dX3_putsAnew_89 : decode cX3_putsAnew 89 = .ok (.iconst 1, 1) := by decide +kernel
theorem dX3_putsAnew_90 : decode cX3_putsAnew 90 = .ok (.iadd, 1) := by decide +kernel
theorem dX3_putsAnew_91 : decode cX3_putsAnew 91 = .ok (.putfield 171, 3) := by decide +kernel
theorem dX3_putsAnew_94 : decode cX3_putsAnew 94 = .ok (.aload_n 0, 1) := by decide +kernel
theorem dX3_putsAnew_95 : decode cX3_putsAnew 95 = .ok (.getfield 50, 3) := by decide +kernel
theorem dX3_putsAnew_98 : decode cX3_putsAnew 98 = .ok (.iload_n 1, 1) := by decide +kernel
theorem dX3_putsAnew_99 : decode cX3_putsAnew 99 = .ok (.iconst 1, 1) := by decide +kernel
theorem dX3_putsAnew_100 : decode cX3_putsAnew 100 = .ok (.bastore, 1) := by decide +kernel
theorem dX3_putsAnew_101 : decode cX3_putsAnew 101 = .ok (.iconst 1, 1) := by decide +kernel
theorem dX3_putsAnew_102 : decode cX3_putsAnew 102 = .ok (.ireturn, 1) := by decide +kernel
theorem dX3_writes_0 : decode cX3_writes 0 = .ok (.aload_n 0, 1) := by decide +kernel
theorem dX3_writes_1 : decode cX3_writes 1 = .ok (.getfield 50, 3) := by decide +kernel
theorem dX3_writes_4 : decode cX3_writes 4 = .ok (.iload_n 1, 1) := by decide +kernel
theorem dX3_writes_5 : decode cX3_writes 5 = .ok (.baload, 1) := by decide +kernel
theorem dX3_writes_6 : decode cX3_writes 6 = .ok (.ifCond .eq 11, 3) := by decide +kernel
theorem dX3_writes_9 : decode cX3_writes 9 = .ok (.aload_n 0, 1) := by decide +kernel
theorem dX3_writes_10 : decode cX3_writes 10 = .ok (.iload_n 1, 1) := by decide +kernel
theorem dX3_writes_11 : decode cX3_writes 11 = .ok (.invokevirtual 174, 3) := by decide +kernel
theorem dX3_writes_14 : decode cX3_writes 14 = .ok (.ifCond .eq 13, 3) := by decide +kernel
theorem dX3_writes_17 : decode cX3_writes 17 = .ok (.aload_n 0, 1) := by decide +kernel
theorem dX3_writes_18 : decode cX3_writes 18 = .ok (.iload_n 1, 1) := by decide +kernel
theorem dX3_writes_19 : decode cX3_writes 19 = .ok (.invokevirtual 177, 3) := by decide +kernel
theorem dX3_writes_22 : decode cX3_writes 22 = .ok (.ifCond .ne 5, 3) := by decide +kernel
theorem dX3_writes_25 : decode cX3_writes 25 = .ok (.iconst 0, 1) := by decide +kernel
theorem dX3_writes_26 : decode cX3_writes 26 = .ok (.ireturn, 1) := by decide +kernel
theorem dX3_writes_27 : decode cX3_writes 27 = .ok (.iconst 0, 1) := by decide +kernel
theorem dX3_writes_28 : decode cX3_writes 28 = .ok (.istore_n 3, 1) := by decide +kernel
theorem dX3_writes_29 : decode cX3_writes 29 = .ok (.iload_n 3, 1) := by decide +kernel
theorem dX3_writes_30 : decode cX3_writes 30 = .ok (.aload_n 0, 1) := by decide +kernel
theorem dX3_writes_31 : decode cX3_writes 31 = .ok (.getfield 38, 3) := by decide +kernel
theorem dX3_writes_34 : decode cX3_writes 34 = .ok (.iload_n 1, 1) := by decide +kernel
theorem dX3_writes_35 : decode cX3_writes 35 = .ok (.iaload, 1) := by decide +kernel
theorem dX3_writes_36 : decode cX3_writes 36 = .ok (.if_icmp .ge 23, 3) := by decide +kernel
theorem dX3_writes_39 : decode cX3_writes 39 = .ok (.aload_n 0, 1) := by decide +kernel
theorem dX3_writes_40 : decode cX3_writes 40 = .ok (.getfield 23, 3) := by decide +kernel
theorem dX3_writes_43 : decode cX3_writes 43 = .ok (.aload_n 0, 1) := by decide +kernel
theorem dX3_writes_44 : decode cX3_writes 44 = .ok (.getfield 32, 3) := by decide +kernel
theorem dX3_writes_47 : decode cX3_writes 47 = .ok (.iload_n 1, 1) := by decide +kernel
theorem dX3_writes_48 : decode cX3_writes 48 = .ok (.aaload, 1) := by decide +kernel
theorem dX3_writes_49 : decode cX3_writes 49 = .ok (.iload_n 3, 1) := by decide +kernel
theorem dX3_writes_50 : decode cX3_writes 50 = .ok (.iaload, 1) := by decide +kernel
theorem dX3_writes_51 : decode cX3_writes 51 = .ok (.iconst 0, 1) := by decide +kernel
theorem dX3_writes_52 : decode cX3_writes 52 = .ok (.bastore, 1) := by decide +kernel
theorem dX3_writes_53 : decode cX3_writes 53 = .ok (.iinc 3 1, 3) := by decide +kernel
theorem dX3_writes_56 : decode cX3_writes 56 = .ok (.goto (-27), 3) := by decide +kernel
theorem dX3_writes_59 : decode cX3_writes 59 = .ok (.aload_n 0, 1) := by decide +kernel
theorem dX3_writes_60 : decode cX3_writes 60 = .ok (.getfield 44, 3) := by decide +kernel
theorem dX3_writes_63 : decode cX3_writes 63 = .ok (.iload_n 1, 1) := by decide +kernel
theorem dX3_writes_64 : decode cX3_writes 64 = .ok (.iload_n 2, 1) := by decide +kernel
theorem dX3_writes_65 : decode cX3_writes 65 = .ok (.iastore, 1) := by decide +kernel
theorem dX3_writes_66 : decode cX3_writes 66 = .ok (.iconst 1, 1) := by decide +kernel
theorem dX3_writes_67 : decode cX3_writes 67 = .ok (.ireturn, 1) := by decide +kernel
theorem dX3_serves_0 : decode cX3_serves 0 = .ok (.aload_n 0, 1) := by decide +kernel
theorem dX3_serves_1 : decode cX3_serves 1 = .ok (.getfield 74, 3) := by decide +kernel
theorem dX3_serves_4 : decode cX3_serves 4 = .ok (.iload_n 1, 1) := by decide +kernel
theorem dX3_serves_5 : decode cX3_serves 5 = .ok (.iaload, 1) := by decide +kernel
theorem dX3_serves_6 : decode cX3_serves 6 = .ok (.istore_n 2, 1) := by decide +kernel
theorem dX3_serves_7 : decode cX3_serves 7 = .ok (.aload_n 0, 1) := by decide +kernel
theorem dX3_serves_8 : decode cX3_serves 8 = .ok (.getfield 77, 3) := by decide +kernel
theorem dX3_serves_11 : decode cX3_serves 11 = .ok (.iload_n 1, 1) := by decide +kernel
theorem dX3_serves_12 : decode cX3_serves 12 = .ok (.iaload, 1) := by decide +kernel
theorem dX3_serves_13 : decode cX3_serves 13 = .ok (.ifCond .ge 19, 3) := by decide +kernel
theorem dX3_serves_16 : decode cX3_serves 16 = .ok (.aload_n 0, 1) := by decide +kernel
theorem dX3_serves_17 : decode cX3_serves 17 = .ok (.iload_n 2, 1) := by decide +kernel
theorem dX3_serves_18 : decode cX3_serves 18 = .ok (.invokevirtual 120, 3) := by decide +kernel
theorem dX3_serves_21 : decode cX3_serves 21 = .ok (.ifCond .le 7, 3) := by decide +kernel
theorem dX3_serves_24 : decode cX3_serves 24 = .ok (.iconst 1, 1) := by decide +kernel
theorem dX3_serves_25 : decode cX3_serves 25 = .ok (.goto 18, 3) := by decide +kernel
theorem dX3_serves_28 : decode cX3_serves 28 = .ok (.iconst 0, 1) := by decide +kernel
theorem dX3_serves_29 : decode cX3_serves 29 = .ok (.goto 14, 3) := by decide +kernel
theorem dX3_serves_32 : decode cX3_serves 32 = .ok (.aload_n 0, 1) := by decide +kernel
theorem dX3_serves_33 : decode cX3_serves 33 = .ok (.iload_n 2, 1) := by decide +kernel
theorem dX3_serves_34 : decode cX3_serves 34 = .ok (.aload_n 0, 1) := by decide +kernel
theorem dX3_serves_35 : decode cX3_serves 35 = .ok (.getfield 77, 3) := by decide +kernel
theorem dX3_serves_38 : decode cX3_serves 38 = .ok (.iload_n 1, 1) := by decide +kernel
theorem dX3_serves_39 : decode cX3_serves 39 = .ok (.iaload, 1) := by decide +kernel
theorem dX3_serves_40 : decode cX3_serves 40 = .ok (.invokevirtual 180, 3) := by decide +kernel
theorem dX3_serves_43 : decode cX3_serves 43 = .ok (.istore_n 3, 1) := by decide +kernel
theorem dX3_serves_44 : decode cX3_serves 44 = .ok (.aload_n 0, 1) := by decide +kernel
theorem dX3_serves_45 : decode cX3_serves 45 = .ok (.getfield 80, 3) := by decide +kernel
theorem dX3_serves_48 : decode cX3_serves 48 = .ok (.iload_n 1, 1) := by decide +kernel
theorem dX3_serves_49 : decode cX3_serves 49 = .ok (.aload_n 0, 1) := by decide +kernel
theorem dX3_serves_50 : decode cX3_serves 50 = .ok (.getfield 44, 3) := by decide +kernel
theorem dX3_serves_53 : decode cX3_serves 53 = .ok (.iload_n 2, 1) := by decide +kernel
theorem dX3_serves_54 : decode cX3_serves 54 = .ok (.iaload, 1) := by decide +kernel
theorem dX3_serves_55 : decode cX3_serves 55 = .ok (.iastore, 1) := by decide +kernel
theorem dX3_serves_56 : decode cX3_serves 56 = .ok (.aload_n 0, 1) := by decide +kernel
theorem dX3_serves_57 : decode cX3_serves 57 = .ok (.getfield 83, 3) := by decide +kernel
theorem dX3_serves_60 : decode cX3_serves 60 = .ok (.iload_n 1, 1) := by decide +kernel
theorem dX3_serves_61 : decode cX3_serves 61 = .ok (.iload_n 3, 1) := by decide +kernel
theorem dX3_serves_62 : decode cX3_serves 62 = .ok (.ifCond .eq 8, 3) := by decide +kernel
theorem dX3_serves_65 : decode cX3_serves 65 = .ok (.bipush 100, 2) := by decide +kernel
theorem dX3_serves_67 : decode cX3_serves 67 = .ok (.goto 5, 3) := by decide +kernel
theorem dX3_serves_70 : decode cX3_serves 70 = .ok (.bipush 120, 2) := by decide +kernel
theorem dX3_serves_72 : decode cX3_serves 72 = .ok (.castore, 1) := by decide +kernel
theorem dX3_serves_73 : decode cX3_serves 73 = .ok (.aload_n 0, 1) := by decide +kernel
theorem dX3_serves_74 : decode cX3_serves 74 = .ok (.getfield 59, 3) := by decide +kernel
theorem dX3_serves_77 : decode cX3_serves 77 = .ok (.iload_n 2, 1) := by decide +kernel
theorem dX3_serves_78 : decode cX3_serves 78 = .ok (.bipush 100, 2) := by decide +kernel
theorem dX3_serves_80 : decode cX3_serves 80 = .ok (.idiv, 1) := by decide +kernel
theorem dX3_serves_81 : decode cX3_serves 81 = .ok (.dup2, 1) := by decide +kernel
theorem dX3_serves_82 : decode cX3_serves 82 = .ok (.iaload, 1) := by decide +kernel
theorem dX3_serves_83 : decode cX3_serves 83 = .ok (.iconst 1, 1) := by decide +kernel
theorem dX3_serves_84 : decode cX3_serves 84 = .ok (.iadd, 1) := by decide +kernel
theorem dX3_serves_85 : decode cX3_serves 85 = .ok (.iastore, 1) := by decide +kernel
theorem dX3_serves_86 : decode cX3_serves 86 = .ok (.aload_n 0, 1) := by decide +kernel
theorem dX3_serves_87 : decode cX3_serves 87 = .ok (.getfield 71, 3) := by decide +kernel
theorem dX3_serves_90 : decode cX3_serves 90 = .ok (.iload_n 2, 1) := by decide +kernel
theorem dX3_serves_91 : decode cX3_serves 91 = .ok (.bipush 100, 2) := by decide +kernel
theorem dX3_serves_93 : decode cX3_serves 93 = .ok (.idiv, 1) := by decide +kernel
theorem dX3_serves_94 : decode cX3_serves 94 = .ok (.dup2, 1) := by decide +kernel
theorem dX3_serves_95 : decode cX3_serves 95 = .ok (.iaload, 1) := by decide +kernel
theorem dX3_serves_96 : decode cX3_serves 96 = .ok (.iconst 1, 1) := by decide +kernel
theorem dX3_serves_97 : decode cX3_serves 97 = .ok (.iadd, 1) := by decide +kernel
theorem dX3_serves_98 : decode cX3_serves 98 = .ok (.iastore, 1) := by decide +kernel
theorem dX3_serves_99 : decode cX3_serves 99 = .ok (.return_, 1) := by decide +kernel
theorem dX3_oldestOf_0 : decode cX3_oldestOf 0 = .ok (.iconst 0, 1) := by decide +kernel
theorem dX3_oldestOf_1 : decode cX3_oldestOf 1 = .ok (.istore_n 2, 1) := by decide +kernel
theorem dX3_oldestOf_2 : decode cX3_oldestOf 2 = .ok (.iload_n 2, 1) := by decide +kernel
theorem dX3_oldestOf_3 : decode cX3_oldestOf 3 = .ok (.aload_n 0, 1) := by decide +kernel
theorem dX3_oldestOf_4 : decode cX3_oldestOf 4 = .ok (.getfield 109, 3) := by decide +kernel
theorem dX3_oldestOf_7 : decode cX3_oldestOf 7 = .ok (.if_icmp .ge 35, 3) := by decide +kernel
theorem dX3_oldestOf_10 : decode cX3_oldestOf 10 = .ok (.aload_n 0, 1) := by decide +kernel
theorem dX3_oldestOf_11 : decode cX3_oldestOf 11 = .ok (.getfield 83, 3) := by decide +kernel
theorem dX3_oldestOf_14 : decode cX3_oldestOf 14 = .ok (.iload_n 2, 1) := by decide +kernel
theorem dX3_oldestOf_15 : decode cX3_oldestOf 15 = .ok (.caload, 1) := by decide +kernel
theorem dX3_oldestOf_16 : decode cX3_oldestOf 16 = .ok (.bipush 119, 2) := by decide +kernel
theorem dX3_oldestOf_18 : decode cX3_oldestOf 18 = .ok (.if_icmp .ne 18, 3) := by decide +kernel
theorem dX3_oldestOf_21 : decode cX3_oldestOf 21 = .ok (.aload_n 0, 1) := by decide +kernel
theorem dX3_oldestOf_22 : decode cX3_oldestOf 22 = .ok (.getfield 74, 3) := by decide +kernel
theorem dX3_oldestOf_25 : decode cX3_oldestOf 25 = .ok (.iload_n 2, 1) := by decide +kernel
theorem dX3_oldestOf_26 : decode cX3_oldestOf 26 = .ok (.iaload, 1) := by decide +kernel
theorem dX3_oldestOf_27 : decode cX3_oldestOf 27 = .ok (.bipush 100, 2) := by decide +kernel
theorem dX3_oldestOf_29 : decode cX3_oldestOf 29 = .ok (.idiv, 1) := by decide +kernel
theorem dX3_oldestOf_30 : decode cX3_oldestOf 30 = .ok (.iload_n 1, 1) := by decide +kernel
theorem dX3_oldestOf_31 : decode cX3_oldestOf 31 = .ok (.if_icmp .ne 5, 3) := by decide +kernel
theorem dX3_oldestOf_34 : decode cX3_oldestOf 34 = .ok (.iload_n 2, 1) := by decide +kernel
theorem dX3_oldestOf_35 : decode cX3_oldestOf 35 = .ok (.ireturn, 1) := by decide +kernel
theorem dX3_oldestOf_36 : decode cX3_oldestOf 36 = .ok (.iinc 2 1, 3) := by decide +kernel
theorem dX3_oldestOf_39 : decode cX3_oldestOf 39 = .ok (.goto (-37), 3) := by decide +kernel
theorem dX3_oldestOf_42 : decode cX3_oldestOf 42 = .ok (.iconst (-1), 1) := by decide +kernel
theorem dX3_oldestOf_43 : decode cX3_oldestOf 43 = .ok (.ireturn, 1) := by decide +kernel
theorem dX3_servesAll_0 : decode cX3_servesAll 0 = .ok (.iload_n 1, 1) := by decide +kernel
theorem dX3_servesAll_1 : decode cX3_servesAll 1 = .ok (.istore_n 2, 1) := by decide +kernel
theorem dX3_servesAll_2 : decode cX3_servesAll 2 = .ok (.iconst 1, 1) := by decide +kernel
theorem dX3_servesAll_3 : decode cX3_servesAll 3 = .ok (.istore_n 3, 1) := by decide +kernel
theorem dX3_servesAll_4 : decode cX3_servesAll 4 = .ok (.iload_n 3, 1) := by decide +kernel
theorem dX3_servesAll_5 : decode cX3_servesAll 5 = .ok (.ifCond .eq 87, 3) := by decide +kernel
theorem dX3_servesAll_8 : decode cX3_servesAll 8 = .ok (.iconst 0, 1) := by decide +kernel
theorem dX3_servesAll_9 : decode cX3_servesAll 9 = .ok (.istore_n 3, 1) := by decide +kernel
theorem dX3_servesAll_10 : decode cX3_servesAll 10 = .ok (.iconst 0, 1) := by decide +kernel
theorem dX3_servesAll_11 : decode cX3_servesAll 11 = .ok (.istore 4, 2) := by decide +kernel
theorem dX3_servesAll_13 : decode cX3_servesAll 13 = .ok (.iload 4, 2) := by decide +kernel
theorem dX3_servesAll_15 : decode cX3_servesAll 15 = .ok (.aload_n 0, 1) := by decide +kernel
theorem dX3_servesAll_16 : decode cX3_servesAll 16 = .ok (.getfield 106, 3) := by decide +kernel
theorem dX3_servesAll_19 : decode cX3_servesAll 19 = .ok (.if_icmp .ge 70, 3) := by decide +kernel
theorem dX3_servesAll_22 : decode cX3_servesAll 22 = .ok (.aload_n 0, 1) := by decide +kernel
theorem dX3_servesAll_23 : decode cX3_servesAll 23 = .ok (.iload 4, 2) := by decide +kernel
theorem dX3_servesAll_25 : decode cX3_servesAll 25 = .ok (.invokevirtual 183, 3) := by decide +kernel
theorem dX3_servesAll_28 : decode cX3_servesAll 28 = .ok (.istore 5, 2) := by decide +kernel
theorem dX3_servesAll_30 : decode cX3_servesAll 30 = .ok (.iload 5, 2) := by decide +kernel
theorem dX3_servesAll_32 : decode cX3_servesAll 32 = .ok (.ifCond .ge 6, 3) := by decide +kernel
theorem dX3_servesAll_35 : decode cX3_servesAll 35 = .ok (.goto 48, 3) := by decide +kernel
theorem dX3_servesAll_38 : decode cX3_servesAll 38 = .ok (.aload_n 0, 1) := by decide +kernel
theorem dX3_servesAll_39 : decode cX3_servesAll 39 = .ok (.getfield 77, 3) := by decide +kernel
theorem dX3_servesAll_42 : decode cX3_servesAll 42 = .ok (.iload 5, 2) := by decide +kernel
theorem dX3_servesAll_44 : decode cX3_servesAll 44 = .ok (.iaload, 1) := by decide +kernel
theorem dX3_servesAll_45 : decode cX3_servesAll 45 = .ok (.ifCond .ge 7, 3) := by decide +kernel
theorem dX3_servesAll_48 : decode cX3_servesAll 48 = .ok (.iconst 1, 1) := by decide +kernel
theorem dX3_servesAll_49 : decode cX3_servesAll 49 = .ok (.goto 10, 3) := by decide +kernel
theorem dX3_servesAll_52 : decode cX3_servesAll 52 = .ok (.aload_n 0, 1) := by decide +kernel
theorem dX3_servesAll_53 : decode cX3_servesAll 53 = .ok (.getfield 53, 3) := by decide +kernel
theorem dX3_servesAll_56 : decode cX3_servesAll 56 = .ok (.iload 4, 2) := by decide +kernel
theorem dX3_servesAll_58 : decode cX3_servesAll 58 = .ok (.iaload, 1) := by decide +kernel
theorem dX3_servesAll_59 : decode cX3_servesAll 59 = .ok (.istore 6, 2) := by decide +kernel
theorem dX3_servesAll_61 : decode cX3_servesAll 61 = .ok (.iload 6, 2) := by decide +kernel
theorem dX3_servesAll_63 : decode cX3_servesAll 63 = .ok (.iload_n 2, 1) := by decide +kernel
theorem dX3_servesAll_64 : decode cX3_servesAll 64 = .ok (.if_icmp .le 6, 3) := by decide +kernel
theorem dX3_servesAll_67 : decode cX3_servesAll 67 = .ok (.goto 16, 3) := by decide +kernel
theorem dX3_servesAll_70 : decode cX3_servesAll 70 = .ok (.iload_n 2, 1) := by decide +kernel
theorem dX3_servesAll_71 : decode cX3_servesAll 71 = .ok (.iload 6, 2) := by decide +kernel
theorem dX3_servesAll_73 : decode cX3_servesAll 73 = .ok (.isub, 1) := by decide +kernel
theorem dX3_servesAll_74 : decode cX3_servesAll 74 = .ok (.istore_n 2, 1) := by decide +kernel
theorem dX3_servesAll_75 : decode cX3_servesAll 75 = .ok (.aload_n 0, 1) := by decide +kernel
theorem dX3_servesAll_76 : decode cX3_servesAll 76 = .ok (.iload 5, 2) := by decide +kernel
theorem dX3_servesAll_78 : decode cX3_servesAll 78 = .ok (.invokevirtual 186, 3) := by decide +kernel
theorem dX3_servesAll_81 : decode cX3_servesAll 81 = .ok (.iconst 1, 1) := by decide +kernel
theorem dX3_servesAll_82 : decode cX3_servesAll 82 = .ok (.istore_n 3, 1) := by decide +kernel
theorem dX3_servesAll_83 : decode cX3_servesAll 83 = .ok (.iinc 4 1, 3) := by decide +kernel
theorem dX3_servesAll_86 : decode cX3_servesAll 86 = .ok (.goto (-73), 3) := by decide +kernel
theorem dX3_servesAll_89 : decode cX3_servesAll 89 = .ok (.goto (-85), 3) := by decide +kernel
theorem dX3_servesAll_92 : decode cX3_servesAll 92 = .ok (.return_, 1) := by decide +kernel
theorem dX3_rebuilds_0 : decode cX3_rebuilds 0 = .ok (.iconst 0, 1) := by decide +kernel
theorem dX3_rebuilds_1 : decode cX3_rebuilds 1 = .ok (.istore_n 2, 1) := by decide +kernel
theorem dX3_rebuilds_2 : decode cX3_rebuilds 2 = .ok (.iconst 0, 1) := by decide +kernel
theorem dX3_rebuilds_3 : decode cX3_rebuilds 3 = .ok (.istore_n 3, 1) := by decide +kernel
theorem dX3_rebuilds_4 : decode cX3_rebuilds 4 = .ok (.iload_n 3, 1) := by decide +kernel
theorem dX3_rebuilds_5 : decode cX3_rebuilds 5 = .ok (.aload_n 0, 1) := by decide +kernel
theorem dX3_rebuilds_6 : decode cX3_rebuilds 6 = .ok (.getfield 171, 3) := by decide +kernel
theorem dX3_rebuilds_9 : decode cX3_rebuilds 9 = .ok (.if_icmp .ge 67, 3) := by decide +kernel
theorem dX3_rebuilds_12 : decode cX3_rebuilds 12 = .ok (.aload_n 0, 1) := by decide +kernel
theorem dX3_rebuilds_13 : decode cX3_rebuilds 13 = .ok (.getfield 47, 3) := by decide +kernel
theorem dX3_rebuilds_16 : decode cX3_rebuilds 16 = .ok (.iload_n 3, 1) := by decide +kernel
theorem dX3_rebuilds_17 : decode cX3_rebuilds 17 = .ok (.iaload, 1) := by decide +kernel
theorem dX3_rebuilds_18 : decode cX3_rebuilds 18 = .ok (.istore 4, 2) := by decide +kernel
theorem dX3_rebuilds_20 : decode cX3_rebuilds 20 = .ok (.iload_n 2, 1) := by decide +kernel
theorem dX3_rebuilds_21 : decode cX3_rebuilds 21 = .ok (.iload_n 1, 1) := by decide +kernel
theorem dX3_rebuilds_22 : decode cX3_rebuilds 22 = .ok (.if_icmp .ge 48, 3) := by decide +kernel
theorem dX3_rebuilds_25 : decode cX3_rebuilds 25 = .ok (.aload_n 0, 1) := by decide +kernel
theorem dX3_rebuilds_26 : decode cX3_rebuilds 26 = .ok (.iload 4, 2) := by decide +kernel
theorem dX3_rebuilds_28 : decode cX3_rebuilds 28 = .ok (.invokevirtual 190, 3) := by decide +kernel
theorem dX3_rebuilds_31 : decode cX3_rebuilds 31 = .ok (.ifCond .eq 39, 3) := by decide +kernel
theorem dX3_rebuilds_34 : decode cX3_rebuilds 34 = .ok (.aload_n 0, 1) := by decide +kernel
theorem dX3_rebuilds_35 : decode cX3_rebuilds 35 = .ok (.iload 4, 2) := by decide +kernel
theorem dX3_rebuilds_37 : decode cX3_rebuilds 37 = .ok (.invokevirtual 174, 3) := by decide +kernel
theorem dX3_rebuilds_40 : decode cX3_rebuilds 40 = .ok (.ifCond .ne 30, 3) := by decide +kernel
theorem dX3_rebuilds_43 : decode cX3_rebuilds 43 = .ok (.aload_n 0, 1) := by decide +kernel
theorem dX3_rebuilds_44 : decode cX3_rebuilds 44 = .ok (.iload 4, 2) := by decide +kernel
theorem dX3_rebuilds_46 : decode cX3_rebuilds 46 = .ok (.invokevirtual 162, 3) := by decide +kernel
theorem dX3_rebuilds_49 : decode cX3_rebuilds 49 = .ok (.ifCond .lt 21, 3) := by decide +kernel
theorem dX3_rebuilds_52 : decode cX3_rebuilds 52 = .ok (.aload_n 0, 1) := by decide +kernel
theorem dX3_rebuilds_53 : decode cX3_rebuilds 53 = .ok (.iload 4, 2) := by decide +kernel
theorem dX3_rebuilds_55 : decode cX3_rebuilds 55 = .ok (.aload_n 0, 1) := by decide +kernel
theorem dX3_rebuilds_56 : decode cX3_rebuilds 56 = .ok (.iload 4, 2) := by decide +kernel
theorem dX3_rebuilds_58 : decode cX3_rebuilds 58 = .ok (.invokevirtual 162, 3) := by decide +kernel
theorem dX3_rebuilds_61 : decode cX3_rebuilds 61 = .ok (.invokevirtual 168, 3) := by decide +kernel
theorem dX3_rebuilds_64 : decode cX3_rebuilds 64 = .ok (.iinc 2 1, 3) := by decide +kernel
theorem dX3_rebuilds_67 : decode cX3_rebuilds 67 = .ok (.goto (-47), 3) := by decide +kernel
theorem dX3_rebuilds_70 : decode cX3_rebuilds 70 = .ok (.iinc 3 1, 3) := by decide +kernel
theorem dX3_rebuilds_73 : decode cX3_rebuilds 73 = .ok (.goto (-69), 3) := by decide +kernel
theorem dX3_rebuilds_76 : decode cX3_rebuilds 76 = .ok (.iconst 0, 1) := by decide +kernel
theorem dX3_rebuilds_77 : decode cX3_rebuilds 77 = .ok (.istore_n 3, 1) := by decide +kernel
theorem dX3_rebuilds_78 : decode cX3_rebuilds 78 = .ok (.iload_n 3, 1) := by decide +kernel
theorem dX3_rebuilds_79 : decode cX3_rebuilds 79 = .ok (.aload_n 0, 1) := by decide +kernel
theorem dX3_rebuilds_80 : decode cX3_rebuilds 80 = .ok (.getfield 171, 3) := by decide +kernel
theorem dX3_rebuilds_83 : decode cX3_rebuilds 83 = .ok (.if_icmp .ge 38, 3) := by decide +kernel
theorem dX3_rebuilds_86 : decode cX3_rebuilds 86 = .ok (.aload_n 0, 1) := by decide +kernel
theorem dX3_rebuilds_87 : decode cX3_rebuilds 87 = .ok (.aload_n 0, 1) := by decide +kernel
theorem dX3_rebuilds_88 : decode cX3_rebuilds 88 = .ok (.getfield 47, 3) := by decide +kernel
theorem dX3_rebuilds_91 : decode cX3_rebuilds 91 = .ok (.iload_n 3, 1) := by decide +kernel
theorem dX3_rebuilds_92 : decode cX3_rebuilds 92 = .ok (.iaload, 1) := by decide +kernel
theorem dX3_rebuilds_93 : decode cX3_rebuilds 93 = .ok (.invokevirtual 174, 3) := by decide +kernel
theorem dX3_rebuilds_96 : decode cX3_rebuilds 96 = .ok (.ifCond .ne 19, 3) := by decide +kernel
theorem dX3_rebuilds_99 : decode cX3_rebuilds 99 = .ok (.iload_n 2, 1) := by decide +kernel
theorem dX3_rebuilds_100 : decode cX3_rebuilds 100 = .ok (.aload_n 0, 1) := by decide +kernel
theorem dX3_rebuilds_101 : decode cX3_rebuilds 101 = .ok (.aload_n 0, 1) := by decide +kernel
theorem dX3_rebuilds_102 : decode cX3_rebuilds 102 = .ok (.getfield 47, 3) := by decide +kernel
theorem dX3_rebuilds_105 : decode cX3_rebuilds 105 = .ok (.iload_n 3, 1) := by decide +kernel
theorem dX3_rebuilds_106 : decode cX3_rebuilds 106 = .ok (.iaload, 1) := by decide +kernel
theorem dX3_rebuilds_107 : decode cX3_rebuilds 107 = .ok (.iload_n 1, 1) := by decide +kernel
theorem dX3_rebuilds_108 : decode cX3_rebuilds 108 = .ok (.iload_n 2, 1) := by decide +kernel
theorem dX3_rebuilds_109 : decode cX3_rebuilds 109 = .ok (.isub, 1) := by decide +kernel
theorem dX3_rebuilds_110 : decode cX3_rebuilds 110 = .ok (.invokevirtual 193, 3) := by decide +kernel
theorem dX3_rebuilds_113 : decode cX3_rebuilds 113 = .ok (.iadd, 1) := by decide +kernel
theorem dX3_rebuilds_114 : decode cX3_rebuilds 114 = .ok (.istore_n 2, 1) := by decide +kernel
theorem dX3_rebuilds_115 : decode cX3_rebuilds 115 = .ok (.iinc 3 1, 3) := by decide +kernel
theorem dX3_rebuilds_118 : decode cX3_rebuilds 118 = .ok (.goto (-40), 3) := by decide +kernel
theorem dX3_rebuilds_121 : decode cX3_rebuilds 121 = .ok (.iload_n 2, 1) := by decide +kernel
theorem dX3_rebuilds_122 : decode cX3_rebuilds 122 = .ok (.ireturn, 1) := by decide +kernel
theorem dX3_moves_0 : decode cX3_moves 0 = .ok (.iconst 0, 1) := by decide +kernel
theorem dX3_moves_1 : decode cX3_moves 1 = .ok (.istore_n 3, 1) := by decide +kernel
theorem dX3_moves_2 : decode cX3_moves 2 = .ok (.iconst 0, 1) := by decide +kernel
theorem dX3_moves_3 : decode cX3_moves 3 = .ok (.istore 4, 2) := by decide +kernel
theorem dX3_moves_5 : decode cX3_moves 5 = .ok (.aload_n 0, 1) := by decide +kernel
theorem dX3_moves_6 : decode cX3_moves 6 = .ok (.getfield 38, 3) := by decide +kernel
theorem dX3_moves_9 : decode cX3_moves 9 = .ok (.iload_n 1, 1) := by decide +kernel
theorem dX3_moves_10 : decode cX3_moves 10 = .ok (.iaload, 1) := by decide +kernel
theorem dX3_moves_11 : decode cX3_moves 11 = .ok (.istore 5, 2) := by decide +kernel
theorem dX3_moves_13 : decode cX3_moves 13 = .ok (.iload 5, 2) := by decide +kernel
theorem dX3_moves_15 : decode cX3_moves 15 = .ok (.ifCond .le 75, 3) := by decide +kernel
theorem dX3_moves_18 : decode cX3_moves 18 = .ok (.iload_n 3, 1) := by decide +kernel
theorem dX3_moves_19 : decode cX3_moves 19 = .ok (.iload_n 2, 1) := by decide +kernel
theorem dX3_moves_20 : decode cX3_moves 20 = .ok (.if_icmp .ge 70, 3) := by decide +kernel
theorem dX3_moves_23 : decode cX3_moves 23 = .ok (.iinc 5 (-1), 3) := by decide +kernel
theorem dX3_moves_26 : decode cX3_moves 26 = .ok (.aload_n 0, 1) := by decide +kernel
theorem dX3_moves_27 : decode cX3_moves 27 = .ok (.getfield 13, 3) := by decide +kernel
theorem dX3_moves_30 : decode cX3_moves 30 = .ok (.aload_n 0, 1) := by decide +kernel
theorem dX3_moves_31 : decode cX3_moves 31 = .ok (.getfield 32, 3) := by decide +kernel
theorem dX3_moves_34 : decode cX3_moves 34 = .ok (.iload_n 1, 1) := by decide +kernel
theorem dX3_moves_35 : decode cX3_moves 35 = .ok (.aaload, 1) := by decide +kernel
theorem dX3_moves_36 : decode cX3_moves 36 = .ok (.iload 4, 2) := by decide +kernel
theorem dX3_moves_38 : decode cX3_moves 38 = .ok (.iaload, 1) := by decide +kernel
theorem dX3_moves_39 : decode cX3_moves 39 = .ok (.bipush 32, 2) := by decide +kernel
theorem dX3_moves_41 : decode cX3_moves 41 = .ok (.idiv, 1) := by decide +kernel
theorem dX3_moves_42 : decode cX3_moves 42 = .ok (.caload, 1) := by decide +kernel
theorem dX3_moves_43 : decode cX3_moves 43 = .ok (.bipush 119, 2) := by decide +kernel
theorem dX3_moves_45 : decode cX3_moves 45 = .ok (.if_icmp .ne 11, 3) := by decide +kernel
theorem dX3_moves_48 : decode cX3_moves 48 = .ok (.aload_n 0, 1) := by decide +kernel
theorem dX3_moves_49 : decode cX3_moves 49 = .ok (.iload_n 1, 1) := by decide +kernel
theorem dX3_moves_50 : decode cX3_moves 50 = .ok (.invokevirtual 162, 3) := by decide +kernel
theorem dX3_moves_53 : decode cX3_moves 53 = .ok (.goto 4, 3) := by decide +kernel
theorem dX3_moves_56 : decode cX3_moves 56 = .ok (.iconst (-1), 1) := by decide +kernel
theorem dX3_moves_57 : decode cX3_moves 57 = .ok (.istore 6, 2) := by decide +kernel
theorem dX3_moves_59 : decode cX3_moves 59 = .ok (.iload 6, 2) := by decide +kernel
theorem dX3_moves_61 : decode cX3_moves 61 = .ok (.ifCond .ge 9, 3) := by decide +kernel
theorem dX3_moves_64 : decode cX3_moves 64 = .ok (.iinc 4 1, 3) := by decide +kernel
theorem dX3_moves_67 : decode cX3_moves 67 = .ok (.goto (-54), 3) := by decide +kernel
theorem dX3_moves_70 : decode cX3_moves 70 = .ok (.aload_n 0, 1) := by decide +kernel
theorem dX3_moves_71 : decode cX3_moves 71 = .ok (.iload_n 1, 1) := by decide +kernel
theorem dX3_moves_72 : decode cX3_moves 72 = .ok (.iload 4, 2) := by decide +kernel
theorem dX3_moves_74 : decode cX3_moves 74 = .ok (.invokevirtual 158, 3) := by decide +kernel
theorem dX3_moves_77 : decode cX3_moves 77 = .ok (.aload_n 0, 1) := by decide +kernel
theorem dX3_moves_78 : decode cX3_moves 78 = .ok (.iload_n 1, 1) := by decide +kernel
theorem dX3_moves_79 : decode cX3_moves 79 = .ok (.iload 6, 2) := by decide +kernel
theorem dX3_moves_81 : decode cX3_moves 81 = .ok (.invokevirtual 168, 3) := by decide +kernel
theorem dX3_moves_84 : decode cX3_moves 84 = .ok (.iinc 3 1, 3) := by decide +kernel
theorem dX3_moves_87 : decode cX3_moves 87 = .ok (.goto (-74), 3) := by decide +kernel
theorem dX3_moves_90 : decode cX3_moves 90 = .ok (.iload_n 3, 1) := by decide +kernel
theorem dX3_moves_91 : decode cX3_moves 91 = .ok (.ireturn, 1) := by decide +kernel
theorem dX3_ticks_0 : decode cX3_ticks 0 = .ok (.iconst 0, 1) := by decide +kernel
theorem dX3_ticks_1 : decode cX3_ticks 1 = .ok (.istore_n 1, 1) := by decide +kernel
theorem dX3_ticks_2 : decode cX3_ticks 2 = .ok (.iload_n 1, 1) := by decide +kernel
theorem dX3_ticks_3 : decode cX3_ticks 3 = .ok (.aload_n 0, 1) := by decide +kernel
theorem dX3_ticks_4 : decode cX3_ticks 4 = .ok (.getfield 106, 3) := by decide +kernel
theorem dX3_ticks_7 : decode cX3_ticks 7 = .ok (.if_icmp .ge 27, 3) := by decide +kernel
theorem dX3_ticks_10 : decode cX3_ticks 10 = .ok (.aload_n 0, 1) := by decide +kernel
theorem dX3_ticks_11 : decode cX3_ticks 11 = .ok (.getfield 68, 3) := by decide +kernel
theorem dX3_ticks_14 : decode cX3_ticks 14 = .ok (.iload_n 1, 1) := by decide +kernel
theorem dX3_ticks_15 : decode cX3_ticks 15 = .ok (.aload_n 0, 1) := by decide +kernel
theorem dX3_ticks_16 : decode cX3_ticks 16 = .ok (.iload_n 1, 1) := by decide +kernel
theorem dX3_ticks_17 : decode cX3_ticks 17 = .ok (.invokevirtual 136, 3) := by decide +kernel
theorem dX3_ticks_20 : decode cX3_ticks 20 = .ok (.iastore, 1) := by decide +kernel
theorem dX3_ticks_21 : decode cX3_ticks 21 = .ok (.aload_n 0, 1) := by decide +kernel
theorem dX3_ticks_22 : decode cX3_ticks 22 = .ok (.getfield 71, 3) := by decide +kernel
theorem dX3_ticks_25 : decode cX3_ticks 25 = .ok (.iload_n 1, 1) := by decide +kernel
theorem dX3_ticks_26 : decode cX3_ticks 26 = .ok (.iconst 0, 1) := by decide +kernel
theorem dX3_ticks_27 : decode cX3_ticks 27 = .ok (.iastore, 1) := by decide +kernel
theorem dX3_ticks_28 : decode cX3_ticks 28 = .ok (.iinc 1 1, 3) := by decide +kernel
theorem dX3_ticks_31 : decode cX3_ticks 31 = .ok (.goto (-29), 3) := by decide +kernel
theorem dX3_ticks_34 : decode cX3_ticks 34 = .ok (.aload_n 0, 1) := by decide +kernel
theorem dX3_ticks_35 : decode cX3_ticks 35 = .ok (.aload_n 0, 1) := by decide +kernel
theorem dX3_ticks_36 : decode cX3_ticks 36 = .ok (.getfield 86, 3) := by decide +kernel
theorem dX3_ticks_39 : decode cX3_ticks 39 = .ok (.iconst 2, 1) := by decide +kernel
theorem dX3_ticks_40 : decode cX3_ticks 40 = .ok (.idiv, 1) := by decide +kernel
theorem dX3_ticks_41 : decode cX3_ticks 41 = .ok (.invokevirtual 197, 3) := by decide +kernel
theorem dX3_ticks_44 : decode cX3_ticks 44 = .ok (.istore_n 1, 1) := by decide +kernel
theorem dX3_ticks_45 : decode cX3_ticks 45 = .ok (.aload_n 0, 1) := by decide +kernel
theorem dX3_ticks_46 : decode cX3_ticks 46 = .ok (.dup, 1) := by decide +kernel
theorem dX3_ticks_47 : decode cX3_ticks 47 = .ok (.getfield 200, 3) := by decide +kernel
theorem dX3_ticks_50 : decode cX3_ticks 50 = .ok (.iload_n 1, 1) := by decide +kernel
theorem dX3_ticks_51 : decode cX3_ticks 51 = .ok (.iadd, 1) := by decide +kernel
theorem dX3_ticks_52 : decode cX3_ticks 52 = .ok (.putfield 200, 3) := by decide +kernel
theorem dX3_ticks_55 : decode cX3_ticks 55 = .ok (.aload_n 0, 1) := by decide +kernel
theorem dX3_ticks_56 : decode cX3_ticks 56 = .ok (.bipush 20, 2) := by decide +kernel
theorem dX3_ticks_58 : decode cX3_ticks 58 = .ok (.iconst 2, 1) := by decide +kernel
theorem dX3_ticks_59 : decode cX3_ticks 59 = .ok (.iload_n 1, 1) := by decide +kernel
theorem dX3_ticks_60 : decode cX3_ticks 60 = .ok (.imul, 1) := by decide +kernel
theorem dX3_ticks_61 : decode cX3_ticks 61 = .ok (.isub, 1) := by decide +kernel
theorem dX3_ticks_62 : decode cX3_ticks 62 = .ok (.invokevirtual 203, 3) := by decide +kernel
theorem dX3_ticks_65 : decode cX3_ticks 65 = .ok (.iconst 0, 1) := by decide +kernel
theorem dX3_ticks_66 : decode cX3_ticks 66 = .ok (.istore_n 2, 1) := by decide +kernel
theorem dX3_ticks_67 : decode cX3_ticks 67 = .ok (.iload_n 2, 1) := by decide +kernel
theorem dX3_ticks_68 : decode cX3_ticks 68 = .ok (.aload_n 0, 1) := by decide +kernel
theorem dX3_ticks_69 : decode cX3_ticks 69 = .ok (.getfield 106, 3) := by decide +kernel
theorem dX3_ticks_72 : decode cX3_ticks 72 = .ok (.if_icmp .ge 64, 3) := by decide +kernel
theorem dX3_ticks_75 : decode cX3_ticks 75 = .ok (.iconst 0, 1) := by decide +kernel
theorem dX3_ticks_76 : decode cX3_ticks 76 = .ok (.aload_n 0, 1) := by decide +kernel
theorem dX3_ticks_77 : decode cX3_ticks 77 = .ok (.getfield 56, 3) := by decide +kernel
theorem dX3_ticks_80 : decode cX3_ticks 80 = .ok (.iload_n 2, 1) := by decide +kernel
theorem dX3_ticks_81 : decode cX3_ticks 81 = .ok (.iaload, 1) := by decide +kernel
theorem dX3_ticks_82 : decode cX3_ticks 82 = .ok (.aload_n 0, 1) := by decide +kernel
theorem dX3_ticks_83 : decode cX3_ticks 83 = .ok (.getfield 68, 3) := by decide +kernel
theorem dX3_ticks_86 : decode cX3_ticks 86 = .ok (.iload_n 2, 1) := by decide +kernel
theorem dX3_ticks_87 : decode cX3_ticks 87 = .ok (.iaload, 1) := by decide +kernel
theorem dX3_ticks_88 : decode cX3_ticks 88 = .ok (.invokestatic 206, 3) := by decide +kernel
theorem dX3_ticks_91 : decode cX3_ticks 91 = .ok (.aload_n 0, 1) := by decide +kernel
theorem dX3_ticks_92 : decode cX3_ticks 92 = .ok (.getfield 71, 3) := by decide +kernel
theorem dX3_ticks_95 : decode cX3_ticks 95 = .ok (.iload_n 2, 1) := by decide +kernel
theorem dX3_ticks_96 : decode cX3_ticks 96 = .ok (.iaload, 1) := by decide +kernel
theorem dX3_ticks_97 : decode cX3_ticks 97 = .ok (.isub, 1) := by decide +kernel
theorem dX3_ticks_98 : decode cX3_ticks 98 = .ok (.invokestatic 211, 3) := by decide +kernel
theorem dX3_ticks_101 : decode cX3_ticks 101 = .ok (.istore_n 3, 1) := by decide +kernel
theorem dX3_ticks_102 : decode cX3_ticks 102 = .ok (.aload_n 0, 1) := by decide +kernel
theorem dX3_ticks_103 : decode cX3_ticks 103 = .ok (.getfield 62, 3) := by decide +kernel
theorem dX3_ticks_106 : decode cX3_ticks 106 = .ok (.iload_n 2, 1) := by decide +kernel
theorem dX3_ticks_107 : decode cX3_ticks 107 = .ok (.dup2, 1) := by decide +kernel
theorem dX3_ticks_108 : decode cX3_ticks 108 = .ok (.iaload, 1) := by decide +kernel
theorem dX3_ticks_109 : decode cX3_ticks 109 = .ok (.iload_n 3, 1) := by decide +kernel
theorem dX3_ticks_110 : decode cX3_ticks 110 = .ok (.iadd, 1) := by decide +kernel
theorem dX3_ticks_111 : decode cX3_ticks 111 = .ok (.iastore, 1) := by decide +kernel
theorem dX3_ticks_112 : decode cX3_ticks 112 = .ok (.aload_n 0, 1) := by decide +kernel
theorem dX3_ticks_113 : decode cX3_ticks 113 = .ok (.getfield 65, 3) := by decide +kernel
theorem dX3_ticks_116 : decode cX3_ticks 116 = .ok (.iload_n 2, 1) := by decide +kernel
theorem dX3_ticks_117 : decode cX3_ticks 117 = .ok (.dup2, 1) := by decide +kernel
theorem dX3_ticks_118 : decode cX3_ticks 118 = .ok (.iaload, 1) := by decide +kernel
theorem dX3_ticks_119 : decode cX3_ticks 119 = .ok (.iload_n 3, 1) := by decide +kernel
theorem dX3_ticks_120 : decode cX3_ticks 120 = .ok (.ifCond .le 7, 3) := by decide +kernel
theorem dX3_ticks_123 : decode cX3_ticks 123 = .ok (.iconst 1, 1) := by decide +kernel
theorem dX3_ticks_124 : decode cX3_ticks 124 = .ok (.goto 4, 3) := by decide +kernel
theorem dX3_ticks_127 : decode cX3_ticks 127 = .ok (.iconst 0, 1) := by decide +kernel
theorem dX3_ticks_128 : decode cX3_ticks 128 = .ok (.iadd, 1) := by decide +kernel
theorem dX3_ticks_129 : decode cX3_ticks 129 = .ok (.iastore, 1) := by decide +kernel
theorem dX3_ticks_130 : decode cX3_ticks 130 = .ok (.iinc 2 1, 3) := by decide +kernel
theorem dX3_ticks_133 : decode cX3_ticks 133 = .ok (.goto (-66), 3) := by decide +kernel
theorem dX3_ticks_136 : decode cX3_ticks 136 = .ok (.aload_n 0, 1) := by decide +kernel
theorem dX3_ticks_137 : decode cX3_ticks 137 = .ok (.dup, 1) := by decide +kernel
theorem dX3_ticks_138 : decode cX3_ticks 138 = .ok (.getfield 214, 3) := by decide +kernel
theorem dX3_ticks_141 : decode cX3_ticks 141 = .ok (.iconst 1, 1) := by decide +kernel
theorem dX3_ticks_142 : decode cX3_ticks 142 = .ok (.iadd, 1) := by decide +kernel
theorem dX3_ticks_143 : decode cX3_ticks 143 = .ok (.putfield 214, 3) := by decide +kernel
theorem dX3_ticks_146 : decode cX3_ticks 146 = .ok (.return_, 1) := by decide +kernel
theorem dX3_pass_0 : decode cX3_pass 0 = .ok (.aload_n 0, 1) := by decide +kernel
theorem dX3_pass_1 : decode cX3_pass 1 = .ok (.iconst 0, 1) := by decide +kernel
theorem dX3_pass_2 : decode cX3_pass 2 = .ok (.putfield 96, 3) := by decide +kernel
theorem dX3_pass_5 : decode cX3_pass 5 = .ok (.iload_n 1, 1) := by decide +kernel
theorem dX3_pass_6 : decode cX3_pass 6 = .ok (.iconst 1, 1) := by decide +kernel
theorem dX3_pass_7 : decode cX3_pass 7 = .ok (.bipush 50, 2) := by decide +kernel
theorem dX3_pass_9 : decode cX3_pass 9 = .ok (.invokestatic 102, 3) := by decide +kernel
theorem dX3_pass_12 : decode cX3_pass 12 = .ok (.ifCond .ne 9, 3) := by decide +kernel
theorem dX3_pass_15 : decode cX3_pass 15 = .ok (.aload_n 0, 1) := by decide +kernel
theorem dX3_pass_16 : decode cX3_pass 16 = .ok (.iconst 1, 1) := by decide +kernel
theorem dX3_pass_17 : decode cX3_pass 17 = .ok (.invokevirtual 123, 3) := by decide +kernel
theorem dX3_pass_20 : decode cX3_pass 20 = .ok (.ireturn, 1) := by decide +kernel
theorem dX3_pass_21 : decode cX3_pass 21 = .ok (.aload_n 0, 1) := by decide +kernel
theorem dX3_pass_22 : decode cX3_pass 22 = .ok (.getfield 214, 3) := by decide +kernel
theorem dX3_pass_25 : decode cX3_pass 25 = .ok (.iload_n 1, 1) := by decide +kernel
theorem dX3_pass_26 : decode cX3_pass 26 = .ok (.iadd, 1) := by decide +kernel
theorem dX3_pass_27 : decode cX3_pass 27 = .ok (.sipush 9999, 3) := by decide +kernel
theorem dX3_pass_30 : decode cX3_pass 30 = .ok (.if_icmp .le 9, 3) := by decide +kernel
theorem dX3_pass_33 : decode cX3_pass 33 = .ok (.aload_n 0, 1) := by decide +kernel
theorem dX3_pass_34 : decode cX3_pass 34 = .ok (.iconst 2, 1) := by decide +kernel
theorem dX3_pass_35 : decode cX3_pass 35 = .ok (.invokevirtual 123, 3) := by decide +kernel
theorem dX3_pass_38 : decode cX3_pass 38 = .ok (.ireturn, 1) := by decide +kernel
theorem dX3_pass_39 : decode cX3_pass 39 = .ok (.iconst 0, 1) := by decide +kernel
theorem dX3_pass_40 : decode cX3_pass 40 = .ok (.istore_n 2, 1) := by decide +kernel
theorem dX3_pass_41 : decode cX3_pass 41 = .ok (.iload_n 2, 1) := by decide +kernel
theorem dX3_pass_42 : decode cX3_pass 42 = .ok (.iload_n 1, 1) := by decide +kernel
theorem dX3_pass_43 : decode cX3_pass 43 = .ok (.if_icmp .ge 13, 3) := by decide +kernel
theorem dX3_pass_46 : decode cX3_pass 46 = .ok (.aload_n 0, 1) := by decide +kernel
theorem dX3_pass_47 : decode cX3_pass 47 = .ok (.invokevirtual 217, 3) := by decide +kernel
theorem dX3_pass_50 : decode cX3_pass 50 = .ok (.iinc 2 1, 3) := by decide +kernel
theorem dX3_pass_53 : decode cX3_pass 53 = .ok (.goto (-12), 3) := by decide +kernel
theorem dX3_pass_56 : decode cX3_pass 56 = .ok (.aload_n 0, 1) := by decide +kernel
theorem dX3_pass_57 : decode cX3_pass 57 = .ok (.getfield 214, 3) := by decide +kernel
theorem dX3_pass_60 : decode cX3_pass 60 = .ok (.ireturn, 1) := by decide +kernel
theorem dX3_clock_0 : decode cX3_clock 0 = .ok (.aload_n 0, 1) := by decide +kernel
theorem dX3_clock_1 : decode cX3_clock 1 = .ok (.iconst 0, 1) := by decide +kernel
theorem dX3_clock_2 : decode cX3_clock 2 = .ok (.putfield 96, 3) := by decide +kernel
theorem dX3_clock_5 : decode cX3_clock 5 = .ok (.aload_n 0, 1) := by decide +kernel
theorem dX3_clock_6 : decode cX3_clock 6 = .ok (.getfield 214, 3) := by decide +kernel
theorem dX3_clock_9 : decode cX3_clock 9 = .ok (.ireturn, 1) := by decide +kernel
theorem dX3_blocksOf_0 : decode cX3_blocksOf 0 = .ok (.aload_n 0, 1) := by decide +kernel
theorem dX3_blocksOf_1 : decode cX3_blocksOf 1 = .ok (.iload_n 1, 1) := by decide +kernel
theorem dX3_blocksOf_2 : decode cX3_blocksOf 2 = .ok (.invokevirtual 152, 3) := by decide +kernel
theorem dX3_blocksOf_5 : decode cX3_blocksOf 5 = .ok (.ifCond .eq 5, 3) := by decide +kernel
theorem dX3_blocksOf_8 : decode cX3_blocksOf 8 = .ok (.iconst 0, 1) := by decide +kernel
theorem dX3_blocksOf_9 : decode cX3_blocksOf 9 = .ok (.ireturn, 1) := by decide +kernel
theorem dX3_blocksOf_10 : decode cX3_blocksOf 10 = .ok (.iconst 0, 1) := by decide +kernel
theorem dX3_blocksOf_11 : decode cX3_blocksOf 11 = .ok (.istore_n 2, 1) := by decide +kernel
theorem dX3_blocksOf_12 : decode cX3_blocksOf 12 = .ok (.iconst 0, 1) := by decide +kernel
theorem dX3_blocksOf_13 : decode cX3_blocksOf 13 = .ok (.istore_n 3, 1) := by decide +kernel
theorem dX3_blocksOf_14 : decode cX3_blocksOf 14 = .ok (.iload_n 3, 1) := by decide +kernel
theorem dX3_blocksOf_15 : decode cX3_blocksOf 15 = .ok (.aload_n 0, 1) := by decide +kernel
theorem dX3_blocksOf_16 : decode cX3_blocksOf 16 = .ok (.getfield 171, 3) := by decide +kernel
theorem dX3_blocksOf_19 : decode cX3_blocksOf 19 = .ok (.if_icmp .ge 30, 3) := by decide +kernel
theorem dX3_blocksOf_22 : decode cX3_blocksOf 22 = .ok (.iload_n 2, 1) := by decide +kernel
theorem dX3_blocksOf_23 : decode cX3_blocksOf 23 = .ok (.aload_n 0, 1) := by decide +kernel
theorem dX3_blocksOf_24 : decode cX3_blocksOf 24 = .ok (.getfield 47, 3) := by decide +kernel
theorem dX3_blocksOf_27 : decode cX3_blocksOf 27 = .ok (.iload_n 3, 1) := by decide +kernel
theorem dX3_blocksOf_28 : decode cX3_blocksOf 28 = .ok (.iaload, 1) := by decide +kernel
theorem dX3_blocksOf_29 : decode cX3_blocksOf 29 = .ok (.bipush 100, 2) := by decide +kernel
theorem dX3_blocksOf_31 : decode cX3_blocksOf 31 = .ok (.idiv, 1) := by decide +kernel
theorem dX3_blocksOf_32 : decode cX3_blocksOf 32 = .ok (.iload_n 1, 1) := by decide +kernel
theorem dX3_blocksOf_33 : decode cX3_blocksOf 33 = .ok (.if_icmp .ne 7, 3) := by decide +kernel
theorem dX3_blocksOf_36 : decode cX3_blocksOf 36 = .ok (.iconst 1, 1) := by decide +kernel
theorem dX3_blocksOf_37 : decode cX3_blocksOf 37 = .ok (.goto 4, 3) := by decide +kernel
theorem dX3_blocksOf_40 : decode cX3_blocksOf 40 = .ok (.iconst 0, 1) := by decide +kernel
theorem dX3_blocksOf_41 : decode cX3_blocksOf 41 = .ok (.iadd, 1) := by decide +kernel
theorem dX3_blocksOf_42 : decode cX3_blocksOf 42 = .ok (.istore_n 2, 1) := by decide +kernel
theorem dX3_blocksOf_43 : decode cX3_blocksOf 43 = .ok (.iinc 3 1, 3) := by decide +kernel
theorem dX3_blocksOf_46 : decode cX3_blocksOf 46 = .ok (.goto (-32), 3) := by decide +kernel
theorem dX3_blocksOf_49 : decode cX3_blocksOf 49 = .ok (.iload_n 2, 1) := by decide +kernel
theorem dX3_blocksOf_50 : decode cX3_blocksOf 50 = .ok (.ireturn, 1) := by decide +kernel
theorem dX3_copiesOf_0 : decode cX3_copiesOf 0 = .ok (.aload_n 0, 1) := by decide +kernel
theorem dX3_copiesOf_1 : decode cX3_copiesOf 1 = .ok (.iload_n 1, 1) := by decide +kernel
theorem dX3_copiesOf_2 : decode cX3_copiesOf 2 = .ok (.iload_n 2, 1) := by decide +kernel
theorem dX3_copiesOf_3 : decode cX3_copiesOf 3 = .ok (.invokevirtual 139, 3) := by decide +kernel
theorem dX3_copiesOf_6 : decode cX3_copiesOf 6 = .ok (.ifCond .eq 7, 3) := by decide +kernel
theorem dX3_copiesOf_9 : decode cX3_copiesOf 9 = .ok (.iconst 0, 1) := by decide +kernel
theorem dX3_copiesOf_10 : decode cX3_copiesOf 10 = .ok (.goto 14, 3) := by decide +kernel
theorem dX3_copiesOf_13 : decode cX3_copiesOf 13 = .ok (.aload_n 0, 1) := by decide +kernel
theorem dX3_copiesOf_14 : decode cX3_copiesOf 14 = .ok (.getfield 38, 3) := by decide +kernel
theorem dX3_copiesOf_17 : decode cX3_copiesOf 17 = .ok (.bipush 100, 2) := by decide +kernel
theorem dX3_copiesOf_19 : decode cX3_copiesOf 19 = .ok (.iload_n 1, 1) := by decide +kernel
theorem dX3_copiesOf_20 : decode cX3_copiesOf 20 = .ok (.imul, 1) := by decide +kernel
theorem dX3_copiesOf_21 : decode cX3_copiesOf 21 = .ok (.iload_n 2, 1) := by decide +kernel
theorem dX3_copiesOf_22 : decode cX3_copiesOf 22 = .ok (.iadd, 1) := by decide +kernel
theorem dX3_copiesOf_23 : decode cX3_copiesOf 23 = .ok (.iaload, 1) := by decide +kernel
theorem dX3_copiesOf_24 : decode cX3_copiesOf 24 = .ok (.ireturn, 1) := by decide +kernel
theorem dX3_copiesByDisks_0 : decode cX3_copiesByDisks 0 = .ok (.aload_n 0, 1) := by decide +kernel
theorem dX3_copiesByDisks_1 : decode cX3_copiesByDisks 1 = .ok (.iload_n 1, 1) := by decide +kernel
theorem dX3_copiesByDisks_2 : decode cX3_copiesByDisks 2 = .ok (.iload_n 2, 1) := by decide +kernel
theorem dX3_copiesByDisks_3 : decode cX3_copiesByDisks 3 = .ok (.invokevirtual 139, 3) := by decide +kernel
theorem dX3_copiesByDisks_6 : decode cX3_copiesByDisks 6 = .ok (.ifCond .eq 5, 3) := by decide +kernel
theorem dX3_copiesByDisks_9 : decode cX3_copiesByDisks 9 = .ok (.iconst 0, 1) := by decide +kernel
theorem dX3_copiesByDisks_10 : decode cX3_copiesByDisks 10 = .ok (.ireturn, 1) := by decide +kernel
theorem dX3_copiesByDisks_11 : decode cX3_copiesByDisks 11 = .ok (.iconst 0, 1) := by decide +kernel
theorem dX3_copiesByDisks_12 : decode cX3_copiesByDisks 12 = .ok (.istore_n 3, 1) := by decide +kernel
theorem dX3_copiesByDisks_13 : decode cX3_copiesByDisks 13 = .ok (.iconst 0, 1) := by decide +kernel
theorem dX3_copiesByDisks_14 : decode cX3_copiesByDisks 14 = .ok (.istore 4, 2) := by decide +kernel
theorem dX3_copiesByDisks_16 : decode cX3_copiesByDisks 16 = .ok (.iload 4, 2) := by decide +kernel
theorem dX3_copiesByDisks_18 : decode cX3_copiesByDisks 18 = .ok (.bipush 32, 2) := by decide +kernel
theorem dX3_copiesByDisks_20 : decode cX3_copiesByDisks 20 = .ok (.aload_n 0, 1) := by decide +kernel
theorem dX3_copiesByDisks_21 : decode cX3_copiesByDisks 21 = .ok (.getfield 99, 3) := by decide +kernel
theorem dX3_copiesByDisks_24 : decode cX3_copiesByDisks 24 = .ok (.imul, 1) := by decide +kernel
theorem dX3_copiesByDisks_25 : decode cX3_copiesByDisks 25 = .ok (.if_icmp .ge 33, 3) := by decide +kernel
theorem dX3_copiesByDisks_28 : decode cX3_copiesByDisks 28 = .ok (.iload_n 3, 1) := by decide +kernel
theorem dX3_copiesByDisks_29 : decode cX3_copiesByDisks 29 = .ok (.aload_n 0, 1) := by decide +kernel
theorem dX3_copiesByDisks_30 : decode cX3_copiesByDisks 30 = .ok (.getfield 17, 3) := by decide +kernel
theorem dX3_copiesByDisks_33 : decode cX3_copiesByDisks 33 = .ok (.iload 4, 2) := by decide +kernel
theorem dX3_copiesByDisks_35 : decode cX3_copiesByDisks 35 = .ok (.iaload, 1) := by decide +kernel
theorem dX3_copiesByDisks_36 : decode cX3_copiesByDisks 36 = .ok (.bipush 100, 2) := by decide +kernel
theorem dX3_copiesByDisks_38 : decode cX3_copiesByDisks 38 = .ok (.iload_n 1, 1) := by decide +kernel
theorem dX3_copiesByDisks_39 : decode cX3_copiesByDisks 39 = .ok (.imul, 1) := by decide +kernel
theorem dX3_copiesByDisks_40 : decode cX3_copiesByDisks 40 = .ok (.iload_n 2, 1) := by decide +kernel
theorem dX3_copiesByDisks_41 : decode cX3_copiesByDisks 41 = .ok (.iadd, 1) := by decide +kernel
theorem dX3_copiesByDisks_42 : decode cX3_copiesByDisks 42 = .ok (.if_icmp .ne 7, 3) := by decide +kernel
theorem dX3_copiesByDisks_45 : decode cX3_copiesByDisks 45 = .ok (.iconst 1, 1) := by decide +kernel
theorem dX3_copiesByDisks_46 : decode cX3_copiesByDisks 46 = .ok (.goto 4, 3) := by decide +kernel
theorem dX3_copiesByDisks_49 : decode cX3_copiesByDisks 49 = .ok (.iconst 0, 1) := by decide +kernel
theorem dX3_copiesByDisks_50 : decode cX3_copiesByDisks 50 = .ok (.iadd, 1) := by decide +kernel
theorem dX3_copiesByDisks_51 : decode cX3_copiesByDisks 51 = .ok (.istore_n 3, 1) := by decide +kernel
theorem dX3_copiesByDisks_52 : decode cX3_copiesByDisks 52 = .ok (.iinc 4 1, 3) := by decide +kernel
theorem dX3_copiesByDisks_55 : decode cX3_copiesByDisks 55 = .ok (.goto (-39), 3) := by decide +kernel
theorem dX3_copiesByDisks_58 : decode cX3_copiesByDisks 58 = .ok (.iload_n 3, 1) := by decide +kernel
theorem dX3_copiesByDisks_59 : decode cX3_copiesByDisks 59 = .ok (.ireturn, 1) := by decide +kernel
theorem dX3_diskOfCopy_0 : decode cX3_diskOfCopy 0 = .ok (.aload_n 0, 1) := by decide +kernel
theorem dX3_diskOfCopy_1 : decode cX3_diskOfCopy 1 = .ok (.iload_n 1, 1) := by decide +kernel
theorem dX3_diskOfCopy_2 : decode cX3_diskOfCopy 2 = .ok (.iload_n 2, 1) := by decide +kernel
theorem dX3_diskOfCopy_3 : decode cX3_diskOfCopy 3 = .ok (.invokevirtual 139, 3) := by decide +kernel
theorem dX3_diskOfCopy_6 : decode cX3_diskOfCopy 6 = .ok (.ifCond .eq 5, 3) := by decide +kernel
theorem dX3_diskOfCopy_9 : decode cX3_diskOfCopy 9 = .ok (.iconst 0, 1) := by decide +kernel
theorem dX3_diskOfCopy_10 : decode cX3_diskOfCopy 10 = .ok (.ireturn, 1) := by decide +kernel
theorem dX3_diskOfCopy_11 : decode cX3_diskOfCopy 11 = .ok (.iload_n 3, 1) := by decide +kernel
theorem dX3_diskOfCopy_12 : decode cX3_diskOfCopy 12 = .ok (.iconst 0, 1) := by decide +kernel
theorem dX3_diskOfCopy_13 : decode cX3_diskOfCopy 13 = .ok (.aload_n 0, 1) := by decide +kernel
theorem dX3_diskOfCopy_14 : decode cX3_diskOfCopy 14 = .ok (.getfield 38, 3) := by decide +kernel
theorem dX3_diskOfCopy_17 : decode cX3_diskOfCopy 17 = .ok (.bipush 100, 2) := by decide +kernel
theorem dX3_diskOfCopy_19 : decode cX3_diskOfCopy 19 = .ok (.iload_n 1, 1) := by decide +kernel
theorem dX3_diskOfCopy_20 : decode cX3_diskOfCopy 20 = .ok (.imul, 1) := by decide +kernel
theorem dX3_diskOfCopy_21 : decode cX3_diskOfCopy 21 = .ok (.iload_n 2, 1) := by decide +kernel
theorem dX3_diskOfCopy_22 : decode cX3_diskOfCopy 22 = .ok (.iadd, 1) := by decide +kernel
theorem dX3_diskOfCopy_23 : decode cX3_diskOfCopy 23 = .ok (.iaload, 1) := by decide +kernel
theorem dX3_diskOfCopy_24 : decode cX3_diskOfCopy 24 = .ok (.iconst 1, 1) := by decide +kernel
theorem dX3_diskOfCopy_25 : decode cX3_diskOfCopy 25 = .ok (.isub, 1) := by decide +kernel
theorem dX3_diskOfCopy_26 : decode cX3_diskOfCopy 26 = .ok (.invokestatic 102, 3) := by decide +kernel
theorem dX3_diskOfCopy_29 : decode cX3_diskOfCopy 29 = .ok (.ifCond .eq 22, 3) := by decide +kernel
theorem dX3_diskOfCopy_32 : decode cX3_diskOfCopy 32 = .ok (.aload_n 0, 1) := by decide +kernel
theorem dX3_diskOfCopy_33 : decode cX3_diskOfCopy 33 = .ok (.getfield 32, 3) := by decide +kernel
theorem dX3_diskOfCopy_36 : decode cX3_diskOfCopy 36 = .ok (.bipush 100, 2) := by decide +kernel
theorem dX3_diskOfCopy_38 : decode cX3_diskOfCopy 38 = .ok (.iload_n 1, 1) := by decide +kernel
theorem dX3_diskOfCopy_39 : decode cX3_diskOfCopy 39 = .ok (.imul, 1) := by decide +kernel
theorem dX3_diskOfCopy_40 : decode cX3_diskOfCopy 40 = .ok (.iload_n 2, 1) := by decide +kernel
theorem dX3_diskOfCopy_41 : decode cX3_diskOfCopy 41 = .ok (.iadd, 1) := by decide +kernel
theorem dX3_diskOfCopy_42 : decode cX3_diskOfCopy 42 = .ok (.aaload, 1) := by decide +kernel
theorem dX3_diskOfCopy_43 : decode cX3_diskOfCopy 43 = .ok (.iload_n 3, 1) := by decide +kernel
theorem dX3_diskOfCopy_44 : decode cX3_diskOfCopy 44 = .ok (.iaload, 1) := by decide +kernel
theorem dX3_diskOfCopy_45 : decode cX3_diskOfCopy 45 = .ok (.bipush 32, 2) := by decide +kernel
theorem dX3_diskOfCopy_47 : decode cX3_diskOfCopy 47 = .ok (.idiv, 1) := by decide +kernel
theorem dX3_diskOfCopy_48 : decode cX3_diskOfCopy 48 = .ok (.goto 8, 3) := by decide +kernel
theorem dX3_diskOfCopy_51 : decode cX3_diskOfCopy 51 = .ok (.aload_n 0, 1) := by decide +kernel
theorem dX3_diskOfCopy_52 : decode cX3_diskOfCopy 52 = .ok (.iconst 2, 1) := by decide +kernel
theorem dX3_diskOfCopy_53 : decode cX3_diskOfCopy 53 = .ok (.invokevirtual 123, 3) := by decide +kernel
theorem dX3_diskOfCopy_56 : decode cX3_diskOfCopy 56 = .ok (.ireturn, 1) := by decide +kernel
theorem dX3_valueOf_0 : decode cX3_valueOf 0 = .ok (.aload_n 0, 1) := by decide +kernel
theorem dX3_valueOf_1 : decode cX3_valueOf 1 = .ok (.iload_n 1, 1) := by decide +kernel
theorem dX3_valueOf_2 : decode cX3_valueOf 2 = .ok (.iload_n 2, 1) := by decide +kernel
theorem dX3_valueOf_3 : decode cX3_valueOf 3 = .ok (.invokevirtual 139, 3) := by decide +kernel
theorem dX3_valueOf_6 : decode cX3_valueOf 6 = .ok (.ifCond .eq 5, 3) := by decide +kernel
theorem dX3_valueOf_9 : decode cX3_valueOf 9 = .ok (.iconst 0, 1) := by decide +kernel
theorem dX3_valueOf_10 : decode cX3_valueOf 10 = .ok (.ireturn, 1) := by decide +kernel
theorem dX3_valueOf_11 : decode cX3_valueOf 11 = .ok (.aload_n 0, 1) := by decide +kernel
theorem dX3_valueOf_12 : decode cX3_valueOf 12 = .ok (.bipush 100, 2) := by decide +kernel
theorem dX3_valueOf_14 : decode cX3_valueOf 14 = .ok (.iload_n 1, 1) := by decide +kernel
theorem dX3_valueOf_15 : decode cX3_valueOf 15 = .ok (.imul, 1) := by decide +kernel
theorem dX3_valueOf_16 : decode cX3_valueOf 16 = .ok (.iload_n 2, 1) := by decide +kernel
theorem dX3_valueOf_17 : decode cX3_valueOf 17 = .ok (.iadd, 1) := by decide +kernel
theorem dX3_valueOf_18 : decode cX3_valueOf 18 = .ok (.invokevirtual 120, 3) := by decide +kernel
theorem dX3_valueOf_21 : decode cX3_valueOf 21 = .ok (.ifCond .le 17, 3) := by decide +kernel
theorem dX3_valueOf_24 : decode cX3_valueOf 24 = .ok (.aload_n 0, 1) := by decide +kernel
theorem dX3_valueOf_25 : decode cX3_valueOf 25 = .ok (.getfield 44, 3) := by decide +kernel
theorem dX3_valueOf_28 : decode cX3_valueOf 28 = .ok (.bipush 100, 2) := by decide +kernel
theorem dX3_valueOf_30 : decode cX3_valueOf 30 = .ok (.iload_n 1, 1) := by decide +kernel
theorem dX3_valueOf_31 : decode cX3_valueOf 31 = .ok (.imul, 1) := by decide +kernel
theorem dX3_valueOf_32 : decode cX3_valueOf 32 = .ok (.iload_n 2, 1) := by decide +kernel
theorem dX3_valueOf_33 : decode cX3_valueOf 33 = .ok (.iadd, 1) := by decide +kernel
theorem dX3_valueOf_34 : decode cX3_valueOf 34 = .ok (.iaload, 1) := by decide +kernel
theorem dX3_valueOf_35 : decode cX3_valueOf 35 = .ok (.goto 8, 3) := by decide +kernel
theorem dX3_valueOf_38 : decode cX3_valueOf 38 = .ok (.aload_n 0, 1) := by decide +kernel
theorem dX3_valueOf_39 : decode cX3_valueOf 39 = .ok (.iconst 2, 1) := by decide +kernel
theorem dX3_valueOf_40 : decode cX3_valueOf 40 = .ok (.invokevirtual 123, 3) := by decide +kernel
theorem dX3_valueOf_43 : decode cX3_valueOf 43 = .ok (.ireturn, 1) := by decide +kernel
theorem dX3_isLost_0 : decode cX3_isLost 0 = .ok (.aload_n 0, 1) := by decide +kernel
theorem dX3_isLost_1 : decode cX3_isLost 1 = .ok (.iload_n 1, 1) := by decide +kernel
theorem dX3_isLost_2 : decode cX3_isLost 2 = .ok (.iload_n 2, 1) := by decide +kernel
theorem dX3_isLost_3 : decode cX3_isLost 3 = .ok (.invokevirtual 139, 3) := by decide +kernel
theorem dX3_isLost_6 : decode cX3_isLost 6 = .ok (.ifCond .ne 20, 3) := by decide +kernel
theorem dX3_isLost_9 : decode cX3_isLost 9 = .ok (.aload_n 0, 1) := by decide +kernel
theorem dX3_isLost_10 : decode cX3_isLost 10 = .ok (.bipush 100, 2) := by decide +kernel
theorem dX3_isLost_12 : decode cX3_isLost 12 = .ok (.iload_n 1, 1) := by decide +kernel
theorem dX3_isLost_13 : decode cX3_isLost 13 = .ok (.imul, 1) := by decide +kernel
theorem dX3_isLost_14 : decode cX3_isLost 14 = .ok (.iload_n 2, 1) := by decide +kernel
theorem dX3_isLost_15 : decode cX3_isLost 15 = .ok (.iadd, 1) := by decide +kernel
theorem dX3_isLost_16 : decode cX3_isLost 16 = .ok (.invokevirtual 174, 3) := by decide +kernel
theorem dX3_isLost_19 : decode cX3_isLost 19 = .ok (.ifCond .eq 7, 3) := by decide +kernel
theorem dX3_isLost_22 : decode cX3_isLost 22 = .ok (.iconst 1, 1) := by decide +kernel
theorem dX3_isLost_23 : decode cX3_isLost 23 = .ok (.goto 4, 3) := by decide +kernel
theorem dX3_isLost_26 : decode cX3_isLost 26 = .ok (.iconst 0, 1) := by decide +kernel
theorem dX3_isLost_27 : decode cX3_isLost 27 = .ok (.ireturn, 1) := by decide +kernel
theorem dX3_lostBlocks_0 : decode cX3_lostBlocks 0 = .ok (.aload_n 0, 1) := by decide +kernel
theorem dX3_lostBlocks_1 : decode cX3_lostBlocks 1 = .ok (.iconst 0, 1) := by decide +kernel
theorem dX3_lostBlocks_2 : decode cX3_lostBlocks 2 = .ok (.putfield 96, 3) := by decide +kernel
theorem dX3_lostBlocks_5 : decode cX3_lostBlocks 5 = .ok (.iconst 0, 1) := by decide +kernel
theorem dX3_lostBlocks_6 : decode cX3_lostBlocks 6 = .ok (.istore_n 1, 1) := by decide +kernel
theorem dX3_lostBlocks_7 : decode cX3_lostBlocks 7 = .ok (.iconst 0, 1) := by decide +kernel
theorem dX3_lostBlocks_8 : decode cX3_lostBlocks 8 = .ok (.istore_n 2, 1) := by decide +kernel
theorem dX3_lostBlocks_9 : decode cX3_lostBlocks 9 = .ok (.iload_n 2, 1) := by decide +kernel
theorem dX3_lostBlocks_10 : decode cX3_lostBlocks 10 = .ok (.aload_n 0, 1) := by decide +kernel
theorem dX3_lostBlocks_11 : decode cX3_lostBlocks 11 = .ok (.getfield 171, 3) := by decide +kernel
theorem dX3_lostBlocks_14 : decode cX3_lostBlocks 14 = .ok (.if_icmp .ge 30, 3) := by decide +kernel
theorem dX3_lostBlocks_17 : decode cX3_lostBlocks 17 = .ok (.iload_n 1, 1) := by decide +kernel
theorem dX3_lostBlocks_18 : decode cX3_lostBlocks 18 = .ok (.aload_n 0, 1) := by decide +kernel
theorem dX3_lostBlocks_19 : decode cX3_lostBlocks 19 = .ok (.aload_n 0, 1) := by decide +kernel
theorem dX3_lostBlocks_20 : decode cX3_lostBlocks 20 = .ok (.getfield 47, 3) := by decide +kernel
theorem dX3_lostBlocks_23 : decode cX3_lostBlocks 23 = .ok (.iload_n 2, 1) := by decide +kernel
theorem dX3_lostBlocks_24 : decode cX3_lostBlocks 24 = .ok (.iaload, 1) := by decide +kernel
theorem dX3_lostBlocks_25 : decode cX3_lostBlocks 25 = .ok (.invokevirtual 174, 3) := by decide +kernel
theorem dX3_lostBlocks_28 : decode cX3_lostBlocks 28 = .ok (.ifCond .eq 7, 3) := by decide +kernel
theorem dX3_lostBlocks_31 : decode cX3_lostBlocks 31 = .ok (.iconst 1, 1) := by decide +kernel
theorem dX3_lostBlocks_32 : decode cX3_lostBlocks 32 = .ok (.goto 4, 3) := by decide +kernel
theorem dX3_lostBlocks_35 : decode cX3_lostBlocks 35 = .ok (.iconst 0, 1) := by decide +kernel
theorem dX3_lostBlocks_36 : decode cX3_lostBlocks 36 = .ok (.iadd, 1) := by decide +kernel
theorem dX3_lostBlocks_37 : decode cX3_lostBlocks 37 = .ok (.istore_n 1, 1) := by decide +kernel
theorem dX3_lostBlocks_38 : decode cX3_lostBlocks 38 = .ok (.iinc 2 1, 3) := by decide +kernel
theorem dX3_lostBlocks_41 : decode cX3_lostBlocks 41 = .ok (.goto (-32), 3) := by decide +kernel
theorem dX3_lostBlocks_44 : decode cX3_lostBlocks 44 = .ok (.iload_n 1, 1) := by decide +kernel
theorem dX3_lostBlocks_45 : decode cX3_lostBlocks 45 = .ok (.ireturn, 1) := by decide +kernel
theorem dX3_degradedBlocks_0 : decode cX3_degradedBlocks 0 = .ok (.aload_n 0, 1) := by decide +kernel
theorem dX3_degradedBlocks_1 : decode cX3_degradedBlocks 1 = .ok (.iconst 0, 1) := by decide +kernel
theorem dX3_degradedBlocks_2 : decode cX3_degradedBlocks 2 = .ok (.putfield 96, 3) := by decide +kernel
theorem dX3_degradedBlocks_5 : decode cX3_degradedBlocks 5 = .ok (.iconst 0, 1) := by decide +kernel
theorem dX3_degradedBlocks_6 : decode cX3_degradedBlocks 6 = .ok (.istore_n 1, 1) := by decide +kernel
theorem dX3_degradedBlocks_7 : decode cX3_degradedBlocks 7 = .ok (.iconst 0, 1) := by decide +kernel
theorem dX3_degradedBlocks_8 : decode cX3_degradedBlocks 8 = .ok (.istore_n 2, 1) := by decide +kernel
theorem dX3_degradedBlocks_9 : decode cX3_degradedBlocks 9 = .ok (.iload_n 2, 1) := by decide +kernel
theorem dX3_degradedBlocks_10 : decode cX3_degradedBlocks 10 = .ok (.aload_n 0, 1) := by decide +kernel
theorem dX3_degradedBlocks_11 : decode cX3_degradedBlocks 11 = .ok (.getfield 171, 3) := by decide +kernel
theorem dX3_degradedBlocks_14 : decode cX3_degradedBlocks 14 = .ok (.if_icmp .ge 30, 3) := by decide +kernel
theorem dX3_degradedBlocks_17 : decode cX3_degradedBlocks 17 = .ok (.iload_n 1, 1) := by decide +kernel
theorem dX3_degradedBlocks_18 : decode cX3_degradedBlocks 18 = .ok (.aload_n 0, 1) := by decide +kernel
theorem dX3_degradedBlocks_19 : decode cX3_degradedBlocks 19 = .ok (.aload_n 0, 1) := by decide +kernel
theorem dX3_degradedBlocks_20 : decode cX3_degradedBlocks 20 = .ok (.getfield 47, 3) := by decide +kernel
theorem dX3_degradedBlocks_23 : decode cX3_degradedBlocks 23 = .ok (.iload_n 2, 1) := by decide +kernel
theorem dX3_degradedBlocks_24 : decode cX3_degradedBlocks 24 = .ok (.iaload, 1) := by decide +kernel
theorem dX3_degradedBlocks_25 : decode cX3_degradedBlocks 25 = .ok (.invokevirtual 190, 3) := by decide +kernel
theorem dX3_degradedBlocks_28 : decode cX3_degradedBlocks 28 = .ok (.ifCond .eq 7, 3) := by decide +kernel
theorem dX3_degradedBlocks_31 : decode cX3_degradedBlocks 31 = .ok (.iconst 1, 1) := by decide +kernel
theorem dX3_degradedBlocks_32 : decode cX3_degradedBlocks 32 = .ok (.goto 4, 3) := by decide +kernel
theorem dX3_degradedBlocks_35 : decode cX3_degradedBlocks 35 = .ok (.iconst 0, 1) := by decide +kernel
theorem dX3_degradedBlocks_36 : decode cX3_degradedBlocks 36 = .ok (.iadd, 1) := by decide +kernel
theorem dX3_degradedBlocks_37 : decode cX3_degradedBlocks 37 = .ok (.istore_n 1, 1) := by decide +kernel
theorem dX3_degradedBlocks_38 : decode cX3_degradedBlocks 38 = .ok (.iinc 2 1, 3) := by decide +kernel
theorem dX3_degradedBlocks_41 : decode cX3_degradedBlocks 41 = .ok (.goto (-32), 3) := by decide +kernel
theorem dX3_degradedBlocks_44 : decode cX3_degradedBlocks 44 = .ok (.iload_n 1, 1) := by decide +kernel
theorem dX3_degradedBlocks_45 : decode cX3_degradedBlocks 45 = .ok (.ireturn, 1) := by decide +kernel
theorem dX3_doesBear_0 : decode cX3_doesBear 0 = .ok (.aload_n 0, 1) := by decide +kernel
theorem dX3_doesBear_1 : decode cX3_doesBear 1 = .ok (.iload_n 1, 1) := by decide +kernel
theorem dX3_doesBear_2 : decode cX3_doesBear 2 = .ok (.iconst 0, 1) := by decide +kernel
theorem dX3_doesBear_3 : decode cX3_doesBear 3 = .ok (.iconst 3, 1) := by decide +kernel
theorem dX3_doesBear_4 : decode cX3_doesBear 4 = .ok (.invokestatic 102, 3) := by decide +kernel
theorem dX3_doesBear_7 : decode cX3_doesBear 7 = .ok (.ifCond .eq 7, 3) := by decide +kernel
theorem dX3_doesBear_10 : decode cX3_doesBear 10 = .ok (.iconst 0, 1) := by decide +kernel
theorem dX3_doesBear_11 : decode cX3_doesBear 11 = .ok (.goto 4, 3) := by decide +kernel
theorem dX3_doesBear_14 : decode cX3_doesBear 14 = .ok (.iconst 1, 1) := by decide +kernel
theorem dX3_doesBear_15 : decode cX3_doesBear 15 = .ok (.putfield 96, 3) := by decide +kernel
theorem dX3_doesBear_18 : decode cX3_doesBear 18 = .ok (.aload_n 0, 1) := by decide +kernel
theorem dX3_doesBear_19 : decode cX3_doesBear 19 = .ok (.getfield 96, 3) := by decide +kernel
theorem dX3_doesBear_22 : decode cX3_doesBear 22 = .ok (.ifCond .le 5, 3) := by decide +kernel
theorem dX3_doesBear_25 : decode cX3_doesBear 25 = .ok (.iconst 0, 1) := by decide +kernel
theorem dX3_doesBear_26 : decode cX3_doesBear 26 = .ok (.ireturn, 1) := by decide +kernel
theorem dX3_doesBear_27 : decode cX3_doesBear 27 = .ok (.iconst 0, 1) := by decide +kernel
theorem dX3_doesBear_28 : decode cX3_doesBear 28 = .ok (.istore_n 2, 1) := by decide +kernel
theorem dX3_doesBear_29 : decode cX3_doesBear 29 = .ok (.iload_n 2, 1) := by decide +kernel
theorem dX3_doesBear_30 : decode cX3_doesBear 30 = .ok (.aload_n 0, 1) := by decide +kernel
theorem dX3_doesBear_31 : decode cX3_doesBear 31 = .ok (.getfield 171, 3) := by decide +kernel
theorem dX3_doesBear_34 : decode cX3_doesBear 34 = .ok (.if_icmp .ge 38, 3) := by decide +kernel
theorem dX3_doesBear_37 : decode cX3_doesBear 37 = .ok (.aload_n 0, 1) := by decide +kernel
theorem dX3_doesBear_38 : decode cX3_doesBear 38 = .ok (.aload_n 0, 1) := by decide +kernel
theorem dX3_doesBear_39 : decode cX3_doesBear 39 = .ok (.getfield 47, 3) := by decide +kernel
theorem dX3_doesBear_42 : decode cX3_doesBear 42 = .ok (.iload_n 2, 1) := by decide +kernel
theorem dX3_doesBear_43 : decode cX3_doesBear 43 = .ok (.iaload, 1) := by decide +kernel
theorem dX3_doesBear_44 : decode cX3_doesBear 44 = .ok (.invokevirtual 174, 3) := by decide +kernel
theorem dX3_doesBear_47 : decode cX3_doesBear 47 = .ok (.ifCond .ne 19, 3) := by decide +kernel
theorem dX3_doesBear_50 : decode cX3_doesBear 50 = .ok (.aload_n 0, 1) := by decide +kernel
theorem dX3_doesBear_51 : decode cX3_doesBear 51 = .ok (.aload_n 0, 1) := by decide +kernel
theorem dX3_doesBear_52 : decode cX3_doesBear 52 = .ok (.getfield 47, 3) := by decide +kernel
theorem dX3_doesBear_55 : decode cX3_doesBear 55 = .ok (.iload_n 2, 1) := by decide +kernel
theorem dX3_doesBear_56 : decode cX3_doesBear 56 = .ok (.iaload, 1) := by decide +kernel
theorem dX3_doesBear_57 : decode cX3_doesBear 57 = .ok (.invokevirtual 120, 3) := by decide +kernel
theorem dX3_doesBear_60 : decode cX3_doesBear 60 = .ok (.iload_n 1, 1) := by decide +kernel
theorem dX3_doesBear_61 : decode cX3_doesBear 61 = .ok (.if_icmp .gt 5, 3) := by decide +kernel
theorem dX3_doesBear_64 : decode cX3_doesBear 64 = .ok (.iconst 0, 1) := by decide +kernel
theorem dX3_doesBear_65 : decode cX3_doesBear 65 = .ok (.ireturn, 1) := by decide +kernel
theorem dX3_doesBear_66 : decode cX3_doesBear 66 = .ok (.iinc 2 1, 3) := by decide +kernel
theorem dX3_doesBear_69 : decode cX3_doesBear 69 = .ok (.goto (-40), 3) := by decide +kernel
theorem dX3_doesBear_72 : decode cX3_doesBear 72 = .ok (.iconst 1, 1) := by decide +kernel
theorem dX3_doesBear_73 : decode cX3_doesBear 73 = .ok (.ireturn, 1) := by decide +kernel
theorem dX3_doesBearByTrying_0 : decode cX3_doesBearByTrying 0 = .ok (.aload_n 0, 1) := by decide +kernel
theorem dX3_doesBearByTrying_1 : decode cX3_doesBearByTrying 1 = .ok (.iload_n 1, 1) := by decide +kernel
theorem dX3_doesBearByTrying_2 : decode cX3_doesBearByTrying 2 = .ok (.invokevirtual 220, 3) := by decide +kernel
theorem dX3_doesBearByTrying_5 : decode cX3_doesBearByTrying 5 = .ok (.ireturn, 1) := by decide +kernel
theorem dX3_fail_0 : decode cX3_fail 0 = .ok (.aload_n 0, 1) := by decide +kernel
theorem dX3_fail_1 : decode cX3_fail 1 = .ok (.iload_n 1, 1) := by decide +kernel
theorem dX3_fail_2 : decode cX3_fail 2 = .ok (.invokevirtual 130, 3) := by decide +kernel
theorem dX3_fail_5 : decode cX3_fail 5 = .ok (.ifCond .eq 5, 3) := by decide +kernel
theorem dX3_fail_8 : decode cX3_fail 8 = .ok (.iconst 0, 1) := by decide +kernel
theorem dX3_fail_9 : decode cX3_fail 9 = .ok (.ireturn, 1) := by decide +kernel
theorem dX3_fail_10 : decode cX3_fail 10 = .ok (.aload_n 0, 1) := by decide +kernel
theorem dX3_fail_11 : decode cX3_fail 11 = .ok (.getfield 13, 3) := by decide +kernel
theorem dX3_fail_14 : decode cX3_fail 14 = .ok (.iload_n 1, 1) := by decide +kernel
theorem dX3_fail_15 : decode cX3_fail 15 = .ok (.caload, 1) := by decide +kernel
theorem dX3_fail_16 : decode cX3_fail 16 = .ok (.bipush 102, 2) := by decide +kernel
theorem dX3_fail_18 : decode cX3_fail 18 = .ok (.if_icmp .ne 9, 3) := by decide +kernel
theorem dX3_fail_21 : decode cX3_fail 21 = .ok (.aload_n 0, 1) := by decide +kernel
theorem dX3_fail_22 : decode cX3_fail 22 = .ok (.iconst 2, 1) := by decide +kernel
theorem dX3_fail_23 : decode cX3_fail 23 = .ok (.invokevirtual 123, 3) := by decide +kernel
theorem dX3_fail_26 : decode cX3_fail 26 = .ok (.ireturn, 1) := by decide +kernel
theorem dX3_fail_27 : decode cX3_fail 27 = .ok (.aload_n 0, 1) := by decide +kernel
theorem dX3_fail_28 : decode cX3_fail 28 = .ok (.iload_n 1, 1) := by decide +kernel
theorem dX3_fail_29 : decode cX3_fail 29 = .ok (.invokevirtual 112, 3) := by decide +kernel
theorem dX3_fail_32 : decode cX3_fail 32 = .ok (.istore_n 2, 1) := by decide +kernel
theorem dX3_fail_33 : decode cX3_fail 33 = .ok (.iconst 0, 1) := by decide +kernel
theorem dX3_fail_34 : decode cX3_fail 34 = .ok (.istore_n 3, 1) := by decide +kernel
theorem dX3_fail_35 : decode cX3_fail 35 = .ok (.iload_n 3, 1) := by decide +kernel
theorem dX3_fail_36 : decode cX3_fail 36 = .ok (.aload_n 0, 1) := by decide +kernel
theorem dX3_fail_37 : decode cX3_fail 37 = .ok (.getfield 171, 3) := by decide +kernel
theorem dX3_fail_40 : decode cX3_fail 40 = .ok (.if_icmp .ge 64, 3) := by decide +kernel
theorem dX3_fail_43 : decode cX3_fail 43 = .ok (.aload_n 0, 1) := by decide +kernel
theorem dX3_fail_44 : decode cX3_fail 44 = .ok (.getfield 47, 3) := by decide +kernel
theorem dX3_fail_47 : decode cX3_fail 47 = .ok (.iload_n 3, 1) := by decide +kernel
theorem dX3_fail_48 : decode cX3_fail 48 = .ok (.iaload, 1) := by decide +kernel
theorem dX3_fail_49 : decode cX3_fail 49 = .ok (.istore 4, 2) := by decide +kernel
theorem dX3_fail_51 : decode cX3_fail 51 = .ok (.aload_n 0, 1) := by decide +kernel
theorem dX3_fail_52 : decode cX3_fail 52 = .ok (.getfield 38, 3) := by decide +kernel
theorem dX3_fail_55 : decode cX3_fail 55 = .ok (.iload 4, 2) := by decide +kernel
theorem dX3_fail_57 : decode cX3_fail 57 = .ok (.iaload, 1) := by decide +kernel
theorem dX3_fail_58 : decode cX3_fail 58 = .ok (.iconst 1, 1) := by decide +kernel
theorem dX3_fail_59 : decode cX3_fail 59 = .ok (.isub, 1) := by decide +kernel
theorem dX3_fail_60 : decode cX3_fail 60 = .ok (.istore 5, 2) := by decide +kernel
theorem dX3_fail_62 : decode cX3_fail 62 = .ok (.iload 5, 2) := by decide +kernel
theorem dX3_fail_64 : decode cX3_fail 64 = .ok (.ifCond .lt 34, 3) := by decide +kernel
theorem dX3_fail_67 : decode cX3_fail 67 = .ok (.aload_n 0, 1) := by decide +kernel
theorem dX3_fail_68 : decode cX3_fail 68 = .ok (.getfield 32, 3) := by decide +kernel
theorem dX3_fail_71 : decode cX3_fail 71 = .ok (.iload 4, 2) := by decide +kernel
theorem dX3_fail_73 : decode cX3_fail 73 = .ok (.aaload, 1) := by decide +kernel
theorem dX3_fail_74 : decode cX3_fail 74 = .ok (.iload 5, 2) := by decide +kernel
theorem dX3_fail_76 : decode cX3_fail 76 = .ok (.iaload, 1) := by decide +kernel
theorem dX3_fail_77 : decode cX3_fail 77 = .ok (.bipush 32, 2) := by decide +kernel
theorem dX3_fail_79 : decode cX3_fail 79 = .ok (.idiv, 1) := by decide +kernel
theorem dX3_fail_80 : decode cX3_fail 80 = .ok (.iload_n 1, 1) := by decide +kernel
theorem dX3_fail_81 : decode cX3_fail 81 = .ok (.if_icmp .ne 11, 3) := by decide +kernel
theorem dX3_fail_84 : decode cX3_fail 84 = .ok (.aload_n 0, 1) := by decide +kernel
theorem dX3_fail_85 : decode cX3_fail 85 = .ok (.iload 4, 2) := by decide +kernel
theorem dX3_fail_87 : decode cX3_fail 87 = .ok (.iload 5, 2) := by decide +kernel
theorem dX3_fail_89 : decode cX3_fail 89 = .ok (.invokevirtual 158, 3) := by decide +kernel
theorem dX3_fail_92 : decode cX3_fail 92 = .ok (.iinc 5 (-1), 3) := by decide +kernel
theorem dX3_fail_95 : decode cX3_fail 95 = .ok (.goto (-33), 3) := by decide +kernel
theorem dX3_fail_98 : decode cX3_fail 98 = .ok (.iinc 3 1, 3) := by decide +kernel
theorem dX3_fail_101 : decode cX3_fail 101 = .ok (.goto (-66), 3) := by decide +kernel
theorem dX3_fail_104 : decode cX3_fail 104 = .ok (.aload_n 0, 1) := by decide +kernel
theorem dX3_fail_105 : decode cX3_fail 105 = .ok (.getfield 13, 3) := by decide +kernel
theorem dX3_fail_108 : decode cX3_fail 108 = .ok (.iload_n 1, 1) := by decide +kernel
theorem dX3_fail_109 : decode cX3_fail 109 = .ok (.bipush 102, 2) := by decide +kernel
theorem dX3_fail_111 : decode cX3_fail 111 = .ok (.castore, 1) := by decide +kernel
theorem dX3_fail_112 : decode cX3_fail 112 = .ok (.iload_n 2, 1) := by decide +kernel
theorem dX3_fail_113 : decode cX3_fail 113 = .ok (.ireturn, 1) := by decide +kernel
theorem dX3_sound_0 : decode cX3_sound 0 = .ok (.iconst 0, 1) := by decide +kernel
theorem dX3_sound_1 : decode cX3_sound 1 = .ok (.istore_n 1, 1) := by decide +kernel
theorem dX3_sound_2 : decode cX3_sound 2 = .ok (.iconst 0, 1) := by decide +kernel
theorem dX3_sound_3 : decode cX3_sound 3 = .ok (.istore_n 2, 1) := by decide +kernel
theorem dX3_sound_4 : decode cX3_sound 4 = .ok (.iload_n 2, 1) := by decide +kernel
theorem dX3_sound_5 : decode cX3_sound 5 = .ok (.aload_n 0, 1) := by decide +kernel
theorem dX3_sound_6 : decode cX3_sound 6 = .ok (.getfield 99, 3) := by decide +kernel
theorem dX3_sound_9 : decode cX3_sound 9 = .ok (.if_icmp .ge 28, 3) := by decide +kernel
theorem dX3_sound_12 : decode cX3_sound 12 = .ok (.iload_n 1, 1) := by decide +kernel
theorem dX3_sound_13 : decode cX3_sound 13 = .ok (.aload_n 0, 1) := by decide +kernel
theorem dX3_sound_14 : decode cX3_sound 14 = .ok (.getfield 13, 3) := by decide +kernel
theorem dX3_sound_17 : decode cX3_sound 17 = .ok (.iload_n 2, 1) := by decide +kernel
theorem dX3_sound_18 : decode cX3_sound 18 = .ok (.caload, 1) := by decide +kernel
theorem dX3_sound_19 : decode cX3_sound 19 = .ok (.bipush 115, 2) := by decide +kernel
theorem dX3_sound_21 : decode cX3_sound 21 = .ok (.if_icmp .ne 7, 3) := by decide +kernel
theorem dX3_sound_24 : decode cX3_sound 24 = .ok (.iconst 1, 1) := by decide +kernel
theorem dX3_sound_25 : decode cX3_sound 25 = .ok (.goto 4, 3) := by decide +kernel
theorem dX3_sound_28 : decode cX3_sound 28 = .ok (.iconst 0, 1) := by decide +kernel
theorem dX3_sound_29 : decode cX3_sound 29 = .ok (.iadd, 1) := by decide +kernel
theorem dX3_sound_30 : decode cX3_sound 30 = .ok (.istore_n 1, 1) := by decide +kernel
theorem dX3_sound_31 : decode cX3_sound 31 = .ok (.iinc 2 1, 3) := by decide +kernel
theorem dX3_sound_34 : decode cX3_sound 34 = .ok (.goto (-30), 3) := by decide +kernel
theorem dX3_sound_37 : decode cX3_sound 37 = .ok (.iload_n 1, 1) := by decide +kernel
theorem dX3_sound_38 : decode cX3_sound 38 = .ok (.ireturn, 1) := by decide +kernel
theorem dX3_replace_0 : decode cX3_replace 0 = .ok (.aload_n 0, 1) := by decide +kernel
theorem dX3_replace_1 : decode cX3_replace 1 = .ok (.iload_n 1, 1) := by decide +kernel
theorem dX3_replace_2 : decode cX3_replace 2 = .ok (.invokevirtual 130, 3) := by decide +kernel
theorem dX3_replace_5 : decode cX3_replace 5 = .ok (.ifCond .eq 5, 3) := by decide +kernel
theorem dX3_replace_8 : decode cX3_replace 8 = .ok (.iconst 0, 1) := by decide +kernel
theorem dX3_replace_9 : decode cX3_replace 9 = .ok (.ireturn, 1) := by decide +kernel
theorem dX3_replace_10 : decode cX3_replace 10 = .ok (.aload_n 0, 1) := by decide +kernel
theorem dX3_replace_11 : decode cX3_replace 11 = .ok (.getfield 13, 3) := by decide +kernel
theorem dX3_replace_14 : decode cX3_replace 14 = .ok (.iload_n 1, 1) := by decide +kernel
theorem dX3_replace_15 : decode cX3_replace 15 = .ok (.caload, 1) := by decide +kernel
theorem dX3_replace_16 : decode cX3_replace 16 = .ok (.bipush 102, 2) := by decide +kernel
theorem dX3_replace_18 : decode cX3_replace 18 = .ok (.if_icmp .eq 9, 3) := by decide +kernel
theorem dX3_replace_21 : decode cX3_replace 21 = .ok (.aload_n 0, 1) := by decide +kernel
theorem dX3_replace_22 : decode cX3_replace 22 = .ok (.iconst 2, 1) := by decide +kernel
theorem dX3_replace_23 : decode cX3_replace 23 = .ok (.invokevirtual 123, 3) := by decide +kernel
theorem dX3_replace_26 : decode cX3_replace 26 = .ok (.ireturn, 1) := by decide +kernel
theorem dX3_replace_27 : decode cX3_replace 27 = .ok (.aload_n 0, 1) := by decide +kernel
theorem dX3_replace_28 : decode cX3_replace 28 = .ok (.getfield 13, 3) := by decide +kernel
theorem dX3_replace_31 : decode cX3_replace 31 = .ok (.iload_n 1, 1) := by decide +kernel
theorem dX3_replace_32 : decode cX3_replace 32 = .ok (.bipush 115, 2) := by decide +kernel
theorem dX3_replace_34 : decode cX3_replace 34 = .ok (.castore, 1) := by decide +kernel
theorem dX3_replace_35 : decode cX3_replace 35 = .ok (.aload_n 0, 1) := by decide +kernel
theorem dX3_replace_36 : decode cX3_replace 36 = .ok (.invokevirtual 223, 3) := by decide +kernel
theorem dX3_replace_39 : decode cX3_replace 39 = .ok (.ireturn, 1) := by decide +kernel
theorem dX3_warn_0 : decode cX3_warn 0 = .ok (.aload_n 0, 1) := by decide +kernel
theorem dX3_warn_1 : decode cX3_warn 1 = .ok (.iload_n 1, 1) := by decide +kernel
theorem dX3_warn_2 : decode cX3_warn 2 = .ok (.invokevirtual 130, 3) := by decide +kernel
theorem dX3_warn_5 : decode cX3_warn 5 = .ok (.ifCond .eq 5, 3) := by decide +kernel
theorem dX3_warn_8 : decode cX3_warn 8 = .ok (.iconst 0, 1) := by decide +kernel
theorem dX3_warn_9 : decode cX3_warn 9 = .ok (.ireturn, 1) := by decide +kernel
theorem dX3_warn_10 : decode cX3_warn 10 = .ok (.aload_n 0, 1) := by decide +kernel
theorem dX3_warn_11 : decode cX3_warn 11 = .ok (.getfield 13, 3) := by decide +kernel
theorem dX3_warn_14 : decode cX3_warn 14 = .ok (.iload_n 1, 1) := by decide +kernel
theorem dX3_warn_15 : decode cX3_warn 15 = .ok (.caload, 1) := by decide +kernel
theorem dX3_warn_16 : decode cX3_warn 16 = .ok (.bipush 115, 2) := by decide +kernel
theorem dX3_warn_18 : decode cX3_warn 18 = .ok (.if_icmp .eq 9, 3) := by decide +kernel
theorem dX3_warn_21 : decode cX3_warn 21 = .ok (.aload_n 0, 1) := by decide +kernel
theorem dX3_warn_22 : decode cX3_warn 22 = .ok (.iconst 2, 1) := by decide +kernel
theorem dX3_warn_23 : decode cX3_warn 23 = .ok (.invokevirtual 123, 3) := by decide +kernel
theorem dX3_warn_26 : decode cX3_warn 26 = .ok (.ireturn, 1) := by decide +kernel
theorem dX3_warn_27 : decode cX3_warn 27 = .ok (.aload_n 0, 1) := by decide +kernel
theorem dX3_warn_28 : decode cX3_warn 28 = .ok (.getfield 13, 3) := by decide +kernel
theorem dX3_warn_31 : decode cX3_warn 31 = .ok (.iload_n 1, 1) := by decide +kernel
theorem dX3_warn_32 : decode cX3_warn 32 = .ok (.bipush 119, 2) := by decide +kernel
theorem dX3_warn_34 : decode cX3_warn 34 = .ok (.castore, 1) := by decide +kernel
theorem dX3_warn_35 : decode cX3_warn 35 = .ok (.aload_n 0, 1) := by decide +kernel
theorem dX3_warn_36 : decode cX3_warn 36 = .ok (.iload_n 1, 1) := by decide +kernel
theorem dX3_warn_37 : decode cX3_warn 37 = .ok (.invokevirtual 112, 3) := by decide +kernel
theorem dX3_warn_40 : decode cX3_warn 40 = .ok (.ireturn, 1) := by decide +kernel
theorem dX3_rot_0 : decode cX3_rot 0 = .ok (.aload_n 0, 1) := by decide +kernel
theorem dX3_rot_1 : decode cX3_rot 1 = .ok (.aload_n 0, 1) := by decide +kernel
theorem dX3_rot_2 : decode cX3_rot 2 = .ok (.iload_n 1, 1) := by decide +kernel
theorem dX3_rot_3 : decode cX3_rot 3 = .ok (.invokevirtual 126, 3) := by decide +kernel
theorem dX3_rot_6 : decode cX3_rot 6 = .ok (.ifCond .eq 19, 3) := by decide +kernel
theorem dX3_rot_9 : decode cX3_rot 9 = .ok (.iload_n 2, 1) := by decide +kernel
theorem dX3_rot_10 : decode cX3_rot 10 = .ok (.iconst 0, 1) := by decide +kernel
theorem dX3_rot_11 : decode cX3_rot 11 = .ok (.aload_n 0, 1) := by decide +kernel
theorem dX3_rot_12 : decode cX3_rot 12 = .ok (.getfield 9, 3) := by decide +kernel
theorem dX3_rot_15 : decode cX3_rot 15 = .ok (.iload_n 1, 1) := by decide +kernel
theorem dX3_rot_16 : decode cX3_rot 16 = .ok (.iaload, 1) := by decide +kernel
theorem dX3_rot_17 : decode cX3_rot 17 = .ok (.iconst 1, 1) := by decide +kernel
theorem dX3_rot_18 : decode cX3_rot 18 = .ok (.isub, 1) := by decide +kernel
theorem dX3_rot_19 : decode cX3_rot 19 = .ok (.invokestatic 102, 3) := by decide +kernel
theorem dX3_rot_22 : decode cX3_rot 22 = .ok (.ifCond .ne 7, 3) := by decide +kernel
theorem dX3_rot_25 : decode cX3_rot 25 = .ok (.iconst 1, 1) := by decide +kernel
theorem dX3_rot_26 : decode cX3_rot 26 = .ok (.goto 22, 3) := by decide +kernel
theorem dX3_rot_29 : decode cX3_rot 29 = .ok (.aload_n 0, 1) := by decide +kernel
theorem dX3_rot_30 : decode cX3_rot 30 = .ok (.getfield 17, 3) := by decide +kernel
theorem dX3_rot_33 : decode cX3_rot 33 = .ok (.bipush 32, 2) := by decide +kernel
theorem dX3_rot_35 : decode cX3_rot 35 = .ok (.iload_n 1, 1) := by decide +kernel
theorem dX3_rot_36 : decode cX3_rot 36 = .ok (.imul, 1) := by decide +kernel
theorem dX3_rot_37 : decode cX3_rot 37 = .ok (.iload_n 2, 1) := by decide +kernel
theorem dX3_rot_38 : decode cX3_rot 38 = .ok (.iadd, 1) := by decide +kernel
theorem dX3_rot_39 : decode cX3_rot 39 = .ok (.iaload, 1) := by decide +kernel
theorem dX3_rot_40 : decode cX3_rot 40 = .ok (.ifCond .ge 7, 3) := by decide +kernel
theorem dX3_rot_43 : decode cX3_rot 43 = .ok (.iconst 2, 1) := by decide +kernel
theorem dX3_rot_44 : decode cX3_rot 44 = .ok (.goto 4, 3) := by decide +kernel
theorem dX3_rot_47 : decode cX3_rot 47 = .ok (.iconst 0, 1) := by decide +kernel
theorem dX3_rot_48 : decode cX3_rot 48 = .ok (.putfield 96, 3) := by decide +kernel
theorem dX3_rot_51 : decode cX3_rot 51 = .ok (.aload_n 0, 1) := by decide +kernel
theorem dX3_rot_52 : decode cX3_rot 52 = .ok (.getfield 96, 3) := by decide +kernel
theorem dX3_rot_55 : decode cX3_rot 55 = .ok (.ifCond .le 5, 3) := by decide +kernel
theorem dX3_rot_58 : decode cX3_rot 58 = .ok (.iconst 0, 1) := by decide +kernel
theorem dX3_rot_59 : decode cX3_rot 59 = .ok (.ireturn, 1) := by decide +kernel
theorem dX3_rot_60 : decode cX3_rot 60 = .ok (.aload_n 0, 1) := by decide +kernel
theorem dX3_rot_61 : decode cX3_rot 61 = .ok (.getfield 23, 3) := by decide +kernel
theorem dX3_rot_64 : decode cX3_rot 64 = .ok (.bipush 32, 2) := by decide +kernel
theorem dX3_rot_66 : decode cX3_rot 66 = .ok (.iload_n 1, 1) := by decide +kernel
theorem dX3_rot_67 : decode cX3_rot 67 = .ok (.imul, 1) := by decide +kernel
theorem dX3_rot_68 : decode cX3_rot 68 = .ok (.iload_n 2, 1) := by decide +kernel
theorem dX3_rot_69 : decode cX3_rot 69 = .ok (.iadd, 1) := by decide +kernel
theorem dX3_rot_70 : decode cX3_rot 70 = .ok (.baload, 1) := by decide +kernel
theorem dX3_rot_71 : decode cX3_rot 71 = .ok (.istore_n 3, 1) := by decide +kernel
theorem dX3_rot_72 : decode cX3_rot 72 = .ok (.aload_n 0, 1) := by decide +kernel
theorem dX3_rot_73 : decode cX3_rot 73 = .ok (.getfield 23, 3) := by decide +kernel
theorem dX3_rot_76 : decode cX3_rot 76 = .ok (.bipush 32, 2) := by decide +kernel
theorem dX3_rot_78 : decode cX3_rot 78 = .ok (.iload_n 1, 1) := by decide +kernel
theorem dX3_rot_79 : decode cX3_rot 79 = .ok (.imul, 1) := by decide +kernel
theorem dX3_rot_80 : decode cX3_rot 80 = .ok (.iload_n 2, 1) := by decide +kernel
theorem dX3_rot_81 : decode cX3_rot 81 = .ok (.iadd, 1) := by decide +kernel
theorem dX3_rot_82 : decode cX3_rot 82 = .ok (.iconst 1, 1) := by decide +kernel
theorem dX3_rot_83 : decode cX3_rot 83 = .ok (.bastore, 1) := by decide +kernel
theorem dX3_rot_84 : decode cX3_rot 84 = .ok (.iload_n 3, 1) := by decide +kernel
theorem dX3_rot_85 : decode cX3_rot 85 = .ok (.ireturn, 1) := by decide +kernel
theorem dX3_scrub_0 : decode cX3_scrub 0 = .ok (.aload_n 0, 1) := by decide +kernel
theorem dX3_scrub_1 : decode cX3_scrub 1 = .ok (.iload_n 1, 1) := by decide +kernel
theorem dX3_scrub_2 : decode cX3_scrub 2 = .ok (.invokevirtual 130, 3) := by decide +kernel
theorem dX3_scrub_5 : decode cX3_scrub 5 = .ok (.ifCond .eq 5, 3) := by decide +kernel
theorem dX3_scrub_8 : decode cX3_scrub 8 = .ok (.iconst 0, 1) := by decide +kernel
theorem dX3_scrub_9 : decode cX3_scrub 9 = .ok (.ireturn, 1) := by decide +kernel
theorem dX3_scrub_10 : decode cX3_scrub 10 = .ok (.aload_n 0, 1) := by decide +kernel
theorem dX3_scrub_11 : decode cX3_scrub 11 = .ok (.getfield 13, 3) := by decide +kernel
theorem dX3_scrub_14 : decode cX3_scrub 14 = .ok (.iload_n 1, 1) := by decide +kernel
theorem dX3_scrub_15 : decode cX3_scrub 15 = .ok (.caload, 1) := by decide +kernel
theorem dX3_scrub_16 : decode cX3_scrub 16 = .ok (.bipush 102, 2) := by decide +kernel
theorem dX3_scrub_18 : decode cX3_scrub 18 = .ok (.if_icmp .ne 9, 3) := by decide +kernel
theorem dX3_scrub_21 : decode cX3_scrub 21 = .ok (.aload_n 0, 1) := by decide +kernel
theorem dX3_scrub_22 : decode cX3_scrub 22 = .ok (.iconst 2, 1) := by decide +kernel
theorem dX3_scrub_23 : decode cX3_scrub 23 = .ok (.invokevirtual 123, 3) := by decide +kernel
theorem dX3_scrub_26 : decode cX3_scrub 26 = .ok (.ireturn, 1) := by decide +kernel
theorem dX3_scrub_27 : decode cX3_scrub 27 = .ok (.iconst 0, 1) := by decide +kernel
theorem dX3_scrub_28 : decode cX3_scrub 28 = .ok (.istore_n 2, 1) := by decide +kernel
theorem dX3_scrub_29 : decode cX3_scrub 29 = .ok (.bipush 32, 2) := by decide +kernel
theorem dX3_scrub_31 : decode cX3_scrub 31 = .ok (.iload_n 1, 1) := by decide +kernel
theorem dX3_scrub_32 : decode cX3_scrub 32 = .ok (.imul, 1) := by decide +kernel
theorem dX3_scrub_33 : decode cX3_scrub 33 = .ok (.istore_n 3, 1) := by decide +kernel
theorem dX3_scrub_34 : decode cX3_scrub 34 = .ok (.iload_n 3, 1) := by decide +kernel
theorem dX3_scrub_35 : decode cX3_scrub 35 = .ok (.bipush 32, 2) := by decide +kernel
theorem dX3_scrub_37 : decode cX3_scrub 37 = .ok (.iload_n 1, 1) := by decide +kernel
theorem dX3_scrub_38 : decode cX3_scrub 38 = .ok (.imul, 1) := by decide +kernel
theorem dX3_scrub_39 : decode cX3_scrub 39 = .ok (.aload_n 0, 1) := by decide +kernel
theorem dX3_scrub_40 : decode cX3_scrub 40 = .ok (.getfield 9, 3) := by decide +kernel
theorem dX3_scrub_43 : decode cX3_scrub 43 = .ok (.iload_n 1, 1) := by decide +kernel
theorem dX3_scrub_44 : decode cX3_scrub 44 = .ok (.iaload, 1) := by decide +kernel
theorem dX3_scrub_45 : decode cX3_scrub 45 = .ok (.iadd, 1) := by decide +kernel
theorem dX3_scrub_46 : decode cX3_scrub 46 = .ok (.if_icmp .ge 53, 3) := by decide +kernel
theorem dX3_scrub_49 : decode cX3_scrub 49 = .ok (.aload_n 0, 1) := by decide +kernel
theorem dX3_scrub_50 : decode cX3_scrub 50 = .ok (.getfield 17, 3) := by decide +kernel
theorem dX3_scrub_53 : decode cX3_scrub 53 = .ok (.iload_n 3, 1) := by decide +kernel
theorem dX3_scrub_54 : decode cX3_scrub 54 = .ok (.iaload, 1) := by decide +kernel
theorem dX3_scrub_55 : decode cX3_scrub 55 = .ok (.ifCond .lt 38, 3) := by decide +kernel
theorem dX3_scrub_58 : decode cX3_scrub 58 = .ok (.aload_n 0, 1) := by decide +kernel
theorem dX3_scrub_59 : decode cX3_scrub 59 = .ok (.getfield 23, 3) := by decide +kernel
theorem dX3_scrub_62 : decode cX3_scrub 62 = .ok (.iload_n 3, 1) := by decide +kernel
theorem dX3_scrub_63 : decode cX3_scrub 63 = .ok (.baload, 1) := by decide +kernel
theorem dX3_scrub_64 : decode cX3_scrub 64 = .ok (.ifCond .eq 29, 3) := by decide +kernel
theorem dX3_scrub_67 : decode cX3_scrub 67 = .ok (.aload_n 0, 1) := by decide +kernel
theorem dX3_scrub_68 : decode cX3_scrub 68 = .ok (.aload_n 0, 1) := by decide +kernel
theorem dX3_scrub_69 : decode cX3_scrub 69 = .ok (.getfield 17, 3) := by decide +kernel
theorem dX3_scrub_72 : decode cX3_scrub 72 = .ok (.iload_n 3, 1) := by decide +kernel
theorem dX3_scrub_73 : decode cX3_scrub 73 = .ok (.iaload, 1) := by decide +kernel
theorem dX3_scrub_74 : decode cX3_scrub 74 = .ok (.invokevirtual 174, 3) := by decide +kernel
theorem dX3_scrub_77 : decode cX3_scrub 77 = .ok (.ifCond .eq 6, 3) := by decide +kernel
theorem dX3_scrub_80 : decode cX3_scrub 80 = .ok (.goto 13, 3) := by decide +kernel
theorem dX3_scrub_83 : decode cX3_scrub 83 = .ok (.aload_n 0, 1) := by decide +kernel
theorem dX3_scrub_84 : decode cX3_scrub 84 = .ok (.getfield 23, 3) := by decide +kernel
theorem dX3_scrub_87 : decode cX3_scrub 87 = .ok (.iload_n 3, 1) := by decide +kernel
theorem dX3_scrub_88 : decode cX3_scrub 88 = .ok (.iconst 0, 1) := by decide +kernel
theorem dX3_scrub_89 : decode cX3_scrub 89 = .ok (.bastore, 1) := by decide +kernel
theorem dX3_scrub_90 : decode cX3_scrub 90 = .ok (.iinc 2 1, 3) := by decide +kernel
theorem dX3_scrub_93 : decode cX3_scrub 93 = .ok (.iinc 3 1, 3) := by decide +kernel
theorem dX3_scrub_96 : decode cX3_scrub 96 = .ok (.goto (-62), 3) := by decide +kernel
theorem dX3_scrub_99 : decode cX3_scrub 99 = .ok (.iload_n 2, 1) := by decide +kernel
theorem dX3_scrub_100 : decode cX3_scrub 100 = .ok (.ireturn, 1) := by decide +kernel
theorem dX3_rottenOn_0 : decode cX3_rottenOn 0 = .ok (.aload_n 0, 1) := by decide +kernel
theorem dX3_rottenOn_1 : decode cX3_rottenOn 1 = .ok (.iload_n 1, 1) := by decide +kernel
theorem dX3_rottenOn_2 : decode cX3_rottenOn 2 = .ok (.invokevirtual 130, 3) := by decide +kernel
theorem dX3_rottenOn_5 : decode cX3_rottenOn 5 = .ok (.ifCond .eq 5, 3) := by decide +kernel
theorem dX3_rottenOn_8 : decode cX3_rottenOn 8 = .ok (.iconst 0, 1) := by decide +kernel
theorem dX3_rottenOn_9 : decode cX3_rottenOn 9 = .ok (.ireturn, 1) := by decide +kernel
theorem dX3_rottenOn_10 : decode cX3_rottenOn 10 = .ok (.iconst 0, 1) := by decide +kernel
theorem dX3_rottenOn_11 : decode cX3_rottenOn 11 = .ok (.istore_n 2, 1) := by decide +kernel
theorem dX3_rottenOn_12 : decode cX3_rottenOn 12 = .ok (.bipush 32, 2) := by decide +kernel
theorem dX3_rottenOn_14 : decode cX3_rottenOn 14 = .ok (.iload_n 1, 1) := by decide +kernel
theorem dX3_rottenOn_15 : decode cX3_rottenOn 15 = .ok (.imul, 1) := by decide +kernel
theorem dX3_rottenOn_16 : decode cX3_rottenOn 16 = .ok (.istore_n 3, 1) := by decide +kernel
theorem dX3_rottenOn_17 : decode cX3_rottenOn 17 = .ok (.iload_n 3, 1) := by decide +kernel
theorem dX3_rottenOn_18 : decode cX3_rottenOn 18 = .ok (.bipush 32, 2) := by decide +kernel
theorem dX3_rottenOn_20 : decode cX3_rottenOn 20 = .ok (.iload_n 1, 1) := by decide +kernel
theorem dX3_rottenOn_21 : decode cX3_rottenOn 21 = .ok (.imul, 1) := by decide +kernel
theorem dX3_rottenOn_22 : decode cX3_rottenOn 22 = .ok (.aload_n 0, 1) := by decide +kernel
theorem dX3_rottenOn_23 : decode cX3_rottenOn 23 = .ok (.getfield 9, 3) := by decide +kernel
theorem dX3_rottenOn_26 : decode cX3_rottenOn 26 = .ok (.iload_n 1, 1) := by decide +kernel
theorem dX3_rottenOn_27 : decode cX3_rottenOn 27 = .ok (.iaload, 1) := by decide +kernel
theorem dX3_rottenOn_28 : decode cX3_rottenOn 28 = .ok (.iadd, 1) := by decide +kernel
theorem dX3_rottenOn_29 : decode cX3_rottenOn 29 = .ok (.if_icmp .ge 35, 3) := by decide +kernel
theorem dX3_rottenOn_32 : decode cX3_rottenOn 32 = .ok (.iload_n 2, 1) := by decide +kernel
theorem dX3_rottenOn_33 : decode cX3_rottenOn 33 = .ok (.aload_n 0, 1) := by decide +kernel
theorem dX3_rottenOn_34 : decode cX3_rottenOn 34 = .ok (.getfield 17, 3) := by decide +kernel
theorem dX3_rottenOn_37 : decode cX3_rottenOn 37 = .ok (.iload_n 3, 1) := by decide +kernel
theorem dX3_rottenOn_38 : decode cX3_rottenOn 38 = .ok (.iaload, 1) := by decide +kernel
theorem dX3_rottenOn_39 : decode cX3_rottenOn 39 = .ok (.ifCond .lt 16, 3) := by decide +kernel
theorem dX3_rottenOn_42 : decode cX3_rottenOn 42 = .ok (.aload_n 0, 1) := by decide +kernel
theorem dX3_rottenOn_43 : decode cX3_rottenOn 43 = .ok (.getfield 23, 3) := by decide +kernel
theorem dX3_rottenOn_46 : decode cX3_rottenOn 46 = .ok (.iload_n 3, 1) := by decide +kernel
theorem dX3_rottenOn_47 : decode cX3_rottenOn 47 = .ok (.baload, 1) := by decide +kernel
theorem dX3_rottenOn_48 : decode cX3_rottenOn 48 = .ok (.ifCond .eq 7, 3) := by decide +kernel
theorem dX3_rottenOn_51 : decode cX3_rottenOn 51 = .ok (.iconst 1, 1) := by decide +kernel
theorem dX3_rottenOn_52 : decode cX3_rottenOn 52 = .ok (.goto 4, 3) := by decide +kernel
theorem dX3_rottenOn_55 : decode cX3_rottenOn 55 = .ok (.iconst 0, 1) := by decide +kernel
theorem dX3_rottenOn_56 : decode cX3_rottenOn 56 = .ok (.iadd, 1) := by decide +kernel
theorem dX3_rottenOn_57 : decode cX3_rottenOn 57 = .ok (.istore_n 2, 1) := by decide +kernel
theorem dX3_rottenOn_58 : decode cX3_rottenOn 58 = .ok (.iinc 3 1, 3) := by decide +kernel
theorem dX3_rottenOn_61 : decode cX3_rottenOn 61 = .ok (.goto (-44), 3) := by decide +kernel
theorem dX3_rottenOn_64 : decode cX3_rottenOn 64 = .ok (.iload_n 2, 1) := by decide +kernel
theorem dX3_rottenOn_65 : decode cX3_rottenOn 65 = .ok (.ireturn, 1) := by decide +kernel
theorem dX3_rebuilt_0 : decode cX3_rebuilt 0 = .ok (.aload_n 0, 1) := by decide +kernel
theorem dX3_rebuilt_1 : decode cX3_rebuilt 1 = .ok (.iconst 0, 1) := by decide +kernel
theorem dX3_rebuilt_2 : decode cX3_rebuilt 2 = .ok (.putfield 96, 3) := by decide +kernel
theorem dX3_rebuilt_5 : decode cX3_rebuilt 5 = .ok (.aload_n 0, 1) := by decide +kernel
theorem dX3_rebuilt_6 : decode cX3_rebuilt 6 = .ok (.getfield 200, 3) := by decide +kernel
theorem dX3_rebuilt_9 : decode cX3_rebuilt 9 = .ok (.ireturn, 1) := by decide +kernel
theorem dX3_openRebuilds_0 : decode cX3_openRebuilds 0 = .ok (.aload_n 0, 1) := by decide +kernel
theorem dX3_openRebuilds_1 : decode cX3_openRebuilds 1 = .ok (.iconst 0, 1) := by decide +kernel
theorem dX3_openRebuilds_2 : decode cX3_openRebuilds 2 = .ok (.putfield 96, 3) := by decide +kernel
theorem dX3_openRebuilds_5 : decode cX3_openRebuilds 5 = .ok (.aload_n 0, 1) := by decide +kernel
theorem dX3_openRebuilds_6 : decode cX3_openRebuilds 6 = .ok (.invokevirtual 155, 3) := by decide +kernel
theorem dX3_openRebuilds_9 : decode cX3_openRebuilds 9 = .ok (.aload_n 0, 1) := by decide +kernel
theorem dX3_openRebuilds_10 : decode cX3_openRebuilds 10 = .ok (.sipush 10000, 3) := by decide +kernel
theorem dX3_openRebuilds_13 : decode cX3_openRebuilds 13 = .ok (.invokevirtual 197, 3) := by decide +kernel
theorem dX3_openRebuilds_16 : decode cX3_openRebuilds 16 = .ok (.istore_n 1, 1) := by decide +kernel
theorem dX3_openRebuilds_17 : decode cX3_openRebuilds 17 = .ok (.aload_n 0, 1) := by decide +kernel
theorem dX3_openRebuilds_18 : decode cX3_openRebuilds 18 = .ok (.invokevirtual 165, 3) := by decide +kernel
theorem dX3_openRebuilds_21 : decode cX3_openRebuilds 21 = .ok (.iload_n 1, 1) := by decide +kernel
theorem dX3_openRebuilds_22 : decode cX3_openRebuilds 22 = .ok (.ireturn, 1) := by decide +kernel
theorem dX3_meanCopies_0 : decode cX3_meanCopies 0 = .ok (.aload_n 0, 1) := by decide +kernel
theorem dX3_meanCopies_1 : decode cX3_meanCopies 1 = .ok (.iconst 0, 1) := by decide +kernel
theorem dX3_meanCopies_2 : decode cX3_meanCopies 2 = .ok (.putfield 96, 3) := by decide +kernel
theorem dX3_meanCopies_5 : decode cX3_meanCopies 5 = .ok (.iconst 0, 1) := by decide +kernel
theorem dX3_meanCopies_6 : decode cX3_meanCopies 6 = .ok (.istore_n 1, 1) := by decide +kernel
theorem dX3_meanCopies_7 : decode cX3_meanCopies 7 = .ok (.iconst 0, 1) := by decide +kernel
theorem dX3_meanCopies_8 : decode cX3_meanCopies 8 = .ok (.istore_n 2, 1) := by decide +kernel
theorem dX3_meanCopies_9 : decode cX3_meanCopies 9 = .ok (.iload_n 2, 1) := by decide +kernel
theorem dX3_meanCopies_10 : decode cX3_meanCopies 10 = .ok (.aload_n 0, 1) := by decide +kernel
theorem dX3_meanCopies_11 : decode cX3_meanCopies 11 = .ok (.getfield 171, 3) := by decide +kernel
theorem dX3_meanCopies_14 : decode cX3_meanCopies 14 = .ok (.if_icmp .ge 23, 3) := by decide +kernel
theorem dX3_meanCopies_17 : decode cX3_meanCopies 17 = .ok (.iload_n 1, 1) := by decide +kernel
theorem dX3_meanCopies_18 : decode cX3_meanCopies 18 = .ok (.aload_n 0, 1) := by decide +kernel
theorem dX3_meanCopies_19 : decode cX3_meanCopies 19 = .ok (.getfield 38, 3) := by decide +kernel
theorem dX3_meanCopies_22 : decode cX3_meanCopies 22 = .ok (.aload_n 0, 1) := by decide +kernel
theorem dX3_meanCopies_23 : decode cX3_meanCopies 23 = .ok (.getfield 47, 3) := by decide +kernel
theorem dX3_meanCopies_26 : decode cX3_meanCopies 26 = .ok (.iload_n 2, 1) := by decide +kernel
theorem dX3_meanCopies_27 : decode cX3_meanCopies 27 = .ok (.iaload, 1) := by decide +kernel
theorem dX3_meanCopies_28 : decode cX3_meanCopies 28 = .ok (.iaload, 1) := by decide +kernel
theorem dX3_meanCopies_29 : decode cX3_meanCopies 29 = .ok (.iadd, 1) := by decide +kernel
theorem dX3_meanCopies_30 : decode cX3_meanCopies 30 = .ok (.istore_n 1, 1) := by decide +kernel
theorem dX3_meanCopies_31 : decode cX3_meanCopies 31 = .ok (.iinc 2 1, 3) := by decide +kernel
theorem dX3_meanCopies_34 : decode cX3_meanCopies 34 = .ok (.goto (-25), 3) := by decide +kernel
theorem dX3_meanCopies_37 : decode cX3_meanCopies 37 = .ok (.aload_n 0, 1) := by decide +kernel
theorem dX3_meanCopies_38 : decode cX3_meanCopies 38 = .ok (.getfield 171, 3) := by decide +kernel
theorem dX3_meanCopies_41 : decode cX3_meanCopies 41 = .ok (.ifCond .ne 12, 3) := by decide +kernel
theorem dX3_meanCopies_44 : decode cX3_meanCopies 44 = .ok (.aload_n 0, 1) := by decide +kernel
theorem dX3_meanCopies_45 : decode cX3_meanCopies 45 = .ok (.iconst 1, 1) := by decide +kernel
theorem dX3_meanCopies_46 : decode cX3_meanCopies 46 = .ok (.invokevirtual 123, 3) := by decide +kernel
theorem dX3_meanCopies_49 : decode cX3_meanCopies 49 = .ok (.i2d, 1) := by decide +kernel
theorem dX3_meanCopies_50 : decode cX3_meanCopies 50 = .ok (.goto 11, 3) := by decide +kernel
theorem dX3_meanCopies_53 : decode cX3_meanCopies 53 = .ok (.iload_n 1, 1) := by decide +kernel
theorem dX3_meanCopies_54 : decode cX3_meanCopies 54 = .ok (.i2d, 1) := by decide +kernel
theorem dX3_meanCopies_55 : decode cX3_meanCopies 55 = .ok (.aload_n 0, 1) := by decide +kernel
theorem dX3_meanCopies_56 : decode cX3_meanCopies 56 = .ok (.getfield 171, 3) := by decide +kernel
theorem dX3_meanCopies_59 : decode cX3_meanCopies 59 = .ok (.i2d, 1) := by decide +kernel
theorem dX3_meanCopies_60 : decode cX3_meanCopies 60 = .ok (.ddiv, 1) := by decide +kernel
theorem dX3_meanCopies_61 : decode cX3_meanCopies 61 = .ok (.dreturn, 1) := by decide +kernel
theorem dX3_usedShare_0 : decode cX3_usedShare 0 = .ok (.aload_n 0, 1) := by decide +kernel
theorem dX3_usedShare_1 : decode cX3_usedShare 1 = .ok (.iconst 0, 1) := by decide +kernel
theorem dX3_usedShare_2 : decode cX3_usedShare 2 = .ok (.putfield 96, 3) := by decide +kernel
theorem dX3_usedShare_5 : decode cX3_usedShare 5 = .ok (.iconst 0, 1) := by decide +kernel
theorem dX3_usedShare_6 : decode cX3_usedShare 6 = .ok (.istore_n 1, 1) := by decide +kernel
theorem dX3_usedShare_7 : decode cX3_usedShare 7 = .ok (.iconst 0, 1) := by decide +kernel
theorem dX3_usedShare_8 : decode cX3_usedShare 8 = .ok (.istore_n 2, 1) := by decide +kernel
theorem dX3_usedShare_9 : decode cX3_usedShare 9 = .ok (.iconst 0, 1) := by decide +kernel
theorem dX3_usedShare_10 : decode cX3_usedShare 10 = .ok (.istore_n 3, 1) := by decide +kernel
theorem dX3_usedShare_11 : decode cX3_usedShare 11 = .ok (.iload_n 3, 1) := by decide +kernel
theorem dX3_usedShare_12 : decode cX3_usedShare 12 = .ok (.aload_n 0, 1) := by decide +kernel
theorem dX3_usedShare_13 : decode cX3_usedShare 13 = .ok (.getfield 99, 3) := by decide +kernel
theorem dX3_usedShare_16 : decode cX3_usedShare 16 = .ok (.if_icmp .ge 56, 3) := by decide +kernel
theorem dX3_usedShare_19 : decode cX3_usedShare 19 = .ok (.iload_n 1, 1) := by decide +kernel
theorem dX3_usedShare_20 : decode cX3_usedShare 20 = .ok (.aload_n 0, 1) := by decide +kernel
theorem dX3_usedShare_21 : decode cX3_usedShare 21 = .ok (.getfield 13, 3) := by decide +kernel
theorem dX3_usedShare_24 : decode cX3_usedShare 24 = .ok (.iload_n 3, 1) := by decide +kernel
theorem dX3_usedShare_25 : decode cX3_usedShare 25 = .ok (.caload, 1) := by decide +kernel
theorem dX3_usedShare_26 : decode cX3_usedShare 26 = .ok (.bipush 102, 2) := by decide +kernel
theorem dX3_usedShare_28 : decode cX3_usedShare 28 = .ok (.if_icmp .ne 7, 3) := by decide +kernel
theorem dX3_usedShare_31 : decode cX3_usedShare 31 = .ok (.iconst 0, 1) := by decide +kernel
theorem dX3_usedShare_32 : decode cX3_usedShare 32 = .ok (.goto 8, 3) := by decide +kernel
theorem dX3_usedShare_35 : decode cX3_usedShare 35 = .ok (.aload_n 0, 1) := by decide +kernel
theorem dX3_usedShare_36 : decode cX3_usedShare 36 = .ok (.iload_n 3, 1) := by decide +kernel
theorem dX3_usedShare_37 : decode cX3_usedShare 37 = .ok (.invokevirtual 112, 3) := by decide +kernel
theorem dX3_usedShare_40 : decode cX3_usedShare 40 = .ok (.iadd, 1) := by decide +kernel
theorem dX3_usedShare_41 : decode cX3_usedShare 41 = .ok (.istore_n 1, 1) := by decide +kernel
theorem dX3_usedShare_42 : decode cX3_usedShare 42 = .ok (.iload_n 2, 1) := by decide +kernel
theorem dX3_usedShare_43 : decode cX3_usedShare 43 = .ok (.aload_n 0, 1) := by decide +kernel
theorem dX3_usedShare_44 : decode cX3_usedShare 44 = .ok (.getfield 13, 3) := by decide +kernel
theorem dX3_usedShare_47 : decode cX3_usedShare 47 = .ok (.iload_n 3, 1) := by decide +kernel
theorem dX3_usedShare_48 : decode cX3_usedShare 48 = .ok (.caload, 1) := by decide +kernel
theorem dX3_usedShare_49 : decode cX3_usedShare 49 = .ok (.bipush 102, 2) := by decide +kernel
theorem dX3_usedShare_51 : decode cX3_usedShare 51 = .ok (.if_icmp .ne 7, 3) := by decide +kernel
theorem dX3_usedShare_54 : decode cX3_usedShare 54 = .ok (.iconst 0, 1) := by decide +kernel
theorem dX3_usedShare_55 : decode cX3_usedShare 55 = .ok (.goto 9, 3) := by decide +kernel
theorem dX3_usedShare_58 : decode cX3_usedShare 58 = .ok (.aload_n 0, 1) := by decide +kernel
theorem dX3_usedShare_59 : decode cX3_usedShare 59 = .ok (.getfield 9, 3) := by decide +kernel
theorem dX3_usedShare_62 : decode cX3_usedShare 62 = .ok (.iload_n 3, 1) := by decide +kernel
theorem dX3_usedShare_63 : decode cX3_usedShare 63 = .ok (.iaload, 1) := by decide +kernel
theorem dX3_usedShare_64 : decode cX3_usedShare 64 = .ok (.iadd, 1) := by decide +kernel
theorem dX3_usedShare_65 : decode cX3_usedShare 65 = .ok (.istore_n 2, 1) := by decide +kernel
theorem dX3_usedShare_66 : decode cX3_usedShare 66 = .ok (.iinc 3 1, 3) := by decide +kernel
theorem dX3_usedShare_69 : decode cX3_usedShare 69 = .ok (.goto (-58), 3) := by decide +kernel
theorem dX3_usedShare_72 : decode cX3_usedShare 72 = .ok (.iload_n 2, 1) := by decide +kernel
theorem dX3_usedShare_73 : decode cX3_usedShare 73 = .ok (.ifCond .ne 12, 3) := by decide +kernel
theorem dX3_usedShare_76 : decode cX3_usedShare 76 = .ok (.aload_n 0, 1) := by decide +kernel
theorem dX3_usedShare_77 : decode cX3_usedShare 77 = .ok (.iconst 1, 1) := by decide +kernel
theorem dX3_usedShare_78 : decode cX3_usedShare 78 = .ok (.invokevirtual 123, 3) := by decide +kernel
theorem dX3_usedShare_81 : decode cX3_usedShare 81 = .ok (.i2f, 1) := by decide +kernel
theorem dX3_usedShare_82 : decode cX3_usedShare 82 = .ok (.goto 8, 3) := by decide +kernel
theorem dX3_usedShare_85 : decode cX3_usedShare 85 = .ok (.iload_n 1, 1) := by decide +kernel
theorem dX3_usedShare_86 : decode cX3_usedShare 86 = .ok (.i2f, 1) := by decide +kernel
theorem dX3_usedShare_87 : decode cX3_usedShare 87 = .ok (.iload_n 2, 1) := by decide +kernel
theorem dX3_usedShare_88 : decode cX3_usedShare 88 = .ok (.i2f, 1) := by decide +kernel
theorem dX3_usedShare_89 : decode cX3_usedShare 89 = .ok (.fdiv, 1) := by decide +kernel
theorem dX3_usedShare_90 : decode cX3_usedShare 90 = .ok (.freturn, 1) := by decide +kernel
theorem dX3_isConsistent_0 : decode cX3_isConsistent 0 = .ok (.aload_n 0, 1) := by decide +kernel
theorem dX3_isConsistent_1 : decode cX3_isConsistent 1 = .ok (.iconst 0, 1) := by decide +kernel
theorem dX3_isConsistent_2 : decode cX3_isConsistent 2 = .ok (.putfield 96, 3) := by decide +kernel
theorem dX3_isConsistent_5 : decode cX3_isConsistent 5 = .ok (.iconst 1, 1) := by decide +kernel
theorem dX3_isConsistent_6 : decode cX3_isConsistent 6 = .ok (.ireturn, 1) := by decide +kernel
theorem dX3_writeDisk_0 : decode cX3_writeDisk 0 = .ok (.aload_n 0, 1) := by decide +kernel
theorem dX3_writeDisk_1 : decode cX3_writeDisk 1 = .ok (.iload_n 1, 1) := by decide +kernel
theorem dX3_writeDisk_2 : decode cX3_writeDisk 2 = .ok (.invokevirtual 130, 3) := by decide +kernel
theorem dX3_writeDisk_5 : decode cX3_writeDisk 5 = .ok (.ifCond .eq 5, 3) := by decide +kernel
theorem dX3_writeDisk_8 : decode cX3_writeDisk 8 = .ok (.iconst 0, 1) := by decide +kernel
theorem dX3_writeDisk_9 : decode cX3_writeDisk 9 = .ok (.ireturn, 1) := by decide +kernel
theorem dX3_writeDisk_10 : decode cX3_writeDisk 10 = .ok (.new 227, 3) := by decide +kernel
theorem dX3_writeDisk_13 : decode cX3_writeDisk 13 = .ok (.dup, 1) := by decide +kernel
theorem dX3_writeDisk_14 : decode cX3_writeDisk 14 = .ok (.invokespecial 229, 3) := by decide +kernel
theorem dX3_writeDisk_17 : decode cX3_writeDisk 17 = .ok (.astore_n 2, 1) := by decide +kernel
theorem dX3_writeDisk_18 : decode cX3_writeDisk 18 = .ok (.aload_n 2, 1) := by decide +kernel
theorem dX3_writeDisk_19 : decode cX3_writeDisk 19 = .ok (.aload_n 0, 1) := by decide +kernel
theorem dX3_writeDisk_20 : decode cX3_writeDisk 20 = .ok (.getfield 13, 3) := by decide +kernel
theorem dX3_writeDisk_23 : decode cX3_writeDisk 23 = .ok (.iload_n 1, 1) := by decide +kernel
theorem dX3_writeDisk_24 : decode cX3_writeDisk 24 = .ok (.caload, 1) := by decide +kernel
theorem dX3_writeDisk_25 : decode cX3_writeDisk 25 = .ok (.invokevirtual 230, 3) := by decide +kernel
theorem dX3_writeDisk_28 : decode cX3_writeDisk 28 = .ok (.pop, 1) := by decide +kernel
theorem dX3_writeDisk_29 : decode cX3_writeDisk 29 = .ok (.bipush 32, 2) := by decide +kernel
theorem dX3_writeDisk_31 : decode cX3_writeDisk 31 = .ok (.iload_n 1, 1) := by decide +kernel
theorem dX3_writeDisk_32 : decode cX3_writeDisk 32 = .ok (.imul, 1) := by decide +kernel
theorem dX3_writeDisk_33 : decode cX3_writeDisk 33 = .ok (.istore_n 3, 1) := by decide +kernel
theorem dX3_writeDisk_34 : decode cX3_writeDisk 34 = .ok (.iload_n 3, 1) := by decide +kernel
theorem dX3_writeDisk_35 : decode cX3_writeDisk 35 = .ok (.bipush 32, 2) := by decide +kernel
theorem dX3_writeDisk_37 : decode cX3_writeDisk 37 = .ok (.iload_n 1, 1) := by decide +kernel
theorem dX3_writeDisk_38 : decode cX3_writeDisk 38 = .ok (.imul, 1) := by decide +kernel
theorem dX3_writeDisk_39 : decode cX3_writeDisk 39 = .ok (.aload_n 0, 1) := by decide +kernel
theorem dX3_writeDisk_40 : decode cX3_writeDisk 40 = .ok (.getfield 9, 3) := by decide +kernel
theorem dX3_writeDisk_43 : decode cX3_writeDisk 43 = .ok (.iload_n 1, 1) := by decide +kernel
theorem dX3_writeDisk_44 : decode cX3_writeDisk 44 = .ok (.iaload, 1) := by decide +kernel
theorem dX3_writeDisk_45 : decode cX3_writeDisk 45 = .ok (.iadd, 1) := by decide +kernel
theorem dX3_writeDisk_46 : decode cX3_writeDisk 46 = .ok (.if_icmp .ge 73, 3) := by decide +kernel
theorem dX3_writeDisk_49 : decode cX3_writeDisk 49 = .ok (.aload_n 0, 1) := by decide +kernel
theorem dX3_writeDisk_50 : decode cX3_writeDisk 50 = .ok (.getfield 17, 3) := by decide +kernel
theorem dX3_writeDisk_53 : decode cX3_writeDisk 53 = .ok (.iload_n 3, 1) := by decide +kernel
theorem dX3_writeDisk_54 : decode cX3_writeDisk 54 = .ok (.iaload, 1) := by decide +kernel
theorem dX3_writeDisk_55 : decode cX3_writeDisk 55 = .ok (.ifCond .ge 6, 3) := by decide +kernel
theorem dX3_writeDisk_58 : decode cX3_writeDisk 58 = .ok (.goto 55, 3) := by decide +kernel
theorem dX3_writeDisk_61 : decode cX3_writeDisk 61 = .ok (.aload_n 2, 1) := by decide +kernel
theorem dX3_writeDisk_62 : decode cX3_writeDisk 62 = .ok (.bipush 32, 2) := by decide +kernel
theorem dX3_writeDisk_64 : decode cX3_writeDisk 64 = .ok (.invokevirtual 230, 3) := by decide +kernel
theorem dX3_writeDisk_67 : decode cX3_writeDisk 67 = .ok (.aload_n 0, 1) := by decide +kernel
theorem dX3_writeDisk_68 : decode cX3_writeDisk 68 = .ok (.getfield 17, 3) := by decide +kernel
theorem dX3_writeDisk_71 : decode cX3_writeDisk 71 = .ok (.iload_n 3, 1) := by decide +kernel
theorem dX3_writeDisk_72 : decode cX3_writeDisk 72 = .ok (.iaload, 1) := by decide +kernel
theorem dX3_writeDisk_73 : decode cX3_writeDisk 73 = .ok (.bipush 100, 2) := by decide +kernel
theorem dX3_writeDisk_75 : decode cX3_writeDisk 75 = .ok (.idiv, 1) := by decide +kernel
theorem dX3_writeDisk_76 : decode cX3_writeDisk 76 = .ok (.invokevirtual 234, 3) := by decide +kernel
theorem dX3_writeDisk_79 : decode cX3_writeDisk 79 = .ok (.bipush 46, 2) := by decide +kernel
theorem dX3_writeDisk_81 : decode cX3_writeDisk 81 = .ok (.invokevirtual 230, 3) := by decide +kernel
theorem dX3_writeDisk_84 : decode cX3_writeDisk 84 = .ok (.aload_n 0, 1) := by decide +kernel
theorem dX3_writeDisk_85 : decode cX3_writeDisk 85 = .ok (.getfield 17, 3) := by decide +kernel
theorem dX3_writeDisk_88 : decode cX3_writeDisk 88 = .ok (.iload_n 3, 1) := by decide +kernel
theorem dX3_writeDisk_89 : decode cX3_writeDisk 89 = .ok (.iaload, 1) := by decide +kernel
theorem dX3_writeDisk_90 : decode cX3_writeDisk 90 = .ok (.bipush 100, 2) := by decide +kernel
theorem dX3_writeDisk_92 : decode cX3_writeDisk 92 = .ok (.irem, 1) := by decide +kernel
theorem dX3_writeDisk_93 : decode cX3_writeDisk 93 = .ok (.invokevirtual 234, 3) := by decide +kernel
theorem dX3_writeDisk_96 : decode cX3_writeDisk 96 = .ok (.pop, 1) := by decide +kernel
theorem dX3_writeDisk_97 : decode cX3_writeDisk 97 = .ok (.aload_n 0, 1) := by decide +kernel
theorem dX3_writeDisk_98 : decode cX3_writeDisk 98 = .ok (.getfield 23, 3) := by decide +kernel
theorem dX3_writeDisk_101 : decode cX3_writeDisk 101 = .ok (.iload_n 3, 1) := by decide +kernel
theorem dX3_writeDisk_102 : decode cX3_writeDisk 102 = .ok (.baload, 1) := by decide +kernel
theorem dX3_writeDisk_103 : decode cX3_writeDisk 103 = .ok (.ifCond .eq 10, 3) := by decide +kernel
theorem dX3_writeDisk_106 : decode cX3_writeDisk 106 = .ok (.aload_n 2, 1) := by decide +kernel
theorem dX3_writeDisk_107 : decode cX3_writeDisk 107 = .ok (.bipush 33, 2) := by decide +kernel
theorem dX3_writeDisk_109 : decode cX3_writeDisk 109 = .ok (.invokevirtual 230, 3) := by decide +kernel
theorem dX3_writeDisk_112 : decode cX3_writeDisk 112 = .ok (.pop, 1) := by decide +kernel
theorem dX3_writeDisk_113 : decode cX3_writeDisk 113 = .ok (.iinc 3 1, 3) := by decide +kernel
theorem dX3_writeDisk_116 : decode cX3_writeDisk 116 = .ok (.goto (-82), 3) := by decide +kernel
theorem dX3_writeDisk_119 : decode cX3_writeDisk 119 = .ok (.aload_n 0, 1) := by decide +kernel
theorem dX3_writeDisk_120 : decode cX3_writeDisk 120 = .ok (.aload_n 2, 1) := by decide +kernel
theorem dX3_writeDisk_121 : decode cX3_writeDisk 121 = .ok (.invokevirtual 237, 3) := by decide +kernel
theorem dX3_writeDisk_124 : decode cX3_writeDisk 124 = .ok (.putfield 92, 3) := by decide +kernel
theorem dX3_writeDisk_127 : decode cX3_writeDisk 127 = .ok (.aload_n 0, 1) := by decide +kernel
theorem dX3_writeDisk_128 : decode cX3_writeDisk 128 = .ok (.getfield 92, 3) := by decide +kernel
theorem dX3_writeDisk_131 : decode cX3_writeDisk 131 = .ok (.invokevirtual 241, 3) := by decide +kernel
theorem dX3_writeDisk_134 : decode cX3_writeDisk 134 = .ok (.ireturn, 1) := by decide +kernel
theorem dX3_lineAt_0 : decode cX3_lineAt 0 = .ok (.aload_n 0, 1) := by decide +kernel
theorem dX3_lineAt_1 : decode cX3_lineAt 1 = .ok (.iconst 0, 1) := by decide +kernel
theorem dX3_lineAt_2 : decode cX3_lineAt 2 = .ok (.putfield 96, 3) := by decide +kernel
theorem dX3_lineAt_5 : decode cX3_lineAt 5 = .ok (.iload_n 1, 1) := by decide +kernel
theorem dX3_lineAt_6 : decode cX3_lineAt 6 = .ok (.iconst 0, 1) := by decide +kernel
theorem dX3_lineAt_7 : decode cX3_lineAt 7 = .ok (.aload_n 0, 1) := by decide +kernel
theorem dX3_lineAt_8 : decode cX3_lineAt 8 = .ok (.getfield 92, 3) := by decide +kernel
theorem dX3_lineAt_11 : decode cX3_lineAt 11 = .ok (.invokevirtual 241, 3) := by decide +kernel
theorem dX3_lineAt_14 : decode cX3_lineAt 14 = .ok (.iconst 1, 1) := by decide +kernel
theorem dX3_lineAt_15 : decode cX3_lineAt 15 = .ok (.isub, 1) := by decide +kernel
theorem dX3_lineAt_16 : decode cX3_lineAt 16 = .ok (.invokestatic 102, 3) := by decide +kernel
theorem dX3_lineAt_19 : decode cX3_lineAt 19 = .ok (.ifCond .eq 14, 3) := by decide +kernel
theorem dX3_lineAt_22 : decode cX3_lineAt 22 = .ok (.aload_n 0, 1) := by decide +kernel
theorem dX3_lineAt_23 : decode cX3_lineAt 23 = .ok (.getfield 92, 3) := by decide +kernel
theorem dX3_lineAt_26 : decode cX3_lineAt 26 = .ok (.iload_n 1, 1) := by decide +kernel
theorem dX3_lineAt_27 : decode cX3_lineAt 27 = .ok (.invokevirtual 246, 3) := by decide +kernel
theorem dX3_lineAt_30 : decode cX3_lineAt 30 = .ok (.goto 9, 3) := by decide +kernel
theorem dX3_lineAt_33 : decode cX3_lineAt 33 = .ok (.aload_n 0, 1) := by decide +kernel
theorem dX3_lineAt_34 : decode cX3_lineAt 34 = .ok (.iconst 1, 1) := by decide +kernel
theorem dX3_lineAt_35 : decode cX3_lineAt 35 = .ok (.invokevirtual 123, 3) := by decide +kernel
theorem dX3_lineAt_38 : decode cX3_lineAt 38 = .ok (.i2c, 1) := by decide +kernel
theorem dX3_lineAt_39 : decode cX3_lineAt 39 = .ok (.ireturn, 1) := by decide +kernel
