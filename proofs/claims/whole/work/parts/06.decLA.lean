/-! ===== each instruction, decoded ===== -/
theorem d_LA_arrive_0 : decode b_LA_arrive 0 = .ok (.aload_n 0, 1) := by decide +kernel
theorem d_LA_arrive_1 : decode b_LA_arrive 1 = .ok (.iload_n 1, 1) := by decide +kernel
theorem d_LA_arrive_2 : decode b_LA_arrive 2 = .ok (.iload_n 2, 1) := by decide +kernel
theorem d_LA_arrive_3 : decode b_LA_arrive 3 = .ok (.invokevirtual 29, 3) := by decide +kernel
theorem d_LA_arrive_6 : decode b_LA_arrive 6 = .ok (.goto 12, 3) := by decide +kernel
theorem d_LA_arrive_9 : decode b_LA_arrive 9 = .ok (.astore_n 3, 1) := by decide +kernel
theorem d_LA_arrive_10 : decode b_LA_arrive 10 = .ok (.iconst 1, 1) := by decide +kernel
theorem d_LA_arrive_11 : decode b_LA_arrive 11 = .ok (.ireturn, 1) := by decide +kernel
theorem d_LA_arrive_12 : decode b_LA_arrive 12 = .ok (.astore_n 3, 1) := by decide +kernel
theorem d_LA_arrive_13 : decode b_LA_arrive 13 = .ok (.iconst 2, 1) := by decide +kernel
theorem d_LA_arrive_14 : decode b_LA_arrive 14 = .ok (.ireturn, 1) := by decide +kernel
theorem d_LA_arrive_15 : decode b_LA_arrive 15 = .ok (.astore_n 3, 1) := by decide +kernel
theorem d_LA_arrive_16 : decode b_LA_arrive 16 = .ok (.iconst 3, 1) := by decide +kernel
theorem d_LA_arrive_17 : decode b_LA_arrive 17 = .ok (.ireturn, 1) := by decide +kernel
theorem d_LA_arrive_18 : decode b_LA_arrive 18 = .ok (.iconst 0, 1) := by decide +kernel
theorem d_LA_arrive_19 : decode b_LA_arrive 19 = .ok (.ireturn, 1) := by decide +kernel
theorem d_LA_back_0 : decode b_LA_back 0 = .ok (.aload_n 2, 1) := by decide +kernel
theorem d_LA_back_1 : decode b_LA_back 1 = .ok (.iconst 0, 1) := by decide +kernel
theorem d_LA_back_2 : decode b_LA_back 2 = .ok (.aload_n 0, 1) := by decide +kernel
theorem d_LA_back_3 : decode b_LA_back 3 = .ok (.iload_n 1, 1) := by decide +kernel
theorem d_LA_back_4 : decode b_LA_back 4 = .ok (.invokevirtual 58, 3) := by decide +kernel
theorem d_LA_back_7 : decode b_LA_back 7 = .ok (.i2l, 1) := by decide +kernel
theorem d_LA_back_8 : decode b_LA_back 8 = .ok (.lastore, 1) := by decide +kernel
theorem d_LA_back_9 : decode b_LA_back 9 = .ok (.goto 9, 3) := by decide +kernel
theorem d_LA_back_12 : decode b_LA_back 12 = .ok (.astore_n 3, 1) := by decide +kernel
theorem d_LA_back_13 : decode b_LA_back 13 = .ok (.iconst 1, 1) := by decide +kernel
theorem d_LA_back_14 : decode b_LA_back 14 = .ok (.ireturn, 1) := by decide +kernel
theorem d_LA_back_15 : decode b_LA_back 15 = .ok (.astore_n 3, 1) := by decide +kernel
theorem d_LA_back_16 : decode b_LA_back 16 = .ok (.iconst 2, 1) := by decide +kernel
theorem d_LA_back_17 : decode b_LA_back 17 = .ok (.ireturn, 1) := by decide +kernel
theorem d_LA_back_18 : decode b_LA_back 18 = .ok (.iconst 0, 1) := by decide +kernel
theorem d_LA_back_19 : decode b_LA_back 19 = .ok (.ireturn, 1) := by decide +kernel
theorem d_LA_check_0 : decode b_LA_check 0 = .ok (.aload 4, 2) := by decide +kernel
theorem d_LA_check_2 : decode b_LA_check 2 = .ok (.iconst 0, 1) := by decide +kernel
theorem d_LA_check_3 : decode b_LA_check 3 = .ok (.aload_n 0, 1) := by decide +kernel
theorem d_LA_check_4 : decode b_LA_check 4 = .ok (.iload_n 1, 1) := by decide +kernel
theorem d_LA_check_5 : decode b_LA_check 5 = .ok (.iload_n 2, 1) := by decide +kernel
theorem d_LA_check_6 : decode b_LA_check 6 = .ok (.iload_n 3, 1) := by decide +kernel
theorem d_LA_check_7 : decode b_LA_check 7 = .ok (.invokevirtual 41, 3) := by decide +kernel
theorem d_LA_check_10 : decode b_LA_check 10 = .ok (.i2l, 1) := by decide +kernel
theorem d_LA_check_11 : decode b_LA_check 11 = .ok (.lastore, 1) := by decide +kernel
theorem d_LA_check_12 : decode b_LA_check 12 = .ok (.goto 15, 3) := by decide +kernel
theorem d_LA_check_15 : decode b_LA_check 15 = .ok (.astore 5, 2) := by decide +kernel
theorem d_LA_check_17 : decode b_LA_check 17 = .ok (.iconst 1, 1) := by decide +kernel
theorem d_LA_check_18 : decode b_LA_check 18 = .ok (.ireturn, 1) := by decide +kernel
theorem d_LA_check_19 : decode b_LA_check 19 = .ok (.astore 5, 2) := by decide +kernel
theorem d_LA_check_21 : decode b_LA_check 21 = .ok (.iconst 2, 1) := by decide +kernel
theorem d_LA_check_22 : decode b_LA_check 22 = .ok (.ireturn, 1) := by decide +kernel
theorem d_LA_check_23 : decode b_LA_check 23 = .ok (.astore 5, 2) := by decide +kernel
theorem d_LA_check_25 : decode b_LA_check 25 = .ok (.iconst 3, 1) := by decide +kernel
theorem d_LA_check_26 : decode b_LA_check 26 = .ok (.ireturn, 1) := by decide +kernel
theorem d_LA_check_27 : decode b_LA_check 27 = .ok (.iconst 0, 1) := by decide +kernel
theorem d_LA_check_28 : decode b_LA_check 28 = .ok (.ireturn, 1) := by decide +kernel
theorem d_LA_comes_0 : decode b_LA_comes 0 = .ok (.aload 4, 2) := by decide +kernel
theorem d_LA_comes_2 : decode b_LA_comes 2 = .ok (.iconst 0, 1) := by decide +kernel
theorem d_LA_comes_3 : decode b_LA_comes 3 = .ok (.aload_n 0, 1) := by decide +kernel
theorem d_LA_comes_4 : decode b_LA_comes 4 = .ok (.iload_n 1, 1) := by decide +kernel
theorem d_LA_comes_5 : decode b_LA_comes 5 = .ok (.iload_n 2, 1) := by decide +kernel
theorem d_LA_comes_6 : decode b_LA_comes 6 = .ok (.iload_n 3, 1) := by decide +kernel
theorem d_LA_comes_7 : decode b_LA_comes 7 = .ok (.invokevirtual 21, 3) := by decide +kernel
theorem d_LA_comes_10 : decode b_LA_comes 10 = .ok (.i2l, 1) := by decide +kernel
theorem d_LA_comes_11 : decode b_LA_comes 11 = .ok (.lastore, 1) := by decide +kernel
theorem d_LA_comes_12 : decode b_LA_comes 12 = .ok (.goto 19, 3) := by decide +kernel
theorem d_LA_comes_15 : decode b_LA_comes 15 = .ok (.astore 5, 2) := by decide +kernel
theorem d_LA_comes_17 : decode b_LA_comes 17 = .ok (.iconst 1, 1) := by decide +kernel
theorem d_LA_comes_18 : decode b_LA_comes 18 = .ok (.ireturn, 1) := by decide +kernel
theorem d_LA_comes_19 : decode b_LA_comes 19 = .ok (.astore 5, 2) := by decide +kernel
theorem d_LA_comes_21 : decode b_LA_comes 21 = .ok (.iconst 2, 1) := by decide +kernel
theorem d_LA_comes_22 : decode b_LA_comes 22 = .ok (.ireturn, 1) := by decide +kernel
theorem d_LA_comes_23 : decode b_LA_comes 23 = .ok (.astore 5, 2) := by decide +kernel
theorem d_LA_comes_25 : decode b_LA_comes 25 = .ok (.iconst 3, 1) := by decide +kernel
theorem d_LA_comes_26 : decode b_LA_comes 26 = .ok (.ireturn, 1) := by decide +kernel
theorem d_LA_comes_27 : decode b_LA_comes 27 = .ok (.astore 5, 2) := by decide +kernel
theorem d_LA_comes_29 : decode b_LA_comes 29 = .ok (.iconst 4, 1) := by decide +kernel
theorem d_LA_comes_30 : decode b_LA_comes 30 = .ok (.ireturn, 1) := by decide +kernel
theorem d_LA_comes_31 : decode b_LA_comes 31 = .ok (.iconst 0, 1) := by decide +kernel
theorem d_LA_comes_32 : decode b_LA_comes 32 = .ok (.ireturn, 1) := by decide +kernel
theorem d_LA_customer_0 : decode b_LA_customer 0 = .ok (.aload_n 3, 1) := by decide +kernel
theorem d_LA_customer_1 : decode b_LA_customer 1 = .ok (.iconst 0, 1) := by decide +kernel
theorem d_LA_customer_2 : decode b_LA_customer 2 = .ok (.aload_n 0, 1) := by decide +kernel
theorem d_LA_customer_3 : decode b_LA_customer 3 = .ok (.iload_n 1, 1) := by decide +kernel
theorem d_LA_customer_4 : decode b_LA_customer 4 = .ok (.iload_n 2, 1) := by decide +kernel
theorem d_LA_customer_5 : decode b_LA_customer 5 = .ok (.invokevirtual 74, 3) := by decide +kernel
theorem d_LA_customer_8 : decode b_LA_customer 8 = .ok (.i2l, 1) := by decide +kernel
theorem d_LA_customer_9 : decode b_LA_customer 9 = .ok (.lastore, 1) := by decide +kernel
theorem d_LA_customer_10 : decode b_LA_customer 10 = .ok (.goto 7, 3) := by decide +kernel
theorem d_LA_customer_13 : decode b_LA_customer 13 = .ok (.astore 4, 2) := by decide +kernel
theorem d_LA_customer_15 : decode b_LA_customer 15 = .ok (.iconst 1, 1) := by decide +kernel
theorem d_LA_customer_16 : decode b_LA_customer 16 = .ok (.ireturn, 1) := by decide +kernel
theorem d_LA_customer_17 : decode b_LA_customer 17 = .ok (.iconst 0, 1) := by decide +kernel
theorem d_LA_customer_18 : decode b_LA_customer 18 = .ok (.ireturn, 1) := by decide +kernel
theorem d_LA_day_0 : decode b_LA_day 0 = .ok (.aload_n 0, 1) := by decide +kernel
theorem d_LA_day_1 : decode b_LA_day 1 = .ok (.iload_n 1, 1) := by decide +kernel
theorem d_LA_day_2 : decode b_LA_day 2 = .ok (.invokevirtual 7, 3) := by decide +kernel
theorem d_LA_day_5 : decode b_LA_day 5 = .ok (.goto 6, 3) := by decide +kernel
theorem d_LA_day_8 : decode b_LA_day 8 = .ok (.astore_n 2, 1) := by decide +kernel
theorem d_LA_day_9 : decode b_LA_day 9 = .ok (.iconst 1, 1) := by decide +kernel
theorem d_LA_day_10 : decode b_LA_day 10 = .ok (.ireturn, 1) := by decide +kernel
theorem d_LA_day_11 : decode b_LA_day 11 = .ok (.iconst 0, 1) := by decide +kernel
theorem d_LA_day_12 : decode b_LA_day 12 = .ok (.ireturn, 1) := by decide +kernel
theorem d_LA_due_0 : decode b_LA_due 0 = .ok (.aload_n 2, 1) := by decide +kernel
theorem d_LA_due_1 : decode b_LA_due 1 = .ok (.iconst 0, 1) := by decide +kernel
theorem d_LA_due_2 : decode b_LA_due 2 = .ok (.aload_n 0, 1) := by decide +kernel
theorem d_LA_due_3 : decode b_LA_due 3 = .ok (.iload_n 1, 1) := by decide +kernel
theorem d_LA_due_4 : decode b_LA_due 4 = .ok (.invokevirtual 68, 3) := by decide +kernel
theorem d_LA_due_7 : decode b_LA_due 7 = .ok (.i2l, 1) := by decide +kernel
theorem d_LA_due_8 : decode b_LA_due 8 = .ok (.lastore, 1) := by decide +kernel
theorem d_LA_due_9 : decode b_LA_due 9 = .ok (.goto 6, 3) := by decide +kernel
theorem d_LA_due_12 : decode b_LA_due 12 = .ok (.astore_n 3, 1) := by decide +kernel
theorem d_LA_due_13 : decode b_LA_due 13 = .ok (.iconst 1, 1) := by decide +kernel
theorem d_LA_due_14 : decode b_LA_due 14 = .ok (.ireturn, 1) := by decide +kernel
theorem d_LA_due_15 : decode b_LA_due 15 = .ok (.iconst 0, 1) := by decide +kernel
theorem d_LA_due_16 : decode b_LA_due 16 = .ok (.ireturn, 1) := by decide +kernel
theorem d_LA_grade_0 : decode b_LA_grade 0 = .ok (.aload_n 3, 1) := by decide +kernel
theorem d_LA_grade_1 : decode b_LA_grade 1 = .ok (.iconst 0, 1) := by decide +kernel
theorem d_LA_grade_2 : decode b_LA_grade 2 = .ok (.aload_n 0, 1) := by decide +kernel
theorem d_LA_grade_3 : decode b_LA_grade 3 = .ok (.iload_n 1, 1) := by decide +kernel
theorem d_LA_grade_4 : decode b_LA_grade 4 = .ok (.iload_n 2, 1) := by decide +kernel
theorem d_LA_grade_5 : decode b_LA_grade 5 = .ok (.invokevirtual 44, 3) := by decide +kernel
theorem d_LA_grade_8 : decode b_LA_grade 8 = .ok (.i2l, 1) := by decide +kernel
theorem d_LA_grade_9 : decode b_LA_grade 9 = .ok (.lastore, 1) := by decide +kernel
theorem d_LA_grade_10 : decode b_LA_grade 10 = .ok (.goto 15, 3) := by decide +kernel
theorem d_LA_grade_13 : decode b_LA_grade 13 = .ok (.astore 4, 2) := by decide +kernel
theorem d_LA_grade_15 : decode b_LA_grade 15 = .ok (.iconst 1, 1) := by decide +kernel
theorem d_LA_grade_16 : decode b_LA_grade 16 = .ok (.ireturn, 1) := by decide +kernel
theorem d_LA_grade_17 : decode b_LA_grade 17 = .ok (.astore 4, 2) := by decide +kernel
theorem d_LA_grade_19 : decode b_LA_grade 19 = .ok (.iconst 2, 1) := by decide +kernel
theorem d_LA_grade_20 : decode b_LA_grade 20 = .ok (.ireturn, 1) := by decide +kernel
theorem d_LA_grade_21 : decode b_LA_grade 21 = .ok (.astore 4, 2) := by decide +kernel
theorem d_LA_grade_23 : decode b_LA_grade 23 = .ok (.iconst 3, 1) := by decide +kernel
theorem d_LA_grade_24 : decode b_LA_grade 24 = .ok (.ireturn, 1) := by decide +kernel
theorem d_LA_grade_25 : decode b_LA_grade 25 = .ok (.iconst 0, 1) := by decide +kernel
theorem d_LA_grade_26 : decode b_LA_grade 26 = .ok (.ireturn, 1) := by decide +kernel
theorem d_LA_law_0 : decode code 0 = .ok (.new 8, 3) := by decide +kernel
theorem d_LA_law_3 : decode code 3 = .ok (.dup, 1) := by decide +kernel
theorem d_LA_law_4 : decode code 4 = .ok (.invokespecial 80, 3) := by decide +kernel
theorem d_LA_law_7 : decode code 7 = .ok (.astore_n 1, 1) := by decide +kernel
theorem d_LA_law_8 : decode code 8 = .ok (.new 81, 3) := by decide +kernel
theorem d_LA_law_11 : decode code 11 = .ok (.dup, 1) := by decide +kernel
theorem d_LA_law_12 : decode code 12 = .ok (.invokespecial 83, 3) := by decide +kernel
theorem d_LA_law_15 : decode code 15 = .ok (.astore_n 2, 1) := by decide +kernel
theorem d_LA_law_16 : decode code 16 = .ok (.iconst 1, 1) := by decide +kernel
theorem d_LA_law_17 : decode code 17 = .ok (.newarray .long, 2) := by decide +kernel
theorem d_LA_law_19 : decode code 19 = .ok (.astore_n 3, 1) := by decide +kernel
theorem d_LA_law_20 : decode code 20 = .ok (.iconst 0, 1) := by decide +kernel
theorem d_LA_law_21 : decode code 21 = .ok (.istore 4, 2) := by decide +kernel
theorem d_LA_law_23 : decode code 23 = .ok (.iload 4, 2) := by decide +kernel
theorem d_LA_law_25 : decode code 25 = .ok (.aload_n 0, 1) := by decide +kernel
theorem d_LA_law_26 : decode code 26 = .ok (.arraylength, 1) := by decide +kernel
theorem d_LA_law_27 : decode code 27 = .ok (.iconst 4, 1) := by decide +kernel
theorem d_LA_law_28 : decode code 28 = .ok (.isub, 1) := by decide +kernel
theorem d_LA_law_29 : decode code 29 = .ok (.if_icmp .gt 1325, 3) := by decide +kernel
theorem d_LA_law_32 : decode code 32 = .ok (.aload_n 0, 1) := by decide +kernel
theorem d_LA_law_33 : decode code 33 = .ok (.iload 4, 2) := by decide +kernel
theorem d_LA_law_35 : decode code 35 = .ok (.iaload, 1) := by decide +kernel
theorem d_LA_law_36 : decode code 36 = .ok (.bipush 31, 2) := by decide +kernel
theorem d_LA_law_38 : decode code 38 = .ok (.iand, 1) := by decide +kernel
theorem d_LA_law_39 : decode code 39 = .ok (.tableswitch 1309 0 18 #[89, 125, 205, 301, 349, 417, 481, 577, 645, 693, 777, 852, 908, 956, 1024, 1080, 1148, 1216, 1284], 89) := by decide +kernel
theorem d_LA_law_128 : decode code 128 = .ok (.aload_n 1, 1) := by decide +kernel
theorem d_LA_law_129 : decode code 129 = .ok (.aload_n 0, 1) := by decide +kernel
theorem d_LA_law_130 : decode code 130 = .ok (.iload 4, 2) := by decide +kernel
theorem d_LA_law_132 : decode code 132 = .ok (.iconst 1, 1) := by decide +kernel
theorem d_LA_law_133 : decode code 133 = .ok (.iadd, 1) := by decide +kernel
theorem d_LA_law_134 : decode code 134 = .ok (.iaload, 1) := by decide +kernel
theorem d_LA_law_135 : decode code 135 = .ok (.invokestatic 84, 3) := by decide +kernel
theorem d_LA_law_138 : decode code 138 = .ok (.istore 5, 2) := by decide +kernel
theorem d_LA_law_140 : decode code 140 = .ok (.aload_n 2, 1) := by decide +kernel
theorem d_LA_law_141 : decode code 141 = .ok (.aload_n 0, 1) := by decide +kernel
theorem d_LA_law_142 : decode code 142 = .ok (.iload 4, 2) := by decide +kernel
theorem d_LA_law_144 : decode code 144 = .ok (.iconst 1, 1) := by decide +kernel
theorem d_LA_law_145 : decode code 145 = .ok (.iadd, 1) := by decide +kernel
theorem d_LA_law_146 : decode code 146 = .ok (.iaload, 1) := by decide +kernel
theorem d_LA_law_147 : decode code 147 = .ok (.invokevirtual 89, 3) := by decide +kernel
theorem d_LA_law_150 : decode code 150 = .ok (.aload_n 2, 1) := by decide +kernel
theorem d_LA_law_151 : decode code 151 = .ok (.invokevirtual 90, 3) := by decide +kernel
theorem d_LA_law_154 : decode code 154 = .ok (.iload 5, 2) := by decide +kernel
theorem d_LA_law_156 : decode code 156 = .ok (.if_icmp .eq 5, 3) := by decide +kernel
theorem d_LA_law_159 : decode code 159 = .ok (.iconst 0, 1) := by decide +kernel
theorem d_LA_law_160 : decode code 160 = .ok (.ireturn, 1) := by decide +kernel
theorem d_LA_law_161 : decode code 161 = .ok (.goto 1187, 3) := by decide +kernel
theorem d_LA_law_164 : decode code 164 = .ok (.aload_n 1, 1) := by decide +kernel
theorem d_LA_law_165 : decode code 165 = .ok (.aload_n 0, 1) := by decide +kernel
theorem d_LA_law_166 : decode code 166 = .ok (.iload 4, 2) := by decide +kernel
theorem d_LA_law_168 : decode code 168 = .ok (.iconst 1, 1) := by decide +kernel
theorem d_LA_law_169 : decode code 169 = .ok (.iadd, 1) := by decide +kernel
theorem d_LA_law_170 : decode code 170 = .ok (.iaload, 1) := by decide +kernel
theorem d_LA_law_171 : decode code 171 = .ok (.aload_n 0, 1) := by decide +kernel
theorem d_LA_law_172 : decode code 172 = .ok (.iload 4, 2) := by decide +kernel
theorem d_LA_law_174 : decode code 174 = .ok (.iconst 2, 1) := by decide +kernel
theorem d_LA_law_175 : decode code 175 = .ok (.iadd, 1) := by decide +kernel
theorem d_LA_law_176 : decode code 176 = .ok (.iaload, 1) := by decide +kernel
theorem d_LA_law_177 : decode code 177 = .ok (.aload_n 0, 1) := by decide +kernel
theorem d_LA_law_178 : decode code 178 = .ok (.iload 4, 2) := by decide +kernel
theorem d_LA_law_180 : decode code 180 = .ok (.iconst 3, 1) := by decide +kernel
theorem d_LA_law_181 : decode code 181 = .ok (.iadd, 1) := by decide +kernel
theorem d_LA_law_182 : decode code 182 = .ok (.iaload, 1) := by decide +kernel
theorem d_LA_law_183 : decode code 183 = .ok (.aload_n 3, 1) := by decide +kernel
theorem d_LA_law_184 : decode code 184 = .ok (.invokestatic 94, 3) := by decide +kernel
theorem d_LA_law_187 : decode code 187 = .ok (.istore 5, 2) := by decide +kernel
theorem d_LA_law_189 : decode code 189 = .ok (.aload_n 2, 1) := by decide +kernel
theorem d_LA_law_190 : decode code 190 = .ok (.aload_n 0, 1) := by decide +kernel
theorem d_LA_law_191 : decode code 191 = .ok (.iload 4, 2) := by decide +kernel
theorem d_LA_law_193 : decode code 193 = .ok (.iconst 1, 1) := by decide +kernel
theorem d_LA_law_194 : decode code 194 = .ok (.iadd, 1) := by decide +kernel
theorem d_LA_law_195 : decode code 195 = .ok (.iaload, 1) := by decide +kernel
theorem d_LA_law_196 : decode code 196 = .ok (.aload_n 0, 1) := by decide +kernel
theorem d_LA_law_197 : decode code 197 = .ok (.iload 4, 2) := by decide +kernel
theorem d_LA_law_199 : decode code 199 = .ok (.iconst 2, 1) := by decide +kernel
theorem d_LA_law_200 : decode code 200 = .ok (.iadd, 1) := by decide +kernel
theorem d_LA_law_201 : decode code 201 = .ok (.iaload, 1) := by decide +kernel
theorem d_LA_law_202 : decode code 202 = .ok (.aload_n 0, 1) := by decide +kernel
theorem d_LA_law_203 : decode code 203 = .ok (.iload 4, 2) := by decide +kernel
theorem d_LA_law_205 : decode code 205 = .ok (.iconst 3, 1) := by decide +kernel
theorem d_LA_law_206 : decode code 206 = .ok (.iadd, 1) := by decide +kernel
theorem d_LA_law_207 : decode code 207 = .ok (.iaload, 1) := by decide +kernel
theorem d_LA_law_208 : decode code 208 = .ok (.invokevirtual 97, 3) := by decide +kernel
theorem d_LA_law_211 : decode code 211 = .ok (.istore 6, 2) := by decide +kernel
theorem d_LA_law_213 : decode code 213 = .ok (.aload_n 2, 1) := by decide +kernel
theorem d_LA_law_214 : decode code 214 = .ok (.invokevirtual 90, 3) := by decide +kernel
theorem d_LA_law_217 : decode code 217 = .ok (.iload 5, 2) := by decide +kernel
theorem d_LA_law_219 : decode code 219 = .ok (.if_icmp .eq 5, 3) := by decide +kernel
theorem d_LA_law_222 : decode code 222 = .ok (.iconst 0, 1) := by decide +kernel
theorem d_LA_law_223 : decode code 223 = .ok (.ireturn, 1) := by decide +kernel
theorem d_LA_law_224 : decode code 224 = .ok (.iload 5, 2) := by decide +kernel
theorem d_LA_law_226 : decode code 226 = .ok (.ifCond .ne 15, 3) := by decide +kernel
theorem d_LA_law_229 : decode code 229 = .ok (.aload_n 3, 1) := by decide +kernel
theorem d_LA_law_230 : decode code 230 = .ok (.iconst 0, 1) := by decide +kernel
theorem d_LA_law_231 : decode code 231 = .ok (.laload, 1) := by decide +kernel
theorem d_LA_law_232 : decode code 232 = .ok (.iload 6, 2) := by decide +kernel
theorem d_LA_law_234 : decode code 234 = .ok (.i2l, 1) := by decide +kernel
theorem d_LA_law_235 : decode code 235 = .ok (.lcmp, 1) := by decide +kernel
theorem d_LA_law_236 : decode code 236 = .ok (.ifCond .eq 5, 3) := by decide +kernel
theorem d_LA_law_239 : decode code 239 = .ok (.iconst 0, 1) := by decide +kernel
theorem d_LA_law_240 : decode code 240 = .ok (.ireturn, 1) := by decide +kernel
theorem d_LA_law_241 : decode code 241 = .ok (.goto 1107, 3) := by decide +kernel
theorem d_LA_law_244 : decode code 244 = .ok (.aload_n 1, 1) := by decide +kernel
theorem d_LA_law_245 : decode code 245 = .ok (.aload_n 0, 1) := by decide +kernel
theorem d_LA_law_246 : decode code 246 = .ok (.iload 4, 2) := by decide +kernel
theorem d_LA_law_248 : decode code 248 = .ok (.iconst 1, 1) := by decide +kernel
theorem d_LA_law_249 : decode code 249 = .ok (.iadd, 1) := by decide +kernel
theorem d_LA_law_250 : decode code 250 = .ok (.iaload, 1) := by decide +kernel
theorem d_LA_law_251 : decode code 251 = .ok (.aload_n 0, 1) := by decide +kernel
theorem d_LA_law_252 : decode code 252 = .ok (.iload 4, 2) := by decide +kernel
theorem d_LA_law_254 : decode code 254 = .ok (.iconst 2, 1) := by decide +kernel
theorem d_LA_law_255 : decode code 255 = .ok (.iadd, 1) := by decide +kernel
theorem d_LA_law_256 : decode code 256 = .ok (.iaload, 1) := by decide +kernel
theorem d_LA_law_257 : decode code 257 = .ok (.aload_n 0, 1) := by decide +kernel
theorem d_LA_law_258 : decode code 258 = .ok (.iload 4, 2) := by decide +kernel
theorem d_LA_law_260 : decode code 260 = .ok (.iconst 3, 1) := by decide +kernel
theorem d_LA_law_261 : decode code 261 = .ok (.iadd, 1) := by decide +kernel
theorem d_LA_law_262 : decode code 262 = .ok (.iaload, 1) := by decide +kernel
theorem d_LA_law_263 : decode code 263 = .ok (.ifCond .eq 7, 3) := by decide +kernel
theorem d_LA_law_266 : decode code 266 = .ok (.iconst 1, 1) := by decide +kernel
theorem d_LA_law_267 : decode code 267 = .ok (.goto 4, 3) := by decide +kernel
theorem d_LA_law_270 : decode code 270 = .ok (.iconst 0, 1) := by decide +kernel
theorem d_LA_law_271 : decode code 271 = .ok (.aload_n 3, 1) := by decide +kernel
theorem d_LA_law_272 : decode code 272 = .ok (.invokestatic 98, 3) := by decide +kernel
theorem d_LA_law_275 : decode code 275 = .ok (.istore 5, 2) := by decide +kernel
theorem d_LA_law_277 : decode code 277 = .ok (.aload_n 2, 1) := by decide +kernel
theorem d_LA_law_278 : decode code 278 = .ok (.aload_n 0, 1) := by decide +kernel
theorem d_LA_law_279 : decode code 279 = .ok (.iload 4, 2) := by decide +kernel
theorem d_LA_law_281 : decode code 281 = .ok (.iconst 1, 1) := by decide +kernel
theorem d_LA_law_282 : decode code 282 = .ok (.iadd, 1) := by decide +kernel
theorem d_LA_law_283 : decode code 283 = .ok (.iaload, 1) := by decide +kernel
theorem d_LA_law_284 : decode code 284 = .ok (.aload_n 0, 1) := by decide +kernel
theorem d_LA_law_285 : decode code 285 = .ok (.iload 4, 2) := by decide +kernel
theorem d_LA_law_287 : decode code 287 = .ok (.iconst 2, 1) := by decide +kernel
theorem d_LA_law_288 : decode code 288 = .ok (.iadd, 1) := by decide +kernel
theorem d_LA_law_289 : decode code 289 = .ok (.iaload, 1) := by decide +kernel
theorem d_LA_law_290 : decode code 290 = .ok (.aload_n 0, 1) := by decide +kernel
theorem d_LA_law_291 : decode code 291 = .ok (.iload 4, 2) := by decide +kernel
theorem d_LA_law_293 : decode code 293 = .ok (.iconst 3, 1) := by decide +kernel
theorem d_LA_law_294 : decode code 294 = .ok (.iadd, 1) := by decide +kernel
theorem d_LA_law_295 : decode code 295 = .ok (.iaload, 1) := by decide +kernel
theorem d_LA_law_296 : decode code 296 = .ok (.ifCond .eq 7, 3) := by decide +kernel
theorem d_LA_law_299 : decode code 299 = .ok (.iconst 1, 1) := by decide +kernel
theorem d_LA_law_300 : decode code 300 = .ok (.goto 4, 3) := by decide +kernel
theorem d_LA_law_303 : decode code 303 = .ok (.iconst 0, 1) := by decide +kernel
theorem d_LA_law_304 : decode code 304 = .ok (.invokevirtual 101, 3) := by decide +kernel
theorem d_LA_law_307 : decode code 307 = .ok (.istore 6, 2) := by decide +kernel
theorem d_LA_law_309 : decode code 309 = .ok (.aload_n 2, 1) := by decide +kernel
theorem d_LA_law_310 : decode code 310 = .ok (.invokevirtual 90, 3) := by decide +kernel
theorem d_LA_law_313 : decode code 313 = .ok (.iload 5, 2) := by decide +kernel
theorem d_LA_law_315 : decode code 315 = .ok (.if_icmp .eq 5, 3) := by decide +kernel
theorem d_LA_law_318 : decode code 318 = .ok (.iconst 0, 1) := by decide +kernel
theorem d_LA_law_319 : decode code 319 = .ok (.ireturn, 1) := by decide +kernel
theorem d_LA_law_320 : decode code 320 = .ok (.iload 5, 2) := by decide +kernel
theorem d_LA_law_322 : decode code 322 = .ok (.ifCond .ne 15, 3) := by decide +kernel
theorem d_LA_law_325 : decode code 325 = .ok (.aload_n 3, 1) := by decide +kernel
theorem d_LA_law_326 : decode code 326 = .ok (.iconst 0, 1) := by decide +kernel
theorem d_LA_law_327 : decode code 327 = .ok (.laload, 1) := by decide +kernel
theorem d_LA_law_328 : decode code 328 = .ok (.iload 6, 2) := by decide +kernel
theorem d_LA_law_330 : decode code 330 = .ok (.i2l, 1) := by decide +kernel
theorem d_LA_law_331 : decode code 331 = .ok (.lcmp, 1) := by decide +kernel
theorem d_LA_law_332 : decode code 332 = .ok (.ifCond .eq 5, 3) := by decide +kernel
theorem d_LA_law_335 : decode code 335 = .ok (.iconst 0, 1) := by decide +kernel
theorem d_LA_law_336 : decode code 336 = .ok (.ireturn, 1) := by decide +kernel
theorem d_LA_law_337 : decode code 337 = .ok (.goto 1011, 3) := by decide +kernel
theorem d_LA_law_340 : decode code 340 = .ok (.aload_n 1, 1) := by decide +kernel
theorem d_LA_law_341 : decode code 341 = .ok (.aload_n 0, 1) := by decide +kernel
theorem d_LA_law_342 : decode code 342 = .ok (.iload 4, 2) := by decide +kernel
theorem d_LA_law_344 : decode code 344 = .ok (.iconst 1, 1) := by decide +kernel
theorem d_LA_law_345 : decode code 345 = .ok (.iadd, 1) := by decide +kernel
theorem d_LA_law_346 : decode code 346 = .ok (.iaload, 1) := by decide +kernel
theorem d_LA_law_347 : decode code 347 = .ok (.aload_n 0, 1) := by decide +kernel
theorem d_LA_law_348 : decode code 348 = .ok (.iload 4, 2) := by decide +kernel
theorem d_LA_law_350 : decode code 350 = .ok (.iconst 2, 1) := by decide +kernel
theorem d_LA_law_351 : decode code 351 = .ok (.iadd, 1) := by decide +kernel
theorem d_LA_law_352 : decode code 352 = .ok (.iaload, 1) := by decide +kernel
theorem d_LA_law_353 : decode code 353 = .ok (.invokestatic 102, 3) := by decide +kernel
theorem d_LA_law_356 : decode code 356 = .ok (.istore 5, 2) := by decide +kernel
theorem d_LA_law_358 : decode code 358 = .ok (.aload_n 2, 1) := by decide +kernel
theorem d_LA_law_359 : decode code 359 = .ok (.aload_n 0, 1) := by decide +kernel
theorem d_LA_law_360 : decode code 360 = .ok (.iload 4, 2) := by decide +kernel
theorem d_LA_law_362 : decode code 362 = .ok (.iconst 1, 1) := by decide +kernel
theorem d_LA_law_363 : decode code 363 = .ok (.iadd, 1) := by decide +kernel
theorem d_LA_law_364 : decode code 364 = .ok (.iaload, 1) := by decide +kernel
theorem d_LA_law_365 : decode code 365 = .ok (.aload_n 0, 1) := by decide +kernel
theorem d_LA_law_366 : decode code 366 = .ok (.iload 4, 2) := by decide +kernel
theorem d_LA_law_368 : decode code 368 = .ok (.iconst 2, 1) := by decide +kernel
theorem d_LA_law_369 : decode code 369 = .ok (.iadd, 1) := by decide +kernel
theorem d_LA_law_370 : decode code 370 = .ok (.iaload, 1) := by decide +kernel
theorem d_LA_law_371 : decode code 371 = .ok (.invokevirtual 105, 3) := by decide +kernel
theorem d_LA_law_374 : decode code 374 = .ok (.aload_n 2, 1) := by decide +kernel
theorem d_LA_law_375 : decode code 375 = .ok (.invokevirtual 90, 3) := by decide +kernel
theorem d_LA_law_378 : decode code 378 = .ok (.iload 5, 2) := by decide +kernel
theorem d_LA_law_380 : decode code 380 = .ok (.if_icmp .eq 5, 3) := by decide +kernel
theorem d_LA_law_383 : decode code 383 = .ok (.iconst 0, 1) := by decide +kernel
theorem d_LA_law_384 : decode code 384 = .ok (.ireturn, 1) := by decide +kernel
theorem d_LA_law_385 : decode code 385 = .ok (.goto 963, 3) := by decide +kernel
theorem d_LA_law_388 : decode code 388 = .ok (.aload_n 1, 1) := by decide +kernel
theorem d_LA_law_389 : decode code 389 = .ok (.aload_n 0, 1) := by decide +kernel
theorem d_LA_law_390 : decode code 390 = .ok (.iload 4, 2) := by decide +kernel
theorem d_LA_law_392 : decode code 392 = .ok (.iconst 1, 1) := by decide +kernel
theorem d_LA_law_393 : decode code 393 = .ok (.iadd, 1) := by decide +kernel
theorem d_LA_law_394 : decode code 394 = .ok (.iaload, 1) := by decide +kernel
theorem d_LA_law_395 : decode code 395 = .ok (.aload_n 0, 1) := by decide +kernel
theorem d_LA_law_396 : decode code 396 = .ok (.iload 4, 2) := by decide +kernel
theorem d_LA_law_398 : decode code 398 = .ok (.iconst 2, 1) := by decide +kernel
theorem d_LA_law_399 : decode code 399 = .ok (.iadd, 1) := by decide +kernel
theorem d_LA_law_400 : decode code 400 = .ok (.iaload, 1) := by decide +kernel
theorem d_LA_law_401 : decode code 401 = .ok (.aload_n 3, 1) := by decide +kernel
theorem d_LA_law_402 : decode code 402 = .ok (.invokestatic 106, 3) := by decide +kernel
theorem d_LA_law_405 : decode code 405 = .ok (.istore 5, 2) := by decide +kernel
theorem d_LA_law_407 : decode code 407 = .ok (.aload_n 2, 1) := by decide +kernel
theorem d_LA_law_408 : decode code 408 = .ok (.aload_n 0, 1) := by decide +kernel
theorem d_LA_law_409 : decode code 409 = .ok (.iload 4, 2) := by decide +kernel
theorem d_LA_law_411 : decode code 411 = .ok (.iconst 1, 1) := by decide +kernel
theorem d_LA_law_412 : decode code 412 = .ok (.iadd, 1) := by decide +kernel
theorem d_LA_law_413 : decode code 413 = .ok (.iaload, 1) := by decide +kernel
theorem d_LA_law_414 : decode code 414 = .ok (.aload_n 0, 1) := by decide +kernel
theorem d_LA_law_415 : decode code 415 = .ok (.iload 4, 2) := by decide +kernel
theorem d_LA_law_417 : decode code 417 = .ok (.iconst 2, 1) := by decide +kernel
theorem d_LA_law_418 : decode code 418 = .ok (.iadd, 1) := by decide +kernel
theorem d_LA_law_419 : decode code 419 = .ok (.iaload, 1) := by decide +kernel
theorem d_LA_law_420 : decode code 420 = .ok (.invokevirtual 109, 3) := by decide +kernel
theorem d_LA_law_423 : decode code 423 = .ok (.istore 6, 2) := by decide +kernel
theorem d_LA_law_425 : decode code 425 = .ok (.aload_n 2, 1) := by decide +kernel
theorem d_LA_law_426 : decode code 426 = .ok (.invokevirtual 90, 3) := by decide +kernel
theorem d_LA_law_429 : decode code 429 = .ok (.iload 5, 2) := by decide +kernel
theorem d_LA_law_431 : decode code 431 = .ok (.if_icmp .eq 5, 3) := by decide +kernel
theorem d_LA_law_434 : decode code 434 = .ok (.iconst 0, 1) := by decide +kernel
theorem d_LA_law_435 : decode code 435 = .ok (.ireturn, 1) := by decide +kernel
theorem d_LA_law_436 : decode code 436 = .ok (.iload 5, 2) := by decide +kernel
theorem d_LA_law_438 : decode code 438 = .ok (.ifCond .ne 15, 3) := by decide +kernel
theorem d_LA_law_441 : decode code 441 = .ok (.aload_n 3, 1) := by decide +kernel
theorem d_LA_law_442 : decode code 442 = .ok (.iconst 0, 1) := by decide +kernel
theorem d_LA_law_443 : decode code 443 = .ok (.laload, 1) := by decide +kernel
theorem d_LA_law_444 : decode code 444 = .ok (.iload 6, 2) := by decide +kernel
theorem d_LA_law_446 : decode code 446 = .ok (.i2l, 1) := by decide +kernel
theorem d_LA_law_447 : decode code 447 = .ok (.lcmp, 1) := by decide +kernel
theorem d_LA_law_448 : decode code 448 = .ok (.ifCond .eq 5, 3) := by decide +kernel
theorem d_LA_law_451 : decode code 451 = .ok (.iconst 0, 1) := by decide +kernel
theorem d_LA_law_452 : decode code 452 = .ok (.ireturn, 1) := by decide +kernel
theorem d_LA_law_453 : decode code 453 = .ok (.goto 895, 3) := by decide +kernel
theorem d_LA_law_456 : decode code 456 = .ok (.aload_n 1, 1) := by decide +kernel
theorem d_LA_law_457 : decode code 457 = .ok (.aload_n 0, 1) := by decide +kernel
theorem d_LA_law_458 : decode code 458 = .ok (.iload 4, 2) := by decide +kernel
theorem d_LA_law_460 : decode code 460 = .ok (.iconst 1, 1) := by decide +kernel
theorem d_LA_law_461 : decode code 461 = .ok (.iadd, 1) := by decide +kernel
theorem d_LA_law_462 : decode code 462 = .ok (.iaload, 1) := by decide +kernel
theorem d_LA_law_463 : decode code 463 = .ok (.aload_n 0, 1) := by decide +kernel
theorem d_LA_law_464 : decode code 464 = .ok (.iload 4, 2) := by decide +kernel
theorem d_LA_law_466 : decode code 466 = .ok (.iconst 2, 1) := by decide +kernel
theorem d_LA_law_467 : decode code 467 = .ok (.iadd, 1) := by decide +kernel
theorem d_LA_law_468 : decode code 468 = .ok (.iaload, 1) := by decide +kernel
theorem d_LA_law_469 : decode code 469 = .ok (.ifCond .eq 7, 3) := by decide +kernel
theorem d_LA_law_472 : decode code 472 = .ok (.iconst 1, 1) := by decide +kernel
theorem d_LA_law_473 : decode code 473 = .ok (.goto 4, 3) := by decide +kernel
theorem d_LA_law_476 : decode code 476 = .ok (.iconst 0, 1) := by decide +kernel
theorem d_LA_law_477 : decode code 477 = .ok (.invokestatic 110, 3) := by decide +kernel
theorem d_LA_law_480 : decode code 480 = .ok (.istore 5, 2) := by decide +kernel
theorem d_LA_law_482 : decode code 482 = .ok (.aload_n 2, 1) := by decide +kernel
theorem d_LA_law_483 : decode code 483 = .ok (.aload_n 0, 1) := by decide +kernel
theorem d_LA_law_484 : decode code 484 = .ok (.iload 4, 2) := by decide +kernel
theorem d_LA_law_486 : decode code 486 = .ok (.iconst 1, 1) := by decide +kernel
theorem d_LA_law_487 : decode code 487 = .ok (.iadd, 1) := by decide +kernel
theorem d_LA_law_488 : decode code 488 = .ok (.iaload, 1) := by decide +kernel
theorem d_LA_law_489 : decode code 489 = .ok (.aload_n 0, 1) := by decide +kernel
theorem d_LA_law_490 : decode code 490 = .ok (.iload 4, 2) := by decide +kernel
theorem d_LA_law_492 : decode code 492 = .ok (.iconst 2, 1) := by decide +kernel
theorem d_LA_law_493 : decode code 493 = .ok (.iadd, 1) := by decide +kernel
theorem d_LA_law_494 : decode code 494 = .ok (.iaload, 1) := by decide +kernel
theorem d_LA_law_495 : decode code 495 = .ok (.ifCond .eq 7, 3) := by decide +kernel
theorem d_LA_law_498 : decode code 498 = .ok (.iconst 1, 1) := by decide +kernel
theorem d_LA_law_499 : decode code 499 = .ok (.goto 4, 3) := by decide +kernel
theorem d_LA_law_502 : decode code 502 = .ok (.iconst 0, 1) := by decide +kernel
theorem d_LA_law_503 : decode code 503 = .ok (.invokevirtual 113, 3) := by decide +kernel
theorem d_LA_law_506 : decode code 506 = .ok (.aload_n 2, 1) := by decide +kernel
theorem d_LA_law_507 : decode code 507 = .ok (.invokevirtual 90, 3) := by decide +kernel
theorem d_LA_law_510 : decode code 510 = .ok (.iload 5, 2) := by decide +kernel
theorem d_LA_law_512 : decode code 512 = .ok (.if_icmp .eq 5, 3) := by decide +kernel
theorem d_LA_law_515 : decode code 515 = .ok (.iconst 0, 1) := by decide +kernel
theorem d_LA_law_516 : decode code 516 = .ok (.ireturn, 1) := by decide +kernel
theorem d_LA_law_517 : decode code 517 = .ok (.goto 831, 3) := by decide +kernel
theorem d_LA_law_520 : decode code 520 = .ok (.aload_n 1, 1) := by decide +kernel
theorem d_LA_law_521 : decode code 521 = .ok (.aload_n 0, 1) := by decide +kernel
theorem d_LA_law_522 : decode code 522 = .ok (.iload 4, 2) := by decide +kernel
theorem d_LA_law_524 : decode code 524 = .ok (.iconst 1, 1) := by decide +kernel
theorem d_LA_law_525 : decode code 525 = .ok (.iadd, 1) := by decide +kernel
theorem d_LA_law_526 : decode code 526 = .ok (.iaload, 1) := by decide +kernel
theorem d_LA_law_527 : decode code 527 = .ok (.aload_n 0, 1) := by decide +kernel
theorem d_LA_law_528 : decode code 528 = .ok (.iload 4, 2) := by decide +kernel
theorem d_LA_law_530 : decode code 530 = .ok (.iconst 2, 1) := by decide +kernel
theorem d_LA_law_531 : decode code 531 = .ok (.iadd, 1) := by decide +kernel
theorem d_LA_law_532 : decode code 532 = .ok (.iaload, 1) := by decide +kernel
theorem d_LA_law_533 : decode code 533 = .ok (.aload_n 0, 1) := by decide +kernel
theorem d_LA_law_534 : decode code 534 = .ok (.iload 4, 2) := by decide +kernel
theorem d_LA_law_536 : decode code 536 = .ok (.iconst 3, 1) := by decide +kernel
theorem d_LA_law_537 : decode code 537 = .ok (.iadd, 1) := by decide +kernel
theorem d_LA_law_538 : decode code 538 = .ok (.iaload, 1) := by decide +kernel
theorem d_LA_law_539 : decode code 539 = .ok (.ifCond .eq 7, 3) := by decide +kernel
theorem d_LA_law_542 : decode code 542 = .ok (.iconst 1, 1) := by decide +kernel
theorem d_LA_law_543 : decode code 543 = .ok (.goto 4, 3) := by decide +kernel
theorem d_LA_law_546 : decode code 546 = .ok (.iconst 0, 1) := by decide +kernel
theorem d_LA_law_547 : decode code 547 = .ok (.aload_n 3, 1) := by decide +kernel
theorem d_LA_law_548 : decode code 548 = .ok (.invokestatic 114, 3) := by decide +kernel
theorem d_LA_law_551 : decode code 551 = .ok (.istore 5, 2) := by decide +kernel
theorem d_LA_law_553 : decode code 553 = .ok (.aload_n 2, 1) := by decide +kernel
theorem d_LA_law_554 : decode code 554 = .ok (.aload_n 0, 1) := by decide +kernel
theorem d_LA_law_555 : decode code 555 = .ok (.iload 4, 2) := by decide +kernel
theorem d_LA_law_557 : decode code 557 = .ok (.iconst 1, 1) := by decide +kernel
theorem d_LA_law_558 : decode code 558 = .ok (.iadd, 1) := by decide +kernel
theorem d_LA_law_559 : decode code 559 = .ok (.iaload, 1) := by decide +kernel
theorem d_LA_law_560 : decode code 560 = .ok (.aload_n 0, 1) := by decide +kernel
theorem d_LA_law_561 : decode code 561 = .ok (.iload 4, 2) := by decide +kernel
theorem d_LA_law_563 : decode code 563 = .ok (.iconst 2, 1) := by decide +kernel
theorem d_LA_law_564 : decode code 564 = .ok (.iadd, 1) := by decide +kernel
theorem d_LA_law_565 : decode code 565 = .ok (.iaload, 1) := by decide +kernel
theorem d_LA_law_566 : decode code 566 = .ok (.aload_n 0, 1) := by decide +kernel
theorem d_LA_law_567 : decode code 567 = .ok (.iload 4, 2) := by decide +kernel
theorem d_LA_law_569 : decode code 569 = .ok (.iconst 3, 1) := by decide +kernel
theorem d_LA_law_570 : decode code 570 = .ok (.iadd, 1) := by decide +kernel
theorem d_LA_law_571 : decode code 571 = .ok (.iaload, 1) := by decide +kernel
theorem d_LA_law_572 : decode code 572 = .ok (.ifCond .eq 7, 3) := by decide +kernel
theorem d_LA_law_575 : decode code 575 = .ok (.iconst 1, 1) := by decide +kernel
theorem d_LA_law_576 : decode code 576 = .ok (.goto 4, 3) := by decide +kernel
theorem d_LA_law_579 : decode code 579 = .ok (.iconst 0, 1) := by decide +kernel
theorem d_LA_law_580 : decode code 580 = .ok (.invokevirtual 116, 3) := by decide +kernel
theorem d_LA_law_583 : decode code 583 = .ok (.istore 6, 2) := by decide +kernel
theorem d_LA_law_585 : decode code 585 = .ok (.aload_n 2, 1) := by decide +kernel
theorem d_LA_law_586 : decode code 586 = .ok (.invokevirtual 90, 3) := by decide +kernel
theorem d_LA_law_589 : decode code 589 = .ok (.iload 5, 2) := by decide +kernel
theorem d_LA_law_591 : decode code 591 = .ok (.if_icmp .eq 5, 3) := by decide +kernel
theorem d_LA_law_594 : decode code 594 = .ok (.iconst 0, 1) := by decide +kernel
theorem d_LA_law_595 : decode code 595 = .ok (.ireturn, 1) := by decide +kernel
theorem d_LA_law_596 : decode code 596 = .ok (.iload 5, 2) := by decide +kernel
theorem d_LA_law_598 : decode code 598 = .ok (.ifCond .ne 15, 3) := by decide +kernel
theorem d_LA_law_601 : decode code 601 = .ok (.aload_n 3, 1) := by decide +kernel
theorem d_LA_law_602 : decode code 602 = .ok (.iconst 0, 1) := by decide +kernel
theorem d_LA_law_603 : decode code 603 = .ok (.laload, 1) := by decide +kernel
theorem d_LA_law_604 : decode code 604 = .ok (.iload 6, 2) := by decide +kernel
theorem d_LA_law_606 : decode code 606 = .ok (.i2l, 1) := by decide +kernel
theorem d_LA_law_607 : decode code 607 = .ok (.lcmp, 1) := by decide +kernel
theorem d_LA_law_608 : decode code 608 = .ok (.ifCond .eq 5, 3) := by decide +kernel
theorem d_LA_law_611 : decode code 611 = .ok (.iconst 0, 1) := by decide +kernel
theorem d_LA_law_612 : decode code 612 = .ok (.ireturn, 1) := by decide +kernel
theorem d_LA_law_613 : decode code 613 = .ok (.goto 735, 3) := by decide +kernel
theorem d_LA_law_616 : decode code 616 = .ok (.aload_n 1, 1) := by decide +kernel
theorem d_LA_law_617 : decode code 617 = .ok (.aload_n 0, 1) := by decide +kernel
theorem d_LA_law_618 : decode code 618 = .ok (.iload 4, 2) := by decide +kernel
theorem d_LA_law_620 : decode code 620 = .ok (.iconst 1, 1) := by decide +kernel
theorem d_LA_law_621 : decode code 621 = .ok (.iadd, 1) := by decide +kernel
theorem d_LA_law_622 : decode code 622 = .ok (.iaload, 1) := by decide +kernel
theorem d_LA_law_623 : decode code 623 = .ok (.aload_n 0, 1) := by decide +kernel
theorem d_LA_law_624 : decode code 624 = .ok (.iload 4, 2) := by decide +kernel
theorem d_LA_law_626 : decode code 626 = .ok (.iconst 2, 1) := by decide +kernel
theorem d_LA_law_627 : decode code 627 = .ok (.iadd, 1) := by decide +kernel
theorem d_LA_law_628 : decode code 628 = .ok (.iaload, 1) := by decide +kernel
theorem d_LA_law_629 : decode code 629 = .ok (.aload_n 3, 1) := by decide +kernel
theorem d_LA_law_630 : decode code 630 = .ok (.invokestatic 117, 3) := by decide +kernel
theorem d_LA_law_633 : decode code 633 = .ok (.istore 5, 2) := by decide +kernel
theorem d_LA_law_635 : decode code 635 = .ok (.aload_n 2, 1) := by decide +kernel
theorem d_LA_law_636 : decode code 636 = .ok (.aload_n 0, 1) := by decide +kernel
theorem d_LA_law_637 : decode code 637 = .ok (.iload 4, 2) := by decide +kernel
theorem d_LA_law_639 : decode code 639 = .ok (.iconst 1, 1) := by decide +kernel
theorem d_LA_law_640 : decode code 640 = .ok (.iadd, 1) := by decide +kernel
theorem d_LA_law_641 : decode code 641 = .ok (.iaload, 1) := by decide +kernel
theorem d_LA_law_642 : decode code 642 = .ok (.aload_n 0, 1) := by decide +kernel
theorem d_LA_law_643 : decode code 643 = .ok (.iload 4, 2) := by decide +kernel
theorem d_LA_law_645 : decode code 645 = .ok (.iconst 2, 1) := by decide +kernel
theorem d_LA_law_646 : decode code 646 = .ok (.iadd, 1) := by decide +kernel
theorem d_LA_law_647 : decode code 647 = .ok (.iaload, 1) := by decide +kernel
theorem d_LA_law_648 : decode code 648 = .ok (.invokevirtual 119, 3) := by decide +kernel
theorem d_LA_law_651 : decode code 651 = .ok (.istore 6, 2) := by decide +kernel
theorem d_LA_law_653 : decode code 653 = .ok (.aload_n 2, 1) := by decide +kernel
theorem d_LA_law_654 : decode code 654 = .ok (.invokevirtual 90, 3) := by decide +kernel
theorem d_LA_law_657 : decode code 657 = .ok (.iload 5, 2) := by decide +kernel
theorem d_LA_law_659 : decode code 659 = .ok (.if_icmp .eq 5, 3) := by decide +kernel
theorem d_LA_law_662 : decode code 662 = .ok (.iconst 0, 1) := by decide +kernel
theorem d_LA_law_663 : decode code 663 = .ok (.ireturn, 1) := by decide +kernel
theorem d_LA_law_664 : decode code 664 = .ok (.iload 5, 2) := by decide +kernel
theorem d_LA_law_666 : decode code 666 = .ok (.ifCond .ne 15, 3) := by decide +kernel
theorem d_LA_law_669 : decode code 669 = .ok (.aload_n 3, 1) := by decide +kernel
theorem d_LA_law_670 : decode code 670 = .ok (.iconst 0, 1) := by decide +kernel
theorem d_LA_law_671 : decode code 671 = .ok (.laload, 1) := by decide +kernel
theorem d_LA_law_672 : decode code 672 = .ok (.iload 6, 2) := by decide +kernel
theorem d_LA_law_674 : decode code 674 = .ok (.i2l, 1) := by decide +kernel
theorem d_LA_law_675 : decode code 675 = .ok (.lcmp, 1) := by decide +kernel
theorem d_LA_law_676 : decode code 676 = .ok (.ifCond .eq 5, 3) := by decide +kernel
theorem d_LA_law_679 : decode code 679 = .ok (.iconst 0, 1) := by decide +kernel
theorem d_LA_law_680 : decode code 680 = .ok (.ireturn, 1) := by decide +kernel
theorem d_LA_law_681 : decode code 681 = .ok (.goto 667, 3) := by decide +kernel
theorem d_LA_law_684 : decode code 684 = .ok (.aload_n 1, 1) := by decide +kernel
theorem d_LA_law_685 : decode code 685 = .ok (.aload_n 0, 1) := by decide +kernel
theorem d_LA_law_686 : decode code 686 = .ok (.iload 4, 2) := by decide +kernel
theorem d_LA_law_688 : decode code 688 = .ok (.iconst 1, 1) := by decide +kernel
theorem d_LA_law_689 : decode code 689 = .ok (.iadd, 1) := by decide +kernel
theorem d_LA_law_690 : decode code 690 = .ok (.iaload, 1) := by decide +kernel
theorem d_LA_law_691 : decode code 691 = .ok (.aload_n 0, 1) := by decide +kernel
theorem d_LA_law_692 : decode code 692 = .ok (.iload 4, 2) := by decide +kernel
theorem d_LA_law_694 : decode code 694 = .ok (.iconst 2, 1) := by decide +kernel
theorem d_LA_law_695 : decode code 695 = .ok (.iadd, 1) := by decide +kernel
theorem d_LA_law_696 : decode code 696 = .ok (.iaload, 1) := by decide +kernel
theorem d_LA_law_697 : decode code 697 = .ok (.invokestatic 120, 3) := by decide +kernel
theorem d_LA_law_700 : decode code 700 = .ok (.istore 5, 2) := by decide +kernel
theorem d_LA_law_702 : decode code 702 = .ok (.aload_n 2, 1) := by decide +kernel
theorem d_LA_law_703 : decode code 703 = .ok (.aload_n 0, 1) := by decide +kernel
theorem d_LA_law_704 : decode code 704 = .ok (.iload 4, 2) := by decide +kernel
theorem d_LA_law_706 : decode code 706 = .ok (.iconst 1, 1) := by decide +kernel
theorem d_LA_law_707 : decode code 707 = .ok (.iadd, 1) := by decide +kernel
theorem d_LA_law_708 : decode code 708 = .ok (.iaload, 1) := by decide +kernel
theorem d_LA_law_709 : decode code 709 = .ok (.aload_n 0, 1) := by decide +kernel
theorem d_LA_law_710 : decode code 710 = .ok (.iload 4, 2) := by decide +kernel
theorem d_LA_law_712 : decode code 712 = .ok (.iconst 2, 1) := by decide +kernel
theorem d_LA_law_713 : decode code 713 = .ok (.iadd, 1) := by decide +kernel
theorem d_LA_law_714 : decode code 714 = .ok (.iaload, 1) := by decide +kernel
theorem d_LA_law_715 : decode code 715 = .ok (.invokevirtual 122, 3) := by decide +kernel
theorem d_LA_law_718 : decode code 718 = .ok (.aload_n 2, 1) := by decide +kernel
theorem d_LA_law_719 : decode code 719 = .ok (.invokevirtual 90, 3) := by decide +kernel
theorem d_LA_law_722 : decode code 722 = .ok (.iload 5, 2) := by decide +kernel
theorem d_LA_law_724 : decode code 724 = .ok (.if_icmp .eq 5, 3) := by decide +kernel
theorem d_LA_law_727 : decode code 727 = .ok (.iconst 0, 1) := by decide +kernel
theorem d_LA_law_728 : decode code 728 = .ok (.ireturn, 1) := by decide +kernel
theorem d_LA_law_729 : decode code 729 = .ok (.goto 619, 3) := by decide +kernel
theorem d_LA_law_732 : decode code 732 = .ok (.aload_n 1, 1) := by decide +kernel
theorem d_LA_law_733 : decode code 733 = .ok (.aload_n 0, 1) := by decide +kernel
theorem d_LA_law_734 : decode code 734 = .ok (.iload 4, 2) := by decide +kernel
theorem d_LA_law_736 : decode code 736 = .ok (.iconst 1, 1) := by decide +kernel
theorem d_LA_law_737 : decode code 737 = .ok (.iadd, 1) := by decide +kernel
theorem d_LA_law_738 : decode code 738 = .ok (.iaload, 1) := by decide +kernel
theorem d_LA_law_739 : decode code 739 = .ok (.aload_n 0, 1) := by decide +kernel
theorem d_LA_law_740 : decode code 740 = .ok (.iload 4, 2) := by decide +kernel
theorem d_LA_law_742 : decode code 742 = .ok (.iconst 2, 1) := by decide +kernel
theorem d_LA_law_743 : decode code 743 = .ok (.iadd, 1) := by decide +kernel
theorem d_LA_law_744 : decode code 744 = .ok (.iaload, 1) := by decide +kernel
theorem d_LA_law_745 : decode code 745 = .ok (.ifCond .eq 7, 3) := by decide +kernel
theorem d_LA_law_748 : decode code 748 = .ok (.iconst 1, 1) := by decide +kernel
theorem d_LA_law_749 : decode code 749 = .ok (.goto 4, 3) := by decide +kernel
theorem d_LA_law_752 : decode code 752 = .ok (.iconst 0, 1) := by decide +kernel
theorem d_LA_law_753 : decode code 753 = .ok (.aload_n 3, 1) := by decide +kernel
theorem d_LA_law_754 : decode code 754 = .ok (.invokestatic 123, 3) := by decide +kernel
theorem d_LA_law_757 : decode code 757 = .ok (.istore 5, 2) := by decide +kernel
theorem d_LA_law_759 : decode code 759 = .ok (.aload_n 2, 1) := by decide +kernel
theorem d_LA_law_760 : decode code 760 = .ok (.aload_n 0, 1) := by decide +kernel
theorem d_LA_law_761 : decode code 761 = .ok (.iload 4, 2) := by decide +kernel
theorem d_LA_law_763 : decode code 763 = .ok (.iconst 1, 1) := by decide +kernel
theorem d_LA_law_764 : decode code 764 = .ok (.iadd, 1) := by decide +kernel
theorem d_LA_law_765 : decode code 765 = .ok (.iaload, 1) := by decide +kernel
theorem d_LA_law_766 : decode code 766 = .ok (.aload_n 0, 1) := by decide +kernel
theorem d_LA_law_767 : decode code 767 = .ok (.iload 4, 2) := by decide +kernel
theorem d_LA_law_769 : decode code 769 = .ok (.iconst 2, 1) := by decide +kernel
theorem d_LA_law_770 : decode code 770 = .ok (.iadd, 1) := by decide +kernel
theorem d_LA_law_771 : decode code 771 = .ok (.iaload, 1) := by decide +kernel
theorem d_LA_law_772 : decode code 772 = .ok (.ifCond .eq 7, 3) := by decide +kernel
theorem d_LA_law_775 : decode code 775 = .ok (.iconst 1, 1) := by decide +kernel
theorem d_LA_law_776 : decode code 776 = .ok (.goto 4, 3) := by decide +kernel
theorem d_LA_law_779 : decode code 779 = .ok (.iconst 0, 1) := by decide +kernel
theorem d_LA_law_780 : decode code 780 = .ok (.invokevirtual 126, 3) := by decide +kernel
theorem d_LA_law_783 : decode code 783 = .ok (.istore 6, 2) := by decide +kernel
theorem d_LA_law_785 : decode code 785 = .ok (.aload_n 2, 1) := by decide +kernel
theorem d_LA_law_786 : decode code 786 = .ok (.invokevirtual 90, 3) := by decide +kernel
theorem d_LA_law_789 : decode code 789 = .ok (.iload 5, 2) := by decide +kernel
theorem d_LA_law_791 : decode code 791 = .ok (.if_icmp .eq 5, 3) := by decide +kernel
theorem d_LA_law_794 : decode code 794 = .ok (.iconst 0, 1) := by decide +kernel
theorem d_LA_law_795 : decode code 795 = .ok (.ireturn, 1) := by decide +kernel
theorem d_LA_law_796 : decode code 796 = .ok (.iload 5, 2) := by decide +kernel
theorem d_LA_law_798 : decode code 798 = .ok (.ifCond .ne 15, 3) := by decide +kernel
theorem d_LA_law_801 : decode code 801 = .ok (.aload_n 3, 1) := by decide +kernel
theorem d_LA_law_802 : decode code 802 = .ok (.iconst 0, 1) := by decide +kernel
theorem d_LA_law_803 : decode code 803 = .ok (.laload, 1) := by decide +kernel
theorem d_LA_law_804 : decode code 804 = .ok (.iload 6, 2) := by decide +kernel
theorem d_LA_law_806 : decode code 806 = .ok (.i2l, 1) := by decide +kernel
theorem d_LA_law_807 : decode code 807 = .ok (.lcmp, 1) := by decide +kernel
theorem d_LA_law_808 : decode code 808 = .ok (.ifCond .eq 5, 3) := by decide +kernel
theorem d_LA_law_811 : decode code 811 = .ok (.iconst 0, 1) := by decide +kernel
theorem d_LA_law_812 : decode code 812 = .ok (.ireturn, 1) := by decide +kernel
theorem d_LA_law_813 : decode code 813 = .ok (.goto 535, 3) := by decide +kernel
theorem d_LA_law_816 : decode code 816 = .ok (.aload_n 1, 1) := by decide +kernel
theorem d_LA_law_817 : decode code 817 = .ok (.aload_n 0, 1) := by decide +kernel
theorem d_LA_law_818 : decode code 818 = .ok (.iload 4, 2) := by decide +kernel
theorem d_LA_law_820 : decode code 820 = .ok (.iconst 1, 1) := by decide +kernel
theorem d_LA_law_821 : decode code 821 = .ok (.iadd, 1) := by decide +kernel
theorem d_LA_law_822 : decode code 822 = .ok (.iaload, 1) := by decide +kernel
theorem d_LA_law_823 : decode code 823 = .ok (.aload_n 0, 1) := by decide +kernel
theorem d_LA_law_824 : decode code 824 = .ok (.iload 4, 2) := by decide +kernel
theorem d_LA_law_826 : decode code 826 = .ok (.iconst 2, 1) := by decide +kernel
theorem d_LA_law_827 : decode code 827 = .ok (.iadd, 1) := by decide +kernel
theorem d_LA_law_828 : decode code 828 = .ok (.iaload, 1) := by decide +kernel
theorem d_LA_law_829 : decode code 829 = .ok (.aload_n 3, 1) := by decide +kernel
theorem d_LA_law_830 : decode code 830 = .ok (.invokestatic 127, 3) := by decide +kernel
theorem d_LA_law_833 : decode code 833 = .ok (.istore 5, 2) := by decide +kernel
theorem d_LA_law_835 : decode code 835 = .ok (.aload_n 2, 1) := by decide +kernel
theorem d_LA_law_836 : decode code 836 = .ok (.aload_n 0, 1) := by decide +kernel
theorem d_LA_law_837 : decode code 837 = .ok (.iload 4, 2) := by decide +kernel
theorem d_LA_law_839 : decode code 839 = .ok (.iconst 1, 1) := by decide +kernel
theorem d_LA_law_840 : decode code 840 = .ok (.iadd, 1) := by decide +kernel
theorem d_LA_law_841 : decode code 841 = .ok (.iaload, 1) := by decide +kernel
theorem d_LA_law_842 : decode code 842 = .ok (.aload_n 0, 1) := by decide +kernel
theorem d_LA_law_843 : decode code 843 = .ok (.iload 4, 2) := by decide +kernel
theorem d_LA_law_845 : decode code 845 = .ok (.iconst 2, 1) := by decide +kernel
theorem d_LA_law_846 : decode code 846 = .ok (.iadd, 1) := by decide +kernel
theorem d_LA_law_847 : decode code 847 = .ok (.iaload, 1) := by decide +kernel
theorem d_LA_law_848 : decode code 848 = .ok (.invokevirtual 129, 3) := by decide +kernel
theorem d_LA_law_851 : decode code 851 = .ok (.istore 6, 2) := by decide +kernel
theorem d_LA_law_853 : decode code 853 = .ok (.aload_n 2, 1) := by decide +kernel
theorem d_LA_law_854 : decode code 854 = .ok (.invokevirtual 90, 3) := by decide +kernel
theorem d_LA_law_857 : decode code 857 = .ok (.iload 5, 2) := by decide +kernel
theorem d_LA_law_859 : decode code 859 = .ok (.if_icmp .eq 5, 3) := by decide +kernel
theorem d_LA_law_862 : decode code 862 = .ok (.iconst 0, 1) := by decide +kernel
theorem d_LA_law_863 : decode code 863 = .ok (.ireturn, 1) := by decide +kernel
theorem d_LA_law_864 : decode code 864 = .ok (.iload 5, 2) := by decide +kernel
theorem d_LA_law_866 : decode code 866 = .ok (.ifCond .ne 22, 3) := by decide +kernel
theorem d_LA_law_869 : decode code 869 = .ok (.aload_n 3, 1) := by decide +kernel
theorem d_LA_law_870 : decode code 870 = .ok (.iconst 0, 1) := by decide +kernel
theorem d_LA_law_871 : decode code 871 = .ok (.laload, 1) := by decide +kernel
theorem d_LA_law_872 : decode code 872 = .ok (.iload 6, 2) := by decide +kernel
theorem d_LA_law_874 : decode code 874 = .ok (.ifCond .eq 7, 3) := by decide +kernel
theorem d_LA_law_877 : decode code 877 = .ok (.lconst 1, 1) := by decide +kernel
theorem d_LA_law_878 : decode code 878 = .ok (.goto 4, 3) := by decide +kernel
theorem d_LA_law_881 : decode code 881 = .ok (.lconst 0, 1) := by decide +kernel
theorem d_LA_law_882 : decode code 882 = .ok (.lcmp, 1) := by decide +kernel
theorem d_LA_law_883 : decode code 883 = .ok (.ifCond .eq 5, 3) := by decide +kernel
theorem d_LA_law_886 : decode code 886 = .ok (.iconst 0, 1) := by decide +kernel
theorem d_LA_law_887 : decode code 887 = .ok (.ireturn, 1) := by decide +kernel
theorem d_LA_law_888 : decode code 888 = .ok (.goto 460, 3) := by decide +kernel
theorem d_LA_law_891 : decode code 891 = .ok (.aload_n 1, 1) := by decide +kernel
theorem d_LA_law_892 : decode code 892 = .ok (.aload_n 0, 1) := by decide +kernel
theorem d_LA_law_893 : decode code 893 = .ok (.iload 4, 2) := by decide +kernel
theorem d_LA_law_895 : decode code 895 = .ok (.iconst 1, 1) := by decide +kernel
theorem d_LA_law_896 : decode code 896 = .ok (.iadd, 1) := by decide +kernel
theorem d_LA_law_897 : decode code 897 = .ok (.iaload, 1) := by decide +kernel
theorem d_LA_law_898 : decode code 898 = .ok (.aload_n 3, 1) := by decide +kernel
theorem d_LA_law_899 : decode code 899 = .ok (.invokestatic 130, 3) := by decide +kernel
theorem d_LA_law_902 : decode code 902 = .ok (.istore 5, 2) := by decide +kernel
theorem d_LA_law_904 : decode code 904 = .ok (.aload_n 2, 1) := by decide +kernel
theorem d_LA_law_905 : decode code 905 = .ok (.aload_n 0, 1) := by decide +kernel
theorem d_LA_law_906 : decode code 906 = .ok (.iload 4, 2) := by decide +kernel
theorem d_LA_law_908 : decode code 908 = .ok (.iconst 1, 1) := by decide +kernel
theorem d_LA_law_909 : decode code 909 = .ok (.iadd, 1) := by decide +kernel
theorem d_LA_law_910 : decode code 910 = .ok (.iaload, 1) := by decide +kernel
theorem d_LA_law_911 : decode code 911 = .ok (.invokevirtual 133, 3) := by decide +kernel
theorem d_LA_law_914 : decode code 914 = .ok (.istore 6, 2) := by decide +kernel
theorem d_LA_law_916 : decode code 916 = .ok (.aload_n 2, 1) := by decide +kernel
theorem d_LA_law_917 : decode code 917 = .ok (.invokevirtual 90, 3) := by decide +kernel
theorem d_LA_law_920 : decode code 920 = .ok (.iload 5, 2) := by decide +kernel
theorem d_LA_law_922 : decode code 922 = .ok (.if_icmp .eq 5, 3) := by decide +kernel
theorem d_LA_law_925 : decode code 925 = .ok (.iconst 0, 1) := by decide +kernel
theorem d_LA_law_926 : decode code 926 = .ok (.ireturn, 1) := by decide +kernel
theorem d_LA_law_927 : decode code 927 = .ok (.iload 5, 2) := by decide +kernel
theorem d_LA_law_929 : decode code 929 = .ok (.ifCond .ne 15, 3) := by decide +kernel
theorem d_LA_law_932 : decode code 932 = .ok (.aload_n 3, 1) := by decide +kernel
theorem d_LA_law_933 : decode code 933 = .ok (.iconst 0, 1) := by decide +kernel
theorem d_LA_law_934 : decode code 934 = .ok (.laload, 1) := by decide +kernel
theorem d_LA_law_935 : decode code 935 = .ok (.iload 6, 2) := by decide +kernel
theorem d_LA_law_937 : decode code 937 = .ok (.i2l, 1) := by decide +kernel
theorem d_LA_law_938 : decode code 938 = .ok (.lcmp, 1) := by decide +kernel
theorem d_LA_law_939 : decode code 939 = .ok (.ifCond .eq 5, 3) := by decide +kernel
theorem d_LA_law_942 : decode code 942 = .ok (.iconst 0, 1) := by decide +kernel
theorem d_LA_law_943 : decode code 943 = .ok (.ireturn, 1) := by decide +kernel
theorem d_LA_law_944 : decode code 944 = .ok (.goto 404, 3) := by decide +kernel
theorem d_LA_law_947 : decode code 947 = .ok (.aload_n 1, 1) := by decide +kernel
theorem d_LA_law_948 : decode code 948 = .ok (.aload_n 0, 1) := by decide +kernel
theorem d_LA_law_949 : decode code 949 = .ok (.iload 4, 2) := by decide +kernel
theorem d_LA_law_951 : decode code 951 = .ok (.iconst 1, 1) := by decide +kernel
theorem d_LA_law_952 : decode code 952 = .ok (.iadd, 1) := by decide +kernel
theorem d_LA_law_953 : decode code 953 = .ok (.iaload, 1) := by decide +kernel
theorem d_LA_law_954 : decode code 954 = .ok (.aload_n 0, 1) := by decide +kernel
theorem d_LA_law_955 : decode code 955 = .ok (.iload 4, 2) := by decide +kernel
theorem d_LA_law_957 : decode code 957 = .ok (.iconst 2, 1) := by decide +kernel
theorem d_LA_law_958 : decode code 958 = .ok (.iadd, 1) := by decide +kernel
theorem d_LA_law_959 : decode code 959 = .ok (.iaload, 1) := by decide +kernel
theorem d_LA_law_960 : decode code 960 = .ok (.invokestatic 134, 3) := by decide +kernel
theorem d_LA_law_963 : decode code 963 = .ok (.istore 5, 2) := by decide +kernel
theorem d_LA_law_965 : decode code 965 = .ok (.aload_n 2, 1) := by decide +kernel
theorem d_LA_law_966 : decode code 966 = .ok (.aload_n 0, 1) := by decide +kernel
theorem d_LA_law_967 : decode code 967 = .ok (.iload 4, 2) := by decide +kernel
theorem d_LA_law_969 : decode code 969 = .ok (.iconst 1, 1) := by decide +kernel
theorem d_LA_law_970 : decode code 970 = .ok (.iadd, 1) := by decide +kernel
theorem d_LA_law_971 : decode code 971 = .ok (.iaload, 1) := by decide +kernel
theorem d_LA_law_972 : decode code 972 = .ok (.aload_n 0, 1) := by decide +kernel
theorem d_LA_law_973 : decode code 973 = .ok (.iload 4, 2) := by decide +kernel
theorem d_LA_law_975 : decode code 975 = .ok (.iconst 2, 1) := by decide +kernel
theorem d_LA_law_976 : decode code 976 = .ok (.iadd, 1) := by decide +kernel
theorem d_LA_law_977 : decode code 977 = .ok (.iaload, 1) := by decide +kernel
theorem d_LA_law_978 : decode code 978 = .ok (.invokevirtual 136, 3) := by decide +kernel
theorem d_LA_law_981 : decode code 981 = .ok (.aload_n 2, 1) := by decide +kernel
theorem d_LA_law_982 : decode code 982 = .ok (.invokevirtual 90, 3) := by decide +kernel
theorem d_LA_law_985 : decode code 985 = .ok (.iload 5, 2) := by decide +kernel
theorem d_LA_law_987 : decode code 987 = .ok (.if_icmp .eq 5, 3) := by decide +kernel
theorem d_LA_law_990 : decode code 990 = .ok (.iconst 0, 1) := by decide +kernel
theorem d_LA_law_991 : decode code 991 = .ok (.ireturn, 1) := by decide +kernel
theorem d_LA_law_992 : decode code 992 = .ok (.goto 356, 3) := by decide +kernel
theorem d_LA_law_995 : decode code 995 = .ok (.aload_n 1, 1) := by decide +kernel
theorem d_LA_law_996 : decode code 996 = .ok (.aload_n 0, 1) := by decide +kernel
theorem d_LA_law_997 : decode code 997 = .ok (.iload 4, 2) := by decide +kernel
theorem d_LA_law_999 : decode code 999 = .ok (.iconst 1, 1) := by decide +kernel
theorem d_LA_law_1000 : decode code 1000 = .ok (.iadd, 1) := by decide +kernel
theorem d_LA_law_1001 : decode code 1001 = .ok (.iaload, 1) := by decide +kernel
theorem d_LA_law_1002 : decode code 1002 = .ok (.aload_n 0, 1) := by decide +kernel
theorem d_LA_law_1003 : decode code 1003 = .ok (.iload 4, 2) := by decide +kernel
theorem d_LA_law_1005 : decode code 1005 = .ok (.iconst 2, 1) := by decide +kernel
theorem d_LA_law_1006 : decode code 1006 = .ok (.iadd, 1) := by decide +kernel
theorem d_LA_law_1007 : decode code 1007 = .ok (.iaload, 1) := by decide +kernel
theorem d_LA_law_1008 : decode code 1008 = .ok (.aload_n 3, 1) := by decide +kernel
theorem d_LA_law_1009 : decode code 1009 = .ok (.invokestatic 137, 3) := by decide +kernel
theorem d_LA_law_1012 : decode code 1012 = .ok (.istore 5, 2) := by decide +kernel
theorem d_LA_law_1014 : decode code 1014 = .ok (.aload_n 2, 1) := by decide +kernel
theorem d_LA_law_1015 : decode code 1015 = .ok (.aload_n 0, 1) := by decide +kernel
theorem d_LA_law_1016 : decode code 1016 = .ok (.iload 4, 2) := by decide +kernel
theorem d_LA_law_1018 : decode code 1018 = .ok (.iconst 1, 1) := by decide +kernel
theorem d_LA_law_1019 : decode code 1019 = .ok (.iadd, 1) := by decide +kernel
theorem d_LA_law_1020 : decode code 1020 = .ok (.iaload, 1) := by decide +kernel
theorem d_LA_law_1021 : decode code 1021 = .ok (.aload_n 0, 1) := by decide +kernel
theorem d_LA_law_1022 : decode code 1022 = .ok (.iload 4, 2) := by decide +kernel
theorem d_LA_law_1024 : decode code 1024 = .ok (.iconst 2, 1) := by decide +kernel
theorem d_LA_law_1025 : decode code 1025 = .ok (.iadd, 1) := by decide +kernel
theorem d_LA_law_1026 : decode code 1026 = .ok (.iaload, 1) := by decide +kernel
theorem d_LA_law_1027 : decode code 1027 = .ok (.invokevirtual 139, 3) := by decide +kernel
theorem d_LA_law_1030 : decode code 1030 = .ok (.istore 6, 2) := by decide +kernel
theorem d_LA_law_1032 : decode code 1032 = .ok (.aload_n 2, 1) := by decide +kernel
theorem d_LA_law_1033 : decode code 1033 = .ok (.invokevirtual 90, 3) := by decide +kernel
theorem d_LA_law_1036 : decode code 1036 = .ok (.iload 5, 2) := by decide +kernel
theorem d_LA_law_1038 : decode code 1038 = .ok (.if_icmp .eq 5, 3) := by decide +kernel
theorem d_LA_law_1041 : decode code 1041 = .ok (.iconst 0, 1) := by decide +kernel
theorem d_LA_law_1042 : decode code 1042 = .ok (.ireturn, 1) := by decide +kernel
theorem d_LA_law_1043 : decode code 1043 = .ok (.iload 5, 2) := by decide +kernel
theorem d_LA_law_1045 : decode code 1045 = .ok (.ifCond .ne 15, 3) := by decide +kernel
theorem d_LA_law_1048 : decode code 1048 = .ok (.aload_n 3, 1) := by decide +kernel
theorem d_LA_law_1049 : decode code 1049 = .ok (.iconst 0, 1) := by decide +kernel
theorem d_LA_law_1050 : decode code 1050 = .ok (.laload, 1) := by decide +kernel
theorem d_LA_law_1051 : decode code 1051 = .ok (.iload 6, 2) := by decide +kernel
theorem d_LA_law_1053 : decode code 1053 = .ok (.i2l, 1) := by decide +kernel
theorem d_LA_law_1054 : decode code 1054 = .ok (.lcmp, 1) := by decide +kernel
theorem d_LA_law_1055 : decode code 1055 = .ok (.ifCond .eq 5, 3) := by decide +kernel
theorem d_LA_law_1058 : decode code 1058 = .ok (.iconst 0, 1) := by decide +kernel
theorem d_LA_law_1059 : decode code 1059 = .ok (.ireturn, 1) := by decide +kernel
theorem d_LA_law_1060 : decode code 1060 = .ok (.goto 288, 3) := by decide +kernel
theorem d_LA_law_1063 : decode code 1063 = .ok (.aload_n 1, 1) := by decide +kernel
theorem d_LA_law_1064 : decode code 1064 = .ok (.aload_n 0, 1) := by decide +kernel
theorem d_LA_law_1065 : decode code 1065 = .ok (.iload 4, 2) := by decide +kernel
theorem d_LA_law_1067 : decode code 1067 = .ok (.iconst 1, 1) := by decide +kernel
theorem d_LA_law_1068 : decode code 1068 = .ok (.iadd, 1) := by decide +kernel
theorem d_LA_law_1069 : decode code 1069 = .ok (.iaload, 1) := by decide +kernel
theorem d_LA_law_1070 : decode code 1070 = .ok (.aload_n 3, 1) := by decide +kernel
theorem d_LA_law_1071 : decode code 1071 = .ok (.invokestatic 140, 3) := by decide +kernel
theorem d_LA_law_1074 : decode code 1074 = .ok (.istore 5, 2) := by decide +kernel
theorem d_LA_law_1076 : decode code 1076 = .ok (.aload_n 2, 1) := by decide +kernel
theorem d_LA_law_1077 : decode code 1077 = .ok (.aload_n 0, 1) := by decide +kernel
theorem d_LA_law_1078 : decode code 1078 = .ok (.iload 4, 2) := by decide +kernel
theorem d_LA_law_1080 : decode code 1080 = .ok (.iconst 1, 1) := by decide +kernel
theorem d_LA_law_1081 : decode code 1081 = .ok (.iadd, 1) := by decide +kernel
theorem d_LA_law_1082 : decode code 1082 = .ok (.iaload, 1) := by decide +kernel
theorem d_LA_law_1083 : decode code 1083 = .ok (.invokevirtual 142, 3) := by decide +kernel
theorem d_LA_law_1086 : decode code 1086 = .ok (.istore 6, 2) := by decide +kernel
theorem d_LA_law_1088 : decode code 1088 = .ok (.aload_n 2, 1) := by decide +kernel
theorem d_LA_law_1089 : decode code 1089 = .ok (.invokevirtual 90, 3) := by decide +kernel
theorem d_LA_law_1092 : decode code 1092 = .ok (.iload 5, 2) := by decide +kernel
theorem d_LA_law_1094 : decode code 1094 = .ok (.if_icmp .eq 5, 3) := by decide +kernel
theorem d_LA_law_1097 : decode code 1097 = .ok (.iconst 0, 1) := by decide +kernel
theorem d_LA_law_1098 : decode code 1098 = .ok (.ireturn, 1) := by decide +kernel
theorem d_LA_law_1099 : decode code 1099 = .ok (.iload 5, 2) := by decide +kernel
theorem d_LA_law_1101 : decode code 1101 = .ok (.ifCond .ne 15, 3) := by decide +kernel
theorem d_LA_law_1104 : decode code 1104 = .ok (.aload_n 3, 1) := by decide +kernel
theorem d_LA_law_1105 : decode code 1105 = .ok (.iconst 0, 1) := by decide +kernel
theorem d_LA_law_1106 : decode code 1106 = .ok (.laload, 1) := by decide +kernel
theorem d_LA_law_1107 : decode code 1107 = .ok (.iload 6, 2) := by decide +kernel
theorem d_LA_law_1109 : decode code 1109 = .ok (.i2l, 1) := by decide +kernel
theorem d_LA_law_1110 : decode code 1110 = .ok (.lcmp, 1) := by decide +kernel
theorem d_LA_law_1111 : decode code 1111 = .ok (.ifCond .eq 5, 3) := by decide +kernel
theorem d_LA_law_1114 : decode code 1114 = .ok (.iconst 0, 1) := by decide +kernel
theorem d_LA_law_1115 : decode code 1115 = .ok (.ireturn, 1) := by decide +kernel
theorem d_LA_law_1116 : decode code 1116 = .ok (.goto 232, 3) := by decide +kernel
theorem d_LA_law_1119 : decode code 1119 = .ok (.aload_n 1, 1) := by decide +kernel
theorem d_LA_law_1120 : decode code 1120 = .ok (.aload_n 0, 1) := by decide +kernel
theorem d_LA_law_1121 : decode code 1121 = .ok (.iload 4, 2) := by decide +kernel
theorem d_LA_law_1123 : decode code 1123 = .ok (.iconst 1, 1) := by decide +kernel
theorem d_LA_law_1124 : decode code 1124 = .ok (.iadd, 1) := by decide +kernel
theorem d_LA_law_1125 : decode code 1125 = .ok (.iaload, 1) := by decide +kernel
theorem d_LA_law_1126 : decode code 1126 = .ok (.aload_n 0, 1) := by decide +kernel
theorem d_LA_law_1127 : decode code 1127 = .ok (.iload 4, 2) := by decide +kernel
theorem d_LA_law_1129 : decode code 1129 = .ok (.iconst 2, 1) := by decide +kernel
theorem d_LA_law_1130 : decode code 1130 = .ok (.iadd, 1) := by decide +kernel
theorem d_LA_law_1131 : decode code 1131 = .ok (.iaload, 1) := by decide +kernel
theorem d_LA_law_1132 : decode code 1132 = .ok (.aload_n 3, 1) := by decide +kernel
theorem d_LA_law_1133 : decode code 1133 = .ok (.invokestatic 143, 3) := by decide +kernel
theorem d_LA_law_1136 : decode code 1136 = .ok (.istore 5, 2) := by decide +kernel
theorem d_LA_law_1138 : decode code 1138 = .ok (.aload_n 2, 1) := by decide +kernel
theorem d_LA_law_1139 : decode code 1139 = .ok (.aload_n 0, 1) := by decide +kernel
theorem d_LA_law_1140 : decode code 1140 = .ok (.iload 4, 2) := by decide +kernel
theorem d_LA_law_1142 : decode code 1142 = .ok (.iconst 1, 1) := by decide +kernel
theorem d_LA_law_1143 : decode code 1143 = .ok (.iadd, 1) := by decide +kernel
theorem d_LA_law_1144 : decode code 1144 = .ok (.iaload, 1) := by decide +kernel
theorem d_LA_law_1145 : decode code 1145 = .ok (.aload_n 0, 1) := by decide +kernel
theorem d_LA_law_1146 : decode code 1146 = .ok (.iload 4, 2) := by decide +kernel
theorem d_LA_law_1148 : decode code 1148 = .ok (.iconst 2, 1) := by decide +kernel
theorem d_LA_law_1149 : decode code 1149 = .ok (.iadd, 1) := by decide +kernel
theorem d_LA_law_1150 : decode code 1150 = .ok (.iaload, 1) := by decide +kernel
theorem d_LA_law_1151 : decode code 1151 = .ok (.invokevirtual 145, 3) := by decide +kernel
theorem d_LA_law_1154 : decode code 1154 = .ok (.istore 6, 2) := by decide +kernel
theorem d_LA_law_1156 : decode code 1156 = .ok (.aload_n 2, 1) := by decide +kernel
theorem d_LA_law_1157 : decode code 1157 = .ok (.invokevirtual 90, 3) := by decide +kernel
theorem d_LA_law_1160 : decode code 1160 = .ok (.iload 5, 2) := by decide +kernel
theorem d_LA_law_1162 : decode code 1162 = .ok (.if_icmp .eq 5, 3) := by decide +kernel
theorem d_LA_law_1165 : decode code 1165 = .ok (.iconst 0, 1) := by decide +kernel
theorem d_LA_law_1166 : decode code 1166 = .ok (.ireturn, 1) := by decide +kernel
theorem d_LA_law_1167 : decode code 1167 = .ok (.iload 5, 2) := by decide +kernel
theorem d_LA_law_1169 : decode code 1169 = .ok (.ifCond .ne 15, 3) := by decide +kernel
theorem d_LA_law_1172 : decode code 1172 = .ok (.aload_n 3, 1) := by decide +kernel
theorem d_LA_law_1173 : decode code 1173 = .ok (.iconst 0, 1) := by decide +kernel
theorem d_LA_law_1174 : decode code 1174 = .ok (.laload, 1) := by decide +kernel
theorem d_LA_law_1175 : decode code 1175 = .ok (.iload 6, 2) := by decide +kernel
theorem d_LA_law_1177 : decode code 1177 = .ok (.i2l, 1) := by decide +kernel
theorem d_LA_law_1178 : decode code 1178 = .ok (.lcmp, 1) := by decide +kernel
theorem d_LA_law_1179 : decode code 1179 = .ok (.ifCond .eq 5, 3) := by decide +kernel
theorem d_LA_law_1182 : decode code 1182 = .ok (.iconst 0, 1) := by decide +kernel
theorem d_LA_law_1183 : decode code 1183 = .ok (.ireturn, 1) := by decide +kernel
theorem d_LA_law_1184 : decode code 1184 = .ok (.goto 164, 3) := by decide +kernel
theorem d_LA_law_1187 : decode code 1187 = .ok (.aload_n 1, 1) := by decide +kernel
theorem d_LA_law_1188 : decode code 1188 = .ok (.aload_n 0, 1) := by decide +kernel
theorem d_LA_law_1189 : decode code 1189 = .ok (.iload 4, 2) := by decide +kernel
theorem d_LA_law_1191 : decode code 1191 = .ok (.iconst 1, 1) := by decide +kernel
theorem d_LA_law_1192 : decode code 1192 = .ok (.iadd, 1) := by decide +kernel
theorem d_LA_law_1193 : decode code 1193 = .ok (.iaload, 1) := by decide +kernel
theorem d_LA_law_1194 : decode code 1194 = .ok (.aload_n 0, 1) := by decide +kernel
theorem d_LA_law_1195 : decode code 1195 = .ok (.iload 4, 2) := by decide +kernel
theorem d_LA_law_1197 : decode code 1197 = .ok (.iconst 2, 1) := by decide +kernel
theorem d_LA_law_1198 : decode code 1198 = .ok (.iadd, 1) := by decide +kernel
theorem d_LA_law_1199 : decode code 1199 = .ok (.iaload, 1) := by decide +kernel
theorem d_LA_law_1200 : decode code 1200 = .ok (.aload_n 3, 1) := by decide +kernel
theorem d_LA_law_1201 : decode code 1201 = .ok (.invokestatic 146, 3) := by decide +kernel
theorem d_LA_law_1204 : decode code 1204 = .ok (.istore 5, 2) := by decide +kernel
theorem d_LA_law_1206 : decode code 1206 = .ok (.aload_n 2, 1) := by decide +kernel
theorem d_LA_law_1207 : decode code 1207 = .ok (.aload_n 0, 1) := by decide +kernel
theorem d_LA_law_1208 : decode code 1208 = .ok (.iload 4, 2) := by decide +kernel
theorem d_LA_law_1210 : decode code 1210 = .ok (.iconst 1, 1) := by decide +kernel
theorem d_LA_law_1211 : decode code 1211 = .ok (.iadd, 1) := by decide +kernel
theorem d_LA_law_1212 : decode code 1212 = .ok (.iaload, 1) := by decide +kernel
theorem d_LA_law_1213 : decode code 1213 = .ok (.aload_n 0, 1) := by decide +kernel
theorem d_LA_law_1214 : decode code 1214 = .ok (.iload 4, 2) := by decide +kernel
theorem d_LA_law_1216 : decode code 1216 = .ok (.iconst 2, 1) := by decide +kernel
theorem d_LA_law_1217 : decode code 1217 = .ok (.iadd, 1) := by decide +kernel
theorem d_LA_law_1218 : decode code 1218 = .ok (.iaload, 1) := by decide +kernel
theorem d_LA_law_1219 : decode code 1219 = .ok (.invokevirtual 148, 3) := by decide +kernel
theorem d_LA_law_1222 : decode code 1222 = .ok (.istore 6, 2) := by decide +kernel
theorem d_LA_law_1224 : decode code 1224 = .ok (.aload_n 2, 1) := by decide +kernel
theorem d_LA_law_1225 : decode code 1225 = .ok (.invokevirtual 90, 3) := by decide +kernel
theorem d_LA_law_1228 : decode code 1228 = .ok (.iload 5, 2) := by decide +kernel
theorem d_LA_law_1230 : decode code 1230 = .ok (.if_icmp .eq 5, 3) := by decide +kernel
theorem d_LA_law_1233 : decode code 1233 = .ok (.iconst 0, 1) := by decide +kernel
theorem d_LA_law_1234 : decode code 1234 = .ok (.ireturn, 1) := by decide +kernel
theorem d_LA_law_1235 : decode code 1235 = .ok (.iload 5, 2) := by decide +kernel
theorem d_LA_law_1237 : decode code 1237 = .ok (.ifCond .ne 15, 3) := by decide +kernel
theorem d_LA_law_1240 : decode code 1240 = .ok (.aload_n 3, 1) := by decide +kernel
theorem d_LA_law_1241 : decode code 1241 = .ok (.iconst 0, 1) := by decide +kernel
theorem d_LA_law_1242 : decode code 1242 = .ok (.laload, 1) := by decide +kernel
theorem d_LA_law_1243 : decode code 1243 = .ok (.iload 6, 2) := by decide +kernel
theorem d_LA_law_1245 : decode code 1245 = .ok (.i2l, 1) := by decide +kernel
theorem d_LA_law_1246 : decode code 1246 = .ok (.lcmp, 1) := by decide +kernel
theorem d_LA_law_1247 : decode code 1247 = .ok (.ifCond .eq 5, 3) := by decide +kernel
theorem d_LA_law_1250 : decode code 1250 = .ok (.iconst 0, 1) := by decide +kernel
theorem d_LA_law_1251 : decode code 1251 = .ok (.ireturn, 1) := by decide +kernel
theorem d_LA_law_1252 : decode code 1252 = .ok (.goto 96, 3) := by decide +kernel
theorem d_LA_law_1255 : decode code 1255 = .ok (.aload_n 1, 1) := by decide +kernel
theorem d_LA_law_1256 : decode code 1256 = .ok (.aload_n 0, 1) := by decide +kernel
theorem d_LA_law_1257 : decode code 1257 = .ok (.iload 4, 2) := by decide +kernel
theorem d_LA_law_1259 : decode code 1259 = .ok (.iconst 1, 1) := by decide +kernel
theorem d_LA_law_1260 : decode code 1260 = .ok (.iadd, 1) := by decide +kernel
theorem d_LA_law_1261 : decode code 1261 = .ok (.iaload, 1) := by decide +kernel
theorem d_LA_law_1262 : decode code 1262 = .ok (.aload_n 0, 1) := by decide +kernel
theorem d_LA_law_1263 : decode code 1263 = .ok (.iload 4, 2) := by decide +kernel
theorem d_LA_law_1265 : decode code 1265 = .ok (.iconst 2, 1) := by decide +kernel
theorem d_LA_law_1266 : decode code 1266 = .ok (.iadd, 1) := by decide +kernel
theorem d_LA_law_1267 : decode code 1267 = .ok (.iaload, 1) := by decide +kernel
theorem d_LA_law_1268 : decode code 1268 = .ok (.aload_n 3, 1) := by decide +kernel
theorem d_LA_law_1269 : decode code 1269 = .ok (.invokestatic 149, 3) := by decide +kernel
theorem d_LA_law_1272 : decode code 1272 = .ok (.istore 5, 2) := by decide +kernel
theorem d_LA_law_1274 : decode code 1274 = .ok (.aload_n 2, 1) := by decide +kernel
theorem d_LA_law_1275 : decode code 1275 = .ok (.aload_n 0, 1) := by decide +kernel
theorem d_LA_law_1276 : decode code 1276 = .ok (.iload 4, 2) := by decide +kernel
theorem d_LA_law_1278 : decode code 1278 = .ok (.iconst 1, 1) := by decide +kernel
theorem d_LA_law_1279 : decode code 1279 = .ok (.iadd, 1) := by decide +kernel
theorem d_LA_law_1280 : decode code 1280 = .ok (.iaload, 1) := by decide +kernel
theorem d_LA_law_1281 : decode code 1281 = .ok (.aload_n 0, 1) := by decide +kernel
theorem d_LA_law_1282 : decode code 1282 = .ok (.iload 4, 2) := by decide +kernel
theorem d_LA_law_1284 : decode code 1284 = .ok (.iconst 2, 1) := by decide +kernel
theorem d_LA_law_1285 : decode code 1285 = .ok (.iadd, 1) := by decide +kernel
theorem d_LA_law_1286 : decode code 1286 = .ok (.iaload, 1) := by decide +kernel
theorem d_LA_law_1287 : decode code 1287 = .ok (.invokevirtual 151, 3) := by decide +kernel
theorem d_LA_law_1290 : decode code 1290 = .ok (.istore 6, 2) := by decide +kernel
theorem d_LA_law_1292 : decode code 1292 = .ok (.aload_n 2, 1) := by decide +kernel
theorem d_LA_law_1293 : decode code 1293 = .ok (.invokevirtual 90, 3) := by decide +kernel
theorem d_LA_law_1296 : decode code 1296 = .ok (.iload 5, 2) := by decide +kernel
theorem d_LA_law_1298 : decode code 1298 = .ok (.if_icmp .eq 5, 3) := by decide +kernel
theorem d_LA_law_1301 : decode code 1301 = .ok (.iconst 0, 1) := by decide +kernel
theorem d_LA_law_1302 : decode code 1302 = .ok (.ireturn, 1) := by decide +kernel
theorem d_LA_law_1303 : decode code 1303 = .ok (.iload 5, 2) := by decide +kernel
theorem d_LA_law_1305 : decode code 1305 = .ok (.ifCond .ne 15, 3) := by decide +kernel
theorem d_LA_law_1308 : decode code 1308 = .ok (.aload_n 3, 1) := by decide +kernel
theorem d_LA_law_1309 : decode code 1309 = .ok (.iconst 0, 1) := by decide +kernel
theorem d_LA_law_1310 : decode code 1310 = .ok (.laload, 1) := by decide +kernel
theorem d_LA_law_1311 : decode code 1311 = .ok (.iload 6, 2) := by decide +kernel
theorem d_LA_law_1313 : decode code 1313 = .ok (.i2l, 1) := by decide +kernel
theorem d_LA_law_1314 : decode code 1314 = .ok (.lcmp, 1) := by decide +kernel
theorem d_LA_law_1315 : decode code 1315 = .ok (.ifCond .eq 5, 3) := by decide +kernel
theorem d_LA_law_1318 : decode code 1318 = .ok (.iconst 0, 1) := by decide +kernel
theorem d_LA_law_1319 : decode code 1319 = .ok (.ireturn, 1) := by decide +kernel
theorem d_LA_law_1320 : decode code 1320 = .ok (.goto 28, 3) := by decide +kernel
theorem d_LA_law_1323 : decode code 1323 = .ok (.aload_n 1, 1) := by decide +kernel
theorem d_LA_law_1324 : decode code 1324 = .ok (.aload_n 0, 1) := by decide +kernel
theorem d_LA_law_1325 : decode code 1325 = .ok (.iload 4, 2) := by decide +kernel
theorem d_LA_law_1327 : decode code 1327 = .ok (.iconst 1, 1) := by decide +kernel
theorem d_LA_law_1328 : decode code 1328 = .ok (.iadd, 1) := by decide +kernel
theorem d_LA_law_1329 : decode code 1329 = .ok (.iaload, 1) := by decide +kernel
theorem d_LA_law_1330 : decode code 1330 = .ok (.invokevirtual 152, 3) := by decide +kernel
theorem d_LA_law_1333 : decode code 1333 = .ok (.aload_n 2, 1) := by decide +kernel
theorem d_LA_law_1334 : decode code 1334 = .ok (.aload_n 0, 1) := by decide +kernel
theorem d_LA_law_1335 : decode code 1335 = .ok (.iload 4, 2) := by decide +kernel
theorem d_LA_law_1337 : decode code 1337 = .ok (.iconst 1, 1) := by decide +kernel
theorem d_LA_law_1338 : decode code 1338 = .ok (.iadd, 1) := by decide +kernel
theorem d_LA_law_1339 : decode code 1339 = .ok (.iaload, 1) := by decide +kernel
theorem d_LA_law_1340 : decode code 1340 = .ok (.invokevirtual 155, 3) := by decide +kernel
theorem d_LA_law_1343 : decode code 1343 = .ok (.if_icmp .eq 5, 3) := by decide +kernel
theorem d_LA_law_1346 : decode code 1346 = .ok (.iconst 0, 1) := by decide +kernel
theorem d_LA_law_1347 : decode code 1347 = .ok (.ireturn, 1) := by decide +kernel
theorem d_LA_law_1348 : decode code 1348 = .ok (.iinc 4 4, 3) := by decide +kernel
theorem d_LA_law_1351 : decode code 1351 = .ok (.goto (-1328), 3) := by decide +kernel
theorem d_LA_law_1354 : decode code 1354 = .ok (.iconst 1, 1) := by decide +kernel
theorem d_LA_law_1355 : decode code 1355 = .ok (.ireturn, 1) := by decide +kernel
theorem d_LA_missing_0 : decode b_LA_missing 0 = .ok (.aload_n 0, 1) := by decide +kernel
theorem d_LA_missing_1 : decode b_LA_missing 1 = .ok (.iload_n 1, 1) := by decide +kernel
theorem d_LA_missing_2 : decode b_LA_missing 2 = .ok (.iload_n 2, 1) := by decide +kernel
theorem d_LA_missing_3 : decode b_LA_missing 3 = .ok (.invokevirtual 62, 3) := by decide +kernel
theorem d_LA_missing_6 : decode b_LA_missing 6 = .ok (.goto 12, 3) := by decide +kernel
theorem d_LA_missing_9 : decode b_LA_missing 9 = .ok (.astore_n 3, 1) := by decide +kernel
theorem d_LA_missing_10 : decode b_LA_missing 10 = .ok (.iconst 1, 1) := by decide +kernel
theorem d_LA_missing_11 : decode b_LA_missing 11 = .ok (.ireturn, 1) := by decide +kernel
theorem d_LA_missing_12 : decode b_LA_missing 12 = .ok (.astore_n 3, 1) := by decide +kernel
theorem d_LA_missing_13 : decode b_LA_missing 13 = .ok (.iconst 2, 1) := by decide +kernel
theorem d_LA_missing_14 : decode b_LA_missing 14 = .ok (.ireturn, 1) := by decide +kernel
theorem d_LA_missing_15 : decode b_LA_missing 15 = .ok (.astore_n 3, 1) := by decide +kernel
theorem d_LA_missing_16 : decode b_LA_missing 16 = .ok (.iconst 3, 1) := by decide +kernel
theorem d_LA_missing_17 : decode b_LA_missing 17 = .ok (.ireturn, 1) := by decide +kernel
theorem d_LA_missing_18 : decode b_LA_missing 18 = .ok (.iconst 0, 1) := by decide +kernel
theorem d_LA_missing_19 : decode b_LA_missing 19 = .ok (.ireturn, 1) := by decide +kernel
theorem d_LA_quarantine_0 : decode b_LA_quarantine 0 = .ok (.aload_n 0, 1) := by decide +kernel
theorem d_LA_quarantine_1 : decode b_LA_quarantine 1 = .ok (.iload_n 1, 1) := by decide +kernel
theorem d_LA_quarantine_2 : decode b_LA_quarantine 2 = .ok (.iload_n 2, 1) := by decide +kernel
theorem d_LA_quarantine_3 : decode b_LA_quarantine 3 = .ok (.invokevirtual 37, 3) := by decide +kernel
theorem d_LA_quarantine_6 : decode b_LA_quarantine 6 = .ok (.goto 9, 3) := by decide +kernel
theorem d_LA_quarantine_9 : decode b_LA_quarantine 9 = .ok (.astore_n 3, 1) := by decide +kernel
theorem d_LA_quarantine_10 : decode b_LA_quarantine 10 = .ok (.iconst 1, 1) := by decide +kernel
theorem d_LA_quarantine_11 : decode b_LA_quarantine 11 = .ok (.ireturn, 1) := by decide +kernel
theorem d_LA_quarantine_12 : decode b_LA_quarantine 12 = .ok (.astore_n 3, 1) := by decide +kernel
theorem d_LA_quarantine_13 : decode b_LA_quarantine 13 = .ok (.iconst 2, 1) := by decide +kernel
theorem d_LA_quarantine_14 : decode b_LA_quarantine 14 = .ok (.ireturn, 1) := by decide +kernel
theorem d_LA_quarantine_15 : decode b_LA_quarantine 15 = .ok (.iconst 0, 1) := by decide +kernel
theorem d_LA_quarantine_16 : decode b_LA_quarantine 16 = .ok (.ireturn, 1) := by decide +kernel
theorem d_LA_reason_0 : decode b_LA_reason 0 = .ok (.aload_n 3, 1) := by decide +kernel
theorem d_LA_reason_1 : decode b_LA_reason 1 = .ok (.iconst 0, 1) := by decide +kernel
theorem d_LA_reason_2 : decode b_LA_reason 2 = .ok (.aload_n 0, 1) := by decide +kernel
theorem d_LA_reason_3 : decode b_LA_reason 3 = .ok (.iload_n 1, 1) := by decide +kernel
theorem d_LA_reason_4 : decode b_LA_reason 4 = .ok (.iload_n 2, 1) := by decide +kernel
theorem d_LA_reason_5 : decode b_LA_reason 5 = .ok (.invokevirtual 71, 3) := by decide +kernel
theorem d_LA_reason_8 : decode b_LA_reason 8 = .ok (.i2l, 1) := by decide +kernel
theorem d_LA_reason_9 : decode b_LA_reason 9 = .ok (.lastore, 1) := by decide +kernel
theorem d_LA_reason_10 : decode b_LA_reason 10 = .ok (.goto 7, 3) := by decide +kernel
theorem d_LA_reason_13 : decode b_LA_reason 13 = .ok (.astore 4, 2) := by decide +kernel
theorem d_LA_reason_15 : decode b_LA_reason 15 = .ok (.iconst 1, 1) := by decide +kernel
theorem d_LA_reason_16 : decode b_LA_reason 16 = .ok (.ireturn, 1) := by decide +kernel
theorem d_LA_reason_17 : decode b_LA_reason 17 = .ok (.iconst 0, 1) := by decide +kernel
theorem d_LA_reason_18 : decode b_LA_reason 18 = .ok (.ireturn, 1) := by decide +kernel
theorem d_LA_refund_0 : decode b_LA_refund 0 = .ok (.aload_n 3, 1) := by decide +kernel
theorem d_LA_refund_1 : decode b_LA_refund 1 = .ok (.iconst 0, 1) := by decide +kernel
theorem d_LA_refund_2 : decode b_LA_refund 2 = .ok (.aload_n 0, 1) := by decide +kernel
theorem d_LA_refund_3 : decode b_LA_refund 3 = .ok (.iload_n 1, 1) := by decide +kernel
theorem d_LA_refund_4 : decode b_LA_refund 4 = .ok (.iload_n 2, 1) := by decide +kernel
theorem d_LA_refund_5 : decode b_LA_refund 5 = .ok (.invokevirtual 65, 3) := by decide +kernel
theorem d_LA_refund_8 : decode b_LA_refund 8 = .ok (.i2l, 1) := by decide +kernel
theorem d_LA_refund_9 : decode b_LA_refund 9 = .ok (.lastore, 1) := by decide +kernel
theorem d_LA_refund_10 : decode b_LA_refund 10 = .ok (.goto 15, 3) := by decide +kernel
theorem d_LA_refund_13 : decode b_LA_refund 13 = .ok (.astore 4, 2) := by decide +kernel
theorem d_LA_refund_15 : decode b_LA_refund 15 = .ok (.iconst 1, 1) := by decide +kernel
theorem d_LA_refund_16 : decode b_LA_refund 16 = .ok (.ireturn, 1) := by decide +kernel
theorem d_LA_refund_17 : decode b_LA_refund 17 = .ok (.astore 4, 2) := by decide +kernel
theorem d_LA_refund_19 : decode b_LA_refund 19 = .ok (.iconst 2, 1) := by decide +kernel
theorem d_LA_refund_20 : decode b_LA_refund 20 = .ok (.ireturn, 1) := by decide +kernel
theorem d_LA_refund_21 : decode b_LA_refund 21 = .ok (.astore 4, 2) := by decide +kernel
theorem d_LA_refund_23 : decode b_LA_refund 23 = .ok (.iconst 3, 1) := by decide +kernel
theorem d_LA_refund_24 : decode b_LA_refund 24 = .ok (.ireturn, 1) := by decide +kernel
theorem d_LA_refund_25 : decode b_LA_refund 25 = .ok (.iconst 0, 1) := by decide +kernel
theorem d_LA_refund_26 : decode b_LA_refund 26 = .ok (.ireturn, 1) := by decide +kernel
theorem d_LA_repair_0 : decode b_LA_repair 0 = .ok (.aload_n 0, 1) := by decide +kernel
theorem d_LA_repair_1 : decode b_LA_repair 1 = .ok (.iload_n 1, 1) := by decide +kernel
theorem d_LA_repair_2 : decode b_LA_repair 2 = .ok (.iload_n 2, 1) := by decide +kernel
theorem d_LA_repair_3 : decode b_LA_repair 3 = .ok (.invokevirtual 47, 3) := by decide +kernel
theorem d_LA_repair_6 : decode b_LA_repair 6 = .ok (.goto 12, 3) := by decide +kernel
theorem d_LA_repair_9 : decode b_LA_repair 9 = .ok (.astore_n 3, 1) := by decide +kernel
theorem d_LA_repair_10 : decode b_LA_repair 10 = .ok (.iconst 1, 1) := by decide +kernel
theorem d_LA_repair_11 : decode b_LA_repair 11 = .ok (.ireturn, 1) := by decide +kernel
theorem d_LA_repair_12 : decode b_LA_repair 12 = .ok (.astore_n 3, 1) := by decide +kernel
theorem d_LA_repair_13 : decode b_LA_repair 13 = .ok (.iconst 2, 1) := by decide +kernel
theorem d_LA_repair_14 : decode b_LA_repair 14 = .ok (.ireturn, 1) := by decide +kernel
theorem d_LA_repair_15 : decode b_LA_repair 15 = .ok (.astore_n 3, 1) := by decide +kernel
theorem d_LA_repair_16 : decode b_LA_repair 16 = .ok (.iconst 3, 1) := by decide +kernel
theorem d_LA_repair_17 : decode b_LA_repair 17 = .ok (.ireturn, 1) := by decide +kernel
theorem d_LA_repair_18 : decode b_LA_repair 18 = .ok (.iconst 0, 1) := by decide +kernel
theorem d_LA_repair_19 : decode b_LA_repair 19 = .ok (.ireturn, 1) := by decide +kernel
theorem d_LA_sale_0 : decode b_LA_sale 0 = .ok (.aload 4, 2) := by decide +kernel
theorem d_LA_sale_2 : decode b_LA_sale 2 = .ok (.iconst 0, 1) := by decide +kernel
theorem d_LA_sale_3 : decode b_LA_sale 3 = .ok (.aload_n 0, 1) := by decide +kernel
theorem d_LA_sale_4 : decode b_LA_sale 4 = .ok (.iload_n 1, 1) := by decide +kernel
theorem d_LA_sale_5 : decode b_LA_sale 5 = .ok (.iload_n 2, 1) := by decide +kernel
theorem d_LA_sale_6 : decode b_LA_sale 6 = .ok (.iload_n 3, 1) := by decide +kernel
theorem d_LA_sale_7 : decode b_LA_sale 7 = .ok (.invokevirtual 15, 3) := by decide +kernel
theorem d_LA_sale_10 : decode b_LA_sale 10 = .ok (.i2l, 1) := by decide +kernel
theorem d_LA_sale_11 : decode b_LA_sale 11 = .ok (.lastore, 1) := by decide +kernel
theorem d_LA_sale_12 : decode b_LA_sale 12 = .ok (.goto 11, 3) := by decide +kernel
theorem d_LA_sale_15 : decode b_LA_sale 15 = .ok (.astore 5, 2) := by decide +kernel
theorem d_LA_sale_17 : decode b_LA_sale 17 = .ok (.iconst 1, 1) := by decide +kernel
theorem d_LA_sale_18 : decode b_LA_sale 18 = .ok (.ireturn, 1) := by decide +kernel
theorem d_LA_sale_19 : decode b_LA_sale 19 = .ok (.astore 5, 2) := by decide +kernel
theorem d_LA_sale_21 : decode b_LA_sale 21 = .ok (.iconst 2, 1) := by decide +kernel
theorem d_LA_sale_22 : decode b_LA_sale 22 = .ok (.ireturn, 1) := by decide +kernel
theorem d_LA_sale_23 : decode b_LA_sale 23 = .ok (.iconst 0, 1) := by decide +kernel
theorem d_LA_sale_24 : decode b_LA_sale 24 = .ok (.ireturn, 1) := by decide +kernel
theorem d_LA_scrap_0 : decode b_LA_scrap 0 = .ok (.aload_n 3, 1) := by decide +kernel
theorem d_LA_scrap_1 : decode b_LA_scrap 1 = .ok (.iconst 0, 1) := by decide +kernel
theorem d_LA_scrap_2 : decode b_LA_scrap 2 = .ok (.aload_n 0, 1) := by decide +kernel
theorem d_LA_scrap_3 : decode b_LA_scrap 3 = .ok (.iload_n 1, 1) := by decide +kernel
theorem d_LA_scrap_4 : decode b_LA_scrap 4 = .ok (.iload_n 2, 1) := by decide +kernel
theorem d_LA_scrap_5 : decode b_LA_scrap 5 = .ok (.invokevirtual 54, 3) := by decide +kernel
theorem d_LA_scrap_8 : decode b_LA_scrap 8 = .ok (.ifCond .eq 7, 3) := by decide +kernel
theorem d_LA_scrap_11 : decode b_LA_scrap 11 = .ok (.lconst 1, 1) := by decide +kernel
theorem d_LA_scrap_12 : decode b_LA_scrap 12 = .ok (.goto 4, 3) := by decide +kernel
theorem d_LA_scrap_15 : decode b_LA_scrap 15 = .ok (.lconst 0, 1) := by decide +kernel
theorem d_LA_scrap_16 : decode b_LA_scrap 16 = .ok (.lastore, 1) := by decide +kernel
theorem d_LA_scrap_17 : decode b_LA_scrap 17 = .ok (.goto 15, 3) := by decide +kernel
theorem d_LA_scrap_20 : decode b_LA_scrap 20 = .ok (.astore 4, 2) := by decide +kernel
theorem d_LA_scrap_22 : decode b_LA_scrap 22 = .ok (.iconst 1, 1) := by decide +kernel
theorem d_LA_scrap_23 : decode b_LA_scrap 23 = .ok (.ireturn, 1) := by decide +kernel
theorem d_LA_scrap_24 : decode b_LA_scrap 24 = .ok (.astore 4, 2) := by decide +kernel
theorem d_LA_scrap_26 : decode b_LA_scrap 26 = .ok (.iconst 2, 1) := by decide +kernel
theorem d_LA_scrap_27 : decode b_LA_scrap 27 = .ok (.ireturn, 1) := by decide +kernel
theorem d_LA_scrap_28 : decode b_LA_scrap 28 = .ok (.astore 4, 2) := by decide +kernel
theorem d_LA_scrap_30 : decode b_LA_scrap 30 = .ok (.iconst 3, 1) := by decide +kernel
theorem d_LA_scrap_31 : decode b_LA_scrap 31 = .ok (.ireturn, 1) := by decide +kernel
theorem d_LA_scrap_32 : decode b_LA_scrap 32 = .ok (.iconst 0, 1) := by decide +kernel
theorem d_LA_scrap_33 : decode b_LA_scrap 33 = .ok (.ireturn, 1) := by decide +kernel
theorem d_LA_serial_0 : decode b_LA_serial 0 = .ok (.aload_n 3, 1) := by decide +kernel
theorem d_LA_serial_1 : decode b_LA_serial 1 = .ok (.iconst 0, 1) := by decide +kernel
theorem d_LA_serial_2 : decode b_LA_serial 2 = .ok (.aload_n 0, 1) := by decide +kernel
theorem d_LA_serial_3 : decode b_LA_serial 3 = .ok (.iload_n 1, 1) := by decide +kernel
theorem d_LA_serial_4 : decode b_LA_serial 4 = .ok (.iload_n 2, 1) := by decide +kernel
theorem d_LA_serial_5 : decode b_LA_serial 5 = .ok (.invokevirtual 33, 3) := by decide +kernel
theorem d_LA_serial_8 : decode b_LA_serial 8 = .ok (.i2l, 1) := by decide +kernel
theorem d_LA_serial_9 : decode b_LA_serial 9 = .ok (.lastore, 1) := by decide +kernel
theorem d_LA_serial_10 : decode b_LA_serial 10 = .ok (.goto 11, 3) := by decide +kernel
theorem d_LA_serial_13 : decode b_LA_serial 13 = .ok (.astore 4, 2) := by decide +kernel
theorem d_LA_serial_15 : decode b_LA_serial 15 = .ok (.iconst 1, 1) := by decide +kernel
theorem d_LA_serial_16 : decode b_LA_serial 16 = .ok (.ireturn, 1) := by decide +kernel
theorem d_LA_serial_17 : decode b_LA_serial 17 = .ok (.astore 4, 2) := by decide +kernel
theorem d_LA_serial_19 : decode b_LA_serial 19 = .ok (.iconst 2, 1) := by decide +kernel
theorem d_LA_serial_20 : decode b_LA_serial 20 = .ok (.ireturn, 1) := by decide +kernel
theorem d_LA_serial_21 : decode b_LA_serial 21 = .ok (.iconst 0, 1) := by decide +kernel
theorem d_LA_serial_22 : decode b_LA_serial 22 = .ok (.ireturn, 1) := by decide +kernel
theorem d_LA_step_0 : decode b_LA_step 0 = .ok (.aload_n 3, 1) := by decide +kernel
theorem d_LA_step_1 : decode b_LA_step 1 = .ok (.iconst 0, 1) := by decide +kernel
theorem d_LA_step_2 : decode b_LA_step 2 = .ok (.aload_n 0, 1) := by decide +kernel
theorem d_LA_step_3 : decode b_LA_step 3 = .ok (.iload_n 1, 1) := by decide +kernel
theorem d_LA_step_4 : decode b_LA_step 4 = .ok (.iload_n 2, 1) := by decide +kernel
theorem d_LA_step_5 : decode b_LA_step 5 = .ok (.invokevirtual 50, 3) := by decide +kernel
theorem d_LA_step_8 : decode b_LA_step 8 = .ok (.i2l, 1) := by decide +kernel
theorem d_LA_step_9 : decode b_LA_step 9 = .ok (.lastore, 1) := by decide +kernel
theorem d_LA_step_10 : decode b_LA_step 10 = .ok (.goto 11, 3) := by decide +kernel
theorem d_LA_step_13 : decode b_LA_step 13 = .ok (.astore 4, 2) := by decide +kernel
theorem d_LA_step_15 : decode b_LA_step 15 = .ok (.iconst 1, 1) := by decide +kernel
theorem d_LA_step_16 : decode b_LA_step 16 = .ok (.ireturn, 1) := by decide +kernel
theorem d_LA_step_17 : decode b_LA_step 17 = .ok (.astore 4, 2) := by decide +kernel
theorem d_LA_step_19 : decode b_LA_step 19 = .ok (.iconst 2, 1) := by decide +kernel
theorem d_LA_step_20 : decode b_LA_step 20 = .ok (.ireturn, 1) := by decide +kernel
theorem d_LA_step_21 : decode b_LA_step 21 = .ok (.iconst 0, 1) := by decide +kernel
theorem d_LA_step_22 : decode b_LA_step 22 = .ok (.ireturn, 1) := by decide +kernel
theorem d_LA_told_0 : decode b_LA_told 0 = .ok (.aload_n 3, 1) := by decide +kernel
theorem d_LA_told_1 : decode b_LA_told 1 = .ok (.iconst 0, 1) := by decide +kernel
theorem d_LA_told_2 : decode b_LA_told 2 = .ok (.aload_n 0, 1) := by decide +kernel
theorem d_LA_told_3 : decode b_LA_told 3 = .ok (.iload_n 1, 1) := by decide +kernel
theorem d_LA_told_4 : decode b_LA_told 4 = .ok (.iload_n 2, 1) := by decide +kernel
theorem d_LA_told_5 : decode b_LA_told 5 = .ok (.invokevirtual 77, 3) := by decide +kernel
theorem d_LA_told_8 : decode b_LA_told 8 = .ok (.i2l, 1) := by decide +kernel
theorem d_LA_told_9 : decode b_LA_told 9 = .ok (.lastore, 1) := by decide +kernel
theorem d_LA_told_10 : decode b_LA_told 10 = .ok (.goto 11, 3) := by decide +kernel
theorem d_LA_told_13 : decode b_LA_told 13 = .ok (.astore 4, 2) := by decide +kernel
theorem d_LA_told_15 : decode b_LA_told 15 = .ok (.iconst 1, 1) := by decide +kernel
theorem d_LA_told_16 : decode b_LA_told 16 = .ok (.ireturn, 1) := by decide +kernel
theorem d_LA_told_17 : decode b_LA_told 17 = .ok (.astore 4, 2) := by decide +kernel
theorem d_LA_told_19 : decode b_LA_told 19 = .ok (.iconst 2, 1) := by decide +kernel
theorem d_LA_told_20 : decode b_LA_told 20 = .ok (.ireturn, 1) := by decide +kernel
theorem d_LA_told_21 : decode b_LA_told 21 = .ok (.iconst 0, 1) := by decide +kernel
theorem d_LA_told_22 : decode b_LA_told 22 = .ok (.ireturn, 1) := by decide +kernel
