theorem dX11_named_40 : decode cX11_named 40 = .ok (.iconst 1, 1) := by decide +kernel
theorem dX11_named_41 : decode cX11_named 41 = .ok (.putfield 236, 3) := by decide +kernel
theorem dX11_named_44 : decode cX11_named 44 = .ok (.aload_n 0, 1) := by decide +kernel
theorem dX11_named_45 : decode cX11_named 45 = .ok (.getfield 236, 3) := by decide +kernel
theorem dX11_named_48 : decode cX11_named 48 = .ok (.ifCond .eq 7, 3) := by decide +kernel
theorem dX11_named_51 : decode cX11_named 51 = .ok (.iconst 0, 1) := by decide +kernel
theorem dX11_named_52 : decode cX11_named 52 = .ok (.goto 30, 3) := by decide +kernel
theorem dX11_named_55 : decode cX11_named 55 = .ok (.iload_n 1, 1) := by decide +kernel
theorem dX11_named_56 : decode cX11_named 56 = .ok (.iconst 1, 1) := by decide +kernel
theorem dX11_named_57 : decode cX11_named 57 = .ok (.if_icmp .ne 10, 3) := by decide +kernel
theorem dX11_named_60 : decode cX11_named 60 = .ok (.bipush 6, 2) := by decide +kernel
theorem dX11_named_62 : decode cX11_named 62 = .ok (.iload_n 2, 1) := by decide +kernel
theorem dX11_named_63 : decode cX11_named 63 = .ok (.iadd, 1) := by decide +kernel
theorem dX11_named_64 : decode cX11_named 64 = .ok (.goto 18, 3) := by decide +kernel
theorem dX11_named_67 : decode cX11_named 67 = .ok (.bipush 70, 2) := by decide +kernel
theorem dX11_named_69 : decode cX11_named 69 = .ok (.bipush 10, 2) := by decide +kernel
theorem dX11_named_71 : decode cX11_named 71 = .ok (.aload_n 0, 1) := by decide +kernel
theorem dX11_named_72 : decode cX11_named 72 = .ok (.getfield 233, 3) := by decide +kernel
theorem dX11_named_75 : decode cX11_named 75 = .ok (.imul, 1) := by decide +kernel
theorem dX11_named_76 : decode cX11_named 76 = .ok (.iadd, 1) := by decide +kernel
theorem dX11_named_77 : decode cX11_named 77 = .ok (.bipush 6, 2) := by decide +kernel
theorem dX11_named_79 : decode cX11_named 79 = .ok (.iadd, 1) := by decide +kernel
theorem dX11_named_80 : decode cX11_named 80 = .ok (.iload_n 2, 1) := by decide +kernel
theorem dX11_named_81 : decode cX11_named 81 = .ok (.iadd, 1) := by decide +kernel
theorem dX11_named_82 : decode cX11_named 82 = .ok (.ireturn, 1) := by decide +kernel
theorem dX11_value_0 : decode cX11_value 0 = .ok (.aload_n 0, 1) := by decide +kernel
theorem dX11_value_1 : decode cX11_value 1 = .ok (.invokevirtual 242, 3) := by decide +kernel
theorem dX11_value_4 : decode cX11_value 4 = .ok (.istore_n 1, 1) := by decide +kernel
theorem dX11_value_5 : decode cX11_value 5 = .ok (.iload_n 1, 1) := by decide +kernel
theorem dX11_value_6 : decode cX11_value 6 = .ok (.iconst 2, 1) := by decide +kernel
theorem dX11_value_7 : decode cX11_value 7 = .ok (.if_icmp .le 8, 3) := by decide +kernel
theorem dX11_value_10 : decode cX11_value 10 = .ok (.aload_n 0, 1) := by decide +kernel
theorem dX11_value_11 : decode cX11_value 11 = .ok (.iconst 1, 1) := by decide +kernel
theorem dX11_value_12 : decode cX11_value 12 = .ok (.putfield 236, 3) := by decide +kernel
theorem dX11_value_15 : decode cX11_value 15 = .ok (.aload_n 0, 1) := by decide +kernel
theorem dX11_value_16 : decode cX11_value 16 = .ok (.getfield 236, 3) := by decide +kernel
theorem dX11_value_19 : decode cX11_value 19 = .ok (.ifCond .eq 5, 3) := by decide +kernel
theorem dX11_value_22 : decode cX11_value 22 = .ok (.iconst 0, 1) := by decide +kernel
theorem dX11_value_23 : decode cX11_value 23 = .ok (.ireturn, 1) := by decide +kernel
theorem dX11_value_24 : decode cX11_value 24 = .ok (.iload_n 1, 1) := by decide +kernel
theorem dX11_value_25 : decode cX11_value 25 = .ok (.ifCond .ne 11, 3) := by decide +kernel
theorem dX11_value_28 : decode cX11_value 28 = .ok (.aload_n 0, 1) := by decide +kernel
theorem dX11_value_29 : decode cX11_value 29 = .ok (.invokevirtual 249, 3) := by decide +kernel
theorem dX11_value_32 : decode cX11_value 32 = .ok (.i2s, 1) := by decide +kernel
theorem dX11_value_33 : decode cX11_value 33 = .ok (.goto 13, 3) := by decide +kernel
theorem dX11_value_36 : decode cX11_value 36 = .ok (.aload_n 0, 1) := by decide +kernel
theorem dX11_value_37 : decode cX11_value 37 = .ok (.getfield 57, 3) := by decide +kernel
theorem dX11_value_40 : decode cX11_value 40 = .ok (.aload_n 0, 1) := by decide +kernel
theorem dX11_value_41 : decode cX11_value 41 = .ok (.iload_n 1, 1) := by decide +kernel
theorem dX11_value_42 : decode cX11_value 42 = .ok (.invokevirtual 252, 3) := by decide +kernel
theorem dX11_value_45 : decode cX11_value 45 = .ok (.iaload, 1) := by decide +kernel
theorem dX11_value_46 : decode cX11_value 46 = .ok (.ireturn, 1) := by decide +kernel
theorem dX11_target_0 : decode cX11_target 0 = .ok (.aload_n 0, 1) := by decide +kernel
theorem dX11_target_1 : decode cX11_target 1 = .ok (.invokevirtual 242, 3) := by decide +kernel
theorem dX11_target_4 : decode cX11_target 4 = .ok (.istore_n 1, 1) := by decide +kernel
theorem dX11_target_5 : decode cX11_target 5 = .ok (.iload_n 1, 1) := by decide +kernel
theorem dX11_target_6 : decode cX11_target 6 = .ok (.i2l, 1) := by decide +kernel
theorem dX11_target_7 : decode cX11_target 7 = .ok (.lconst 1, 1) := by decide +kernel
theorem dX11_target_8 : decode cX11_target 8 = .ok (.ldc2_w 255, 3) := by decide +kernel
theorem dX11_target_11 : decode cX11_target 11 = .ok (.invokestatic 72, 3) := by decide +kernel
theorem dX11_target_14 : decode cX11_target 14 = .ok (.ifCond .ne 8, 3) := by decide +kernel
theorem dX11_target_17 : decode cX11_target 17 = .ok (.aload_n 0, 1) := by decide +kernel
theorem dX11_target_18 : decode cX11_target 18 = .ok (.iconst 1, 1) := by decide +kernel
theorem dX11_target_19 : decode cX11_target 19 = .ok (.putfield 236, 3) := by decide +kernel
theorem dX11_target_22 : decode cX11_target 22 = .ok (.aload_n 0, 1) := by decide +kernel
theorem dX11_target_23 : decode cX11_target 23 = .ok (.getfield 236, 3) := by decide +kernel
theorem dX11_target_26 : decode cX11_target 26 = .ok (.ifCond .eq 7, 3) := by decide +kernel
theorem dX11_target_29 : decode cX11_target 29 = .ok (.iconst 0, 1) := by decide +kernel
theorem dX11_target_30 : decode cX11_target 30 = .ok (.goto 8, 3) := by decide +kernel
theorem dX11_target_33 : decode cX11_target 33 = .ok (.aload_n 0, 1) := by decide +kernel
theorem dX11_target_34 : decode cX11_target 34 = .ok (.iload_n 1, 1) := by decide +kernel
theorem dX11_target_35 : decode cX11_target 35 = .ok (.invokevirtual 252, 3) := by decide +kernel
theorem dX11_target_38 : decode cX11_target 38 = .ok (.ireturn, 1) := by decide +kernel
theorem dX11_jump_0 : decode cX11_jump 0 = .ok (.aload_n 0, 1) := by decide +kernel
theorem dX11_jump_1 : decode cX11_jump 1 = .ok (.invokevirtual 249, 3) := by decide +kernel
theorem dX11_jump_4 : decode cX11_jump 4 = .ok (.istore_n 1, 1) := by decide +kernel
theorem dX11_jump_5 : decode cX11_jump 5 = .ok (.iload_n 1, 1) := by decide +kernel
theorem dX11_jump_6 : decode cX11_jump 6 = .ok (.aload_n 0, 1) := by decide +kernel
theorem dX11_jump_7 : decode cX11_jump 7 = .ok (.getfield 33, 3) := by decide +kernel
theorem dX11_jump_10 : decode cX11_jump 10 = .ok (.aload_n 0, 1) := by decide +kernel
theorem dX11_jump_11 : decode cX11_jump 11 = .ok (.aload_n 0, 1) := by decide +kernel
theorem dX11_jump_12 : decode cX11_jump 12 = .ok (.getfield 233, 3) := by decide +kernel
theorem dX11_jump_15 : decode cX11_jump 15 = .ok (.iconst 0, 1) := by decide +kernel
theorem dX11_jump_16 : decode cX11_jump 16 = .ok (.invokevirtual 158, 3) := by decide +kernel
theorem dX11_jump_19 : decode cX11_jump 19 = .ok (.iaload, 1) := by decide +kernel
theorem dX11_jump_20 : decode cX11_jump 20 = .ok (.if_icmp .lt 8, 3) := by decide +kernel
theorem dX11_jump_23 : decode cX11_jump 23 = .ok (.aload_n 0, 1) := by decide +kernel
theorem dX11_jump_24 : decode cX11_jump 24 = .ok (.iconst 1, 1) := by decide +kernel
theorem dX11_jump_25 : decode cX11_jump 25 = .ok (.putfield 236, 3) := by decide +kernel
theorem dX11_jump_28 : decode cX11_jump 28 = .ok (.iload_n 1, 1) := by decide +kernel
theorem dX11_jump_29 : decode cX11_jump 29 = .ok (.ireturn, 1) := by decide +kernel
theorem dX11_reads_0 : decode cX11_reads 0 = .ok (.aload_n 0, 1) := by decide +kernel
theorem dX11_reads_1 : decode cX11_reads 1 = .ok (.iload_n 1, 1) := by decide +kernel
theorem dX11_reads_2 : decode cX11_reads 2 = .ok (.ifCond .eq 10, 3) := by decide +kernel
theorem dX11_reads_5 : decode cX11_reads 5 = .ok (.aload_n 0, 1) := by decide +kernel
theorem dX11_reads_6 : decode cX11_reads 6 = .ok (.invokevirtual 257, 3) := by decide +kernel
theorem dX11_reads_9 : decode cX11_reads 9 = .ok (.goto 4, 3) := by decide +kernel
theorem dX11_reads_12 : decode cX11_reads 12 = .ok (.iconst 0, 1) := by decide +kernel
theorem dX11_reads_13 : decode cX11_reads 13 = .ok (.putfield 260, 3) := by decide +kernel
theorem dX11_reads_16 : decode cX11_reads 16 = .ok (.iconst 0, 1) := by decide +kernel
theorem dX11_reads_17 : decode cX11_reads 17 = .ok (.istore 4, 2) := by decide +kernel
theorem dX11_reads_19 : decode cX11_reads 19 = .ok (.iload 4, 2) := by decide +kernel
theorem dX11_reads_21 : decode cX11_reads 21 = .ok (.iload_n 2, 1) := by decide +kernel
theorem dX11_reads_22 : decode cX11_reads 22 = .ok (.if_icmp .ge 20, 3) := by decide +kernel
theorem dX11_reads_25 : decode cX11_reads 25 = .ok (.aload_n 0, 1) := by decide +kernel
theorem dX11_reads_26 : decode cX11_reads 26 = .ok (.getfield 66, 3) := by decide +kernel
theorem dX11_reads_29 : decode cX11_reads 29 = .ok (.iload 4, 2) := by decide +kernel
theorem dX11_reads_31 : decode cX11_reads 31 = .ok (.aload_n 0, 1) := by decide +kernel
theorem dX11_reads_32 : decode cX11_reads 32 = .ok (.invokevirtual 263, 3) := by decide +kernel
theorem dX11_reads_35 : decode cX11_reads 35 = .ok (.iastore, 1) := by decide +kernel
theorem dX11_reads_36 : decode cX11_reads 36 = .ok (.iinc 4 1, 3) := by decide +kernel
theorem dX11_reads_39 : decode cX11_reads 39 = .ok (.goto (-20), 3) := by decide +kernel
theorem dX11_reads_42 : decode cX11_reads 42 = .ok (.aload_n 0, 1) := by decide +kernel
theorem dX11_reads_43 : decode cX11_reads 43 = .ok (.iload_n 3, 1) := by decide +kernel
theorem dX11_reads_44 : decode cX11_reads 44 = .ok (.ifCond .eq 10, 3) := by decide +kernel
theorem dX11_reads_47 : decode cX11_reads 47 = .ok (.aload_n 0, 1) := by decide +kernel
theorem dX11_reads_48 : decode cX11_reads 48 = .ok (.invokevirtual 266, 3) := by decide +kernel
theorem dX11_reads_51 : decode cX11_reads 51 = .ok (.goto 4, 3) := by decide +kernel
theorem dX11_reads_54 : decode cX11_reads 54 = .ok (.iconst 0, 1) := by decide +kernel
theorem dX11_reads_55 : decode cX11_reads 55 = .ok (.putfield 269, 3) := by decide +kernel
theorem dX11_reads_58 : decode cX11_reads 58 = .ok (.return_, 1) := by decide +kernel
theorem dX11_readOrder_0 : decode cX11_readOrder 0 = .ok (.iload_n 1, 1) := by decide +kernel
theorem dX11_readOrder_1 : decode cX11_readOrder 1 = .ok (.tableswitch 208 0 33 #[151, 151, 152, 208, 208, 208, 208, 208, 160, 160, 168, 168, 168, 176, 184, 168, 192, 192, 192, 184, 168, 184, 168, 208, 208, 208, 208, 208, 208, 208, 208, 200, 208, 168], 151) := by decide +kernel
theorem dX11_readOrder_152 : decode cX11_readOrder 152 = .ok (.return_, 1) := by decide +kernel
theorem dX11_readOrder_153 : decode cX11_readOrder 153 = .ok (.aload_n 0, 1) := by decide +kernel
theorem dX11_readOrder_154 : decode cX11_readOrder 154 = .ok (.iconst 0, 1) := by decide +kernel
theorem dX11_readOrder_155 : decode cX11_readOrder 155 = .ok (.iconst 0, 1) := by decide +kernel
theorem dX11_readOrder_156 : decode cX11_readOrder 156 = .ok (.iconst 1, 1) := by decide +kernel
theorem dX11_readOrder_157 : decode cX11_readOrder 157 = .ok (.invokevirtual 272, 3) := by decide +kernel
theorem dX11_readOrder_160 : decode cX11_readOrder 160 = .ok (.return_, 1) := by decide +kernel
theorem dX11_readOrder_161 : decode cX11_readOrder 161 = .ok (.aload_n 0, 1) := by decide +kernel
theorem dX11_readOrder_162 : decode cX11_readOrder 162 = .ok (.iconst 0, 1) := by decide +kernel
theorem dX11_readOrder_163 : decode cX11_readOrder 163 = .ok (.iconst 2, 1) := by decide +kernel
theorem dX11_readOrder_164 : decode cX11_readOrder 164 = .ok (.iconst 1, 1) := by decide +kernel
theorem dX11_readOrder_165 : decode cX11_readOrder 165 = .ok (.invokevirtual 272, 3) := by decide +kernel
theorem dX11_readOrder_168 : decode cX11_readOrder 168 = .ok (.return_, 1) := by decide +kernel
theorem dX11_readOrder_169 : decode cX11_readOrder 169 = .ok (.aload_n 0, 1) := by decide +kernel
theorem dX11_readOrder_170 : decode cX11_readOrder 170 = .ok (.iconst 0, 1) := by decide +kernel
theorem dX11_readOrder_171 : decode cX11_readOrder 171 = .ok (.iconst 1, 1) := by decide +kernel
theorem dX11_readOrder_172 : decode cX11_readOrder 172 = .ok (.iconst 0, 1) := by decide +kernel
theorem dX11_readOrder_173 : decode cX11_readOrder 173 = .ok (.invokevirtual 272, 3) := by decide +kernel
theorem dX11_readOrder_176 : decode cX11_readOrder 176 = .ok (.return_, 1) := by decide +kernel
theorem dX11_readOrder_177 : decode cX11_readOrder 177 = .ok (.aload_n 0, 1) := by decide +kernel
theorem dX11_readOrder_178 : decode cX11_readOrder 178 = .ok (.iconst 0, 1) := by decide +kernel
theorem dX11_readOrder_179 : decode cX11_readOrder 179 = .ok (.iconst 4, 1) := by decide +kernel
theorem dX11_readOrder_180 : decode cX11_readOrder 180 = .ok (.iconst 0, 1) := by decide +kernel
theorem dX11_readOrder_181 : decode cX11_readOrder 181 = .ok (.invokevirtual 272, 3) := by decide +kernel
theorem dX11_readOrder_184 : decode cX11_readOrder 184 = .ok (.return_, 1) := by decide +kernel
theorem dX11_readOrder_185 : decode cX11_readOrder 185 = .ok (.aload_n 0, 1) := by decide +kernel
theorem dX11_readOrder_186 : decode cX11_readOrder 186 = .ok (.iconst 0, 1) := by decide +kernel
theorem dX11_readOrder_187 : decode cX11_readOrder 187 = .ok (.iconst 3, 1) := by decide +kernel
theorem dX11_readOrder_188 : decode cX11_readOrder 188 = .ok (.iconst 0, 1) := by decide +kernel
theorem dX11_readOrder_189 : decode cX11_readOrder 189 = .ok (.invokevirtual 272, 3) := by decide +kernel
theorem dX11_readOrder_192 : decode cX11_readOrder 192 = .ok (.return_, 1) := by decide +kernel
theorem dX11_readOrder_193 : decode cX11_readOrder 193 = .ok (.aload_n 0, 1) := by decide +kernel
theorem dX11_readOrder_194 : decode cX11_readOrder 194 = .ok (.iconst 0, 1) := by decide +kernel
theorem dX11_readOrder_195 : decode cX11_readOrder 195 = .ok (.iconst 2, 1) := by decide +kernel
theorem dX11_readOrder_196 : decode cX11_readOrder 196 = .ok (.iconst 0, 1) := by decide +kernel
theorem dX11_readOrder_197 : decode cX11_readOrder 197 = .ok (.invokevirtual 272, 3) := by decide +kernel
theorem dX11_readOrder_200 : decode cX11_readOrder 200 = .ok (.return_, 1) := by decide +kernel
theorem dX11_readOrder_201 : decode cX11_readOrder 201 = .ok (.aload_n 0, 1) := by decide +kernel
theorem dX11_readOrder_202 : decode cX11_readOrder 202 = .ok (.iconst 1, 1) := by decide +kernel
theorem dX11_readOrder_203 : decode cX11_readOrder 203 = .ok (.iconst 2, 1) := by decide +kernel
theorem dX11_readOrder_204 : decode cX11_readOrder 204 = .ok (.iconst 0, 1) := by decide +kernel
theorem dX11_readOrder_205 : decode cX11_readOrder 205 = .ok (.invokevirtual 272, 3) := by decide +kernel
theorem dX11_readOrder_208 : decode cX11_readOrder 208 = .ok (.return_, 1) := by decide +kernel
theorem dX11_readOrder_209 : decode cX11_readOrder 209 = .ok (.iload_n 1, 1) := by decide +kernel
theorem dX11_readOrder_210 : decode cX11_readOrder 210 = .ok (.i2l, 1) := by decide +kernel
theorem dX11_readOrder_211 : decode cX11_readOrder 211 = .ok (.ldc2_w 247, 3) := by decide +kernel
theorem dX11_readOrder_214 : decode cX11_readOrder 214 = .ok (.ldc2_w 276, 3) := by decide +kernel
theorem dX11_readOrder_217 : decode cX11_readOrder 217 = .ok (.invokestatic 72, 3) := by decide +kernel
theorem dX11_readOrder_220 : decode cX11_readOrder 220 = .ok (.ifCond .ne 23, 3) := by decide +kernel
theorem dX11_readOrder_223 : decode cX11_readOrder 223 = .ok (.iload_n 1, 1) := by decide +kernel
theorem dX11_readOrder_224 : decode cX11_readOrder 224 = .ok (.i2l, 1) := by decide +kernel
theorem dX11_readOrder_225 : decode cX11_readOrder 225 = .ok (.ldc2_w 278, 3) := by decide +kernel
theorem dX11_readOrder_228 : decode cX11_readOrder 228 = .ok (.ldc2_w 280, 3) := by decide +kernel
theorem dX11_readOrder_231 : decode cX11_readOrder 231 = .ok (.invokestatic 72, 3) := by decide +kernel
theorem dX11_readOrder_234 : decode cX11_readOrder 234 = .ok (.ifCond .ne 9, 3) := by decide +kernel
theorem dX11_readOrder_237 : decode cX11_readOrder 237 = .ok (.aload_n 0, 1) := by decide +kernel
theorem dX11_readOrder_238 : decode cX11_readOrder 238 = .ok (.iconst 1, 1) := by decide +kernel
theorem dX11_readOrder_239 : decode cX11_readOrder 239 = .ok (.putfield 236, 3) := by decide +kernel
theorem dX11_readOrder_242 : decode cX11_readOrder 242 = .ok (.return_, 1) := by decide +kernel
theorem dX11_readOrder_243 : decode cX11_readOrder 243 = .ok (.aload_n 0, 1) := by decide +kernel
theorem dX11_readOrder_244 : decode cX11_readOrder 244 = .ok (.iconst 1, 1) := by decide +kernel
theorem dX11_readOrder_245 : decode cX11_readOrder 245 = .ok (.iconst 1, 1) := by decide +kernel
theorem dX11_readOrder_246 : decode cX11_readOrder 246 = .ok (.iconst 0, 1) := by decide +kernel
theorem dX11_readOrder_247 : decode cX11_readOrder 247 = .ok (.invokevirtual 272, 3) := by decide +kernel
theorem dX11_readOrder_250 : decode cX11_readOrder 250 = .ok (.return_, 1) := by decide +kernel
theorem dX11_isByte_0 : decode cX11_isByte 0 = .ok (.iload_n 0, 1) := by decide +kernel
theorem dX11_isByte_1 : decode cX11_isByte 1 = .ok (.i2l, 1) := by decide +kernel
theorem dX11_isByte_2 : decode cX11_isByte 2 = .ok (.lconst 0, 1) := by decide +kernel
theorem dX11_isByte_3 : decode cX11_isByte 3 = .ok (.ldc2_w 282, 3) := by decide +kernel
theorem dX11_isByte_6 : decode cX11_isByte 6 = .ok (.invokestatic 72, 3) := by decide +kernel
theorem dX11_isByte_9 : decode cX11_isByte 9 = .ok (.ireturn, 1) := by decide +kernel
theorem dX11_may_0 : decode cX11_may 0 = .ok (.iload_n 1, 1) := by decide +kernel
theorem dX11_may_1 : decode cX11_may 1 = .ok (.tableswitch 423 7 31 #[115, 423, 423, 423, 423, 423, 130, 190, 233, 244, 280, 311, 352, 423, 423, 423, 369, 369, 369, 369, 369, 380, 380, 423, 391], 115) := by decide +kernel
theorem dX11_may_116 : decode cX11_may 116 = .ok (.aload_n 0, 1) := by decide +kernel
theorem dX11_may_117 : decode cX11_may 117 = .ok (.getfield 66, 3) := by decide +kernel
theorem dX11_may_120 : decode cX11_may 120 = .ok (.iconst 0, 1) := by decide +kernel
theorem dX11_may_121 : decode cX11_may 121 = .ok (.iaload, 1) := by decide +kernel
theorem dX11_may_122 : decode cX11_may 122 = .ok (.ifCond .eq 7, 3) := by decide +kernel
theorem dX11_may_125 : decode cX11_may 125 = .ok (.iconst 1, 1) := by decide +kernel
theorem dX11_may_126 : decode cX11_may 126 = .ok (.goto 4, 3) := by decide +kernel
theorem dX11_may_129 : decode cX11_may 129 = .ok (.iconst 0, 1) := by decide +kernel
theorem dX11_may_130 : decode cX11_may 130 = .ok (.ireturn, 1) := by decide +kernel
theorem dX11_may_131 : decode cX11_may 131 = .ok (.aload_n 0, 1) := by decide +kernel
theorem dX11_may_132 : decode cX11_may 132 = .ok (.aload_n 0, 1) := by decide +kernel
theorem dX11_may_133 : decode cX11_may 133 = .ok (.getfield 66, 3) := by decide +kernel
theorem dX11_may_136 : decode cX11_may 136 = .ok (.iconst 0, 1) := by decide +kernel
theorem dX11_may_137 : decode cX11_may 137 = .ok (.iaload, 1) := by decide +kernel
theorem dX11_may_138 : decode cX11_may 138 = .ok (.invokevirtual 284, 3) := by decide +kernel
theorem dX11_may_141 : decode cX11_may 141 = .ok (.ifCond .eq 48, 3) := by decide +kernel
theorem dX11_may_144 : decode cX11_may 144 = .ok (.aload_n 0, 1) := by decide +kernel
theorem dX11_may_145 : decode cX11_may 145 = .ok (.getfield 66, 3) := by decide +kernel
theorem dX11_may_148 : decode cX11_may 148 = .ok (.iconst 1, 1) := by decide +kernel
theorem dX11_may_149 : decode cX11_may 149 = .ok (.iaload, 1) := by decide +kernel
theorem dX11_may_150 : decode cX11_may 150 = .ok (.i2l, 1) := by decide +kernel
theorem dX11_may_151 : decode cX11_may 151 = .ok (.lconst 0, 1) := by decide +kernel
theorem dX11_may_152 : decode cX11_may 152 = .ok (.ldc2_w 166, 3) := by decide +kernel
theorem dX11_may_155 : decode cX11_may 155 = .ok (.invokestatic 72, 3) := by decide +kernel
theorem dX11_may_158 : decode cX11_may 158 = .ok (.ifCond .eq 31, 3) := by decide +kernel
theorem dX11_may_161 : decode cX11_may 161 = .ok (.aload_n 0, 1) := by decide +kernel
theorem dX11_may_162 : decode cX11_may 162 = .ok (.getfield 66, 3) := by decide +kernel
theorem dX11_may_165 : decode cX11_may 165 = .ok (.iconst 2, 1) := by decide +kernel
theorem dX11_may_166 : decode cX11_may 166 = .ok (.iaload, 1) := by decide +kernel
theorem dX11_may_167 : decode cX11_may 167 = .ok (.invokestatic 287, 3) := by decide +kernel
theorem dX11_may_170 : decode cX11_may 170 = .ok (.ifCond .eq 19, 3) := by decide +kernel
theorem dX11_may_173 : decode cX11_may 173 = .ok (.aload_n 0, 1) := by decide +kernel
theorem dX11_may_174 : decode cX11_may 174 = .ok (.getfield 66, 3) := by decide +kernel
theorem dX11_may_177 : decode cX11_may 177 = .ok (.iconst 3, 1) := by decide +kernel
theorem dX11_may_178 : decode cX11_may 178 = .ok (.iaload, 1) := by decide +kernel
theorem dX11_may_179 : decode cX11_may 179 = .ok (.invokestatic 287, 3) := by decide +kernel
theorem dX11_may_182 : decode cX11_may 182 = .ok (.ifCond .eq 7, 3) := by decide +kernel
theorem dX11_may_185 : decode cX11_may 185 = .ok (.iconst 1, 1) := by decide +kernel
theorem dX11_may_186 : decode cX11_may 186 = .ok (.goto 4, 3) := by decide +kernel
theorem dX11_may_189 : decode cX11_may 189 = .ok (.iconst 0, 1) := by decide +kernel
theorem dX11_may_190 : decode cX11_may 190 = .ok (.ireturn, 1) := by decide +kernel
theorem dX11_may_191 : decode cX11_may 191 = .ok (.aload_n 0, 1) := by decide +kernel
theorem dX11_may_192 : decode cX11_may 192 = .ok (.aload_n 0, 1) := by decide +kernel
theorem dX11_may_193 : decode cX11_may 193 = .ok (.getfield 66, 3) := by decide +kernel
theorem dX11_may_196 : decode cX11_may 196 = .ok (.iconst 0, 1) := by decide +kernel
theorem dX11_may_197 : decode cX11_may 197 = .ok (.iaload, 1) := by decide +kernel
theorem dX11_may_198 : decode cX11_may 198 = .ok (.invokevirtual 284, 3) := by decide +kernel
theorem dX11_may_201 : decode cX11_may 201 = .ok (.ifCond .eq 31, 3) := by decide +kernel
theorem dX11_may_204 : decode cX11_may 204 = .ok (.aload_n 0, 1) := by decide +kernel
theorem dX11_may_205 : decode cX11_may 205 = .ok (.getfield 66, 3) := by decide +kernel
theorem dX11_may_208 : decode cX11_may 208 = .ok (.iconst 1, 1) := by decide +kernel
theorem dX11_may_209 : decode cX11_may 209 = .ok (.iaload, 1) := by decide +kernel
theorem dX11_may_210 : decode cX11_may 210 = .ok (.invokestatic 287, 3) := by decide +kernel
theorem dX11_may_213 : decode cX11_may 213 = .ok (.ifCond .eq 19, 3) := by decide +kernel
theorem dX11_may_216 : decode cX11_may 216 = .ok (.aload_n 0, 1) := by decide +kernel
theorem dX11_may_217 : decode cX11_may 217 = .ok (.getfield 66, 3) := by decide +kernel
theorem dX11_may_220 : decode cX11_may 220 = .ok (.iconst 2, 1) := by decide +kernel
theorem dX11_may_221 : decode cX11_may 221 = .ok (.iaload, 1) := by decide +kernel
theorem dX11_may_222 : decode cX11_may 222 = .ok (.invokestatic 287, 3) := by decide +kernel
theorem dX11_may_225 : decode cX11_may 225 = .ok (.ifCond .eq 7, 3) := by decide +kernel
theorem dX11_may_228 : decode cX11_may 228 = .ok (.iconst 1, 1) := by decide +kernel
theorem dX11_may_229 : decode cX11_may 229 = .ok (.goto 4, 3) := by decide +kernel
theorem dX11_may_232 : decode cX11_may 232 = .ok (.iconst 0, 1) := by decide +kernel
theorem dX11_may_233 : decode cX11_may 233 = .ok (.ireturn, 1) := by decide +kernel
theorem dX11_may_234 : decode cX11_may 234 = .ok (.aload_n 0, 1) := by decide +kernel
theorem dX11_may_235 : decode cX11_may 235 = .ok (.aload_n 0, 1) := by decide +kernel
theorem dX11_may_236 : decode cX11_may 236 = .ok (.getfield 66, 3) := by decide +kernel
theorem dX11_may_239 : decode cX11_may 239 = .ok (.iconst 0, 1) := by decide +kernel
theorem dX11_may_240 : decode cX11_may 240 = .ok (.iaload, 1) := by decide +kernel
theorem dX11_may_241 : decode cX11_may 241 = .ok (.invokevirtual 284, 3) := by decide +kernel
theorem dX11_may_244 : decode cX11_may 244 = .ok (.ireturn, 1) := by decide +kernel
theorem dX11_may_245 : decode cX11_may 245 = .ok (.aload_n 0, 1) := by decide +kernel
theorem dX11_may_246 : decode cX11_may 246 = .ok (.aload_n 0, 1) := by decide +kernel
theorem dX11_may_247 : decode cX11_may 247 = .ok (.getfield 66, 3) := by decide +kernel
theorem dX11_may_250 : decode cX11_may 250 = .ok (.iconst 0, 1) := by decide +kernel
theorem dX11_may_251 : decode cX11_may 251 = .ok (.iaload, 1) := by decide +kernel
theorem dX11_may_252 : decode cX11_may 252 = .ok (.invokevirtual 284, 3) := by decide +kernel
theorem dX11_may_255 : decode cX11_may 255 = .ok (.ifCond .eq 24, 3) := by decide +kernel
theorem dX11_may_258 : decode cX11_may 258 = .ok (.aload_n 0, 1) := by decide +kernel
theorem dX11_may_259 : decode cX11_may 259 = .ok (.getfield 66, 3) := by decide +kernel
theorem dX11_may_262 : decode cX11_may 262 = .ok (.iconst 1, 1) := by decide +kernel
theorem dX11_may_263 : decode cX11_may 263 = .ok (.iaload, 1) := by decide +kernel
theorem dX11_may_264 : decode cX11_may 264 = .ok (.i2l, 1) := by decide +kernel
theorem dX11_may_265 : decode cX11_may 265 = .ok (.lconst 0, 1) := by decide +kernel
theorem dX11_may_266 : decode cX11_may 266 = .ok (.ldc2_w 290, 3) := by decide +kernel
theorem dX11_may_269 : decode cX11_may 269 = .ok (.invokestatic 72, 3) := by decide +kernel
theorem dX11_may_272 : decode cX11_may 272 = .ok (.ifCond .eq 7, 3) := by decide +kernel
theorem dX11_may_275 : decode cX11_may 275 = .ok (.iconst 1, 1) := by decide +kernel
theorem dX11_may_276 : decode cX11_may 276 = .ok (.goto 4, 3) := by decide +kernel
theorem dX11_may_279 : decode cX11_may 279 = .ok (.iconst 0, 1) := by decide +kernel
theorem dX11_may_280 : decode cX11_may 280 = .ok (.ireturn, 1) := by decide +kernel
theorem dX11_may_281 : decode cX11_may 281 = .ok (.aload_n 0, 1) := by decide +kernel
theorem dX11_may_282 : decode cX11_may 282 = .ok (.aload_n 0, 1) := by decide +kernel
theorem dX11_may_283 : decode cX11_may 283 = .ok (.getfield 66, 3) := by decide +kernel
theorem dX11_may_286 : decode cX11_may 286 = .ok (.iconst 0, 1) := by decide +kernel
theorem dX11_may_287 : decode cX11_may 287 = .ok (.iaload, 1) := by decide +kernel
theorem dX11_may_288 : decode cX11_may 288 = .ok (.invokevirtual 292, 3) := by decide +kernel
theorem dX11_may_291 : decode cX11_may 291 = .ok (.ifCond .eq 19, 3) := by decide +kernel
theorem dX11_may_294 : decode cX11_may 294 = .ok (.aload_n 0, 1) := by decide +kernel
theorem dX11_may_295 : decode cX11_may 295 = .ok (.getfield 66, 3) := by decide +kernel
theorem dX11_may_298 : decode cX11_may 298 = .ok (.iconst 1, 1) := by decide +kernel
theorem dX11_may_299 : decode cX11_may 299 = .ok (.iaload, 1) := by decide +kernel
theorem dX11_may_300 : decode cX11_may 300 = .ok (.invokestatic 287, 3) := by decide +kernel
theorem dX11_may_303 : decode cX11_may 303 = .ok (.ifCond .eq 7, 3) := by decide +kernel
theorem dX11_may_306 : decode cX11_may 306 = .ok (.iconst 1, 1) := by decide +kernel
theorem dX11_may_307 : decode cX11_may 307 = .ok (.goto 4, 3) := by decide +kernel
theorem dX11_may_310 : decode cX11_may 310 = .ok (.iconst 0, 1) := by decide +kernel
theorem dX11_may_311 : decode cX11_may 311 = .ok (.ireturn, 1) := by decide +kernel
theorem dX11_may_312 : decode cX11_may 312 = .ok (.aload_n 0, 1) := by decide +kernel
theorem dX11_may_313 : decode cX11_may 313 = .ok (.aload_n 0, 1) := by decide +kernel
theorem dX11_may_314 : decode cX11_may 314 = .ok (.getfield 66, 3) := by decide +kernel
theorem dX11_may_317 : decode cX11_may 317 = .ok (.iconst 0, 1) := by decide +kernel
theorem dX11_may_318 : decode cX11_may 318 = .ok (.iaload, 1) := by decide +kernel
theorem dX11_may_319 : decode cX11_may 319 = .ok (.invokevirtual 292, 3) := by decide +kernel
theorem dX11_may_322 : decode cX11_may 322 = .ok (.ifCond .eq 29, 3) := by decide +kernel
theorem dX11_may_325 : decode cX11_may 325 = .ok (.aload_n 0, 1) := by decide +kernel
theorem dX11_may_326 : decode cX11_may 326 = .ok (.getfield 66, 3) := by decide +kernel
theorem dX11_may_329 : decode cX11_may 329 = .ok (.iconst 1, 1) := by decide +kernel
theorem dX11_may_330 : decode cX11_may 330 = .ok (.iaload, 1) := by decide +kernel
theorem dX11_may_331 : decode cX11_may 331 = .ok (.ifCond .eq 16, 3) := by decide +kernel
theorem dX11_may_334 : decode cX11_may 334 = .ok (.aload_n 0, 1) := by decide +kernel
theorem dX11_may_335 : decode cX11_may 335 = .ok (.aload_n 0, 1) := by decide +kernel
theorem dX11_may_336 : decode cX11_may 336 = .ok (.getfield 66, 3) := by decide +kernel
theorem dX11_may_339 : decode cX11_may 339 = .ok (.iconst 1, 1) := by decide +kernel
theorem dX11_may_340 : decode cX11_may 340 = .ok (.iaload, 1) := by decide +kernel
theorem dX11_may_341 : decode cX11_may 341 = .ok (.invokevirtual 284, 3) := by decide +kernel
theorem dX11_may_344 : decode cX11_may 344 = .ok (.ifCond .eq 7, 3) := by decide +kernel
theorem dX11_may_347 : decode cX11_may 347 = .ok (.iconst 1, 1) := by decide +kernel
theorem dX11_may_348 : decode cX11_may 348 = .ok (.goto 4, 3) := by decide +kernel
theorem dX11_may_351 : decode cX11_may 351 = .ok (.iconst 0, 1) := by decide +kernel
theorem dX11_may_352 : decode cX11_may 352 = .ok (.ireturn, 1) := by decide +kernel
theorem dX11_may_353 : decode cX11_may 353 = .ok (.aload_n 0, 1) := by decide +kernel
theorem dX11_may_354 : decode cX11_may 354 = .ok (.aload_n 0, 1) := by decide +kernel
theorem dX11_may_355 : decode cX11_may 355 = .ok (.getfield 66, 3) := by decide +kernel
theorem dX11_may_358 : decode cX11_may 358 = .ok (.iconst 0, 1) := by decide +kernel
theorem dX11_may_359 : decode cX11_may 359 = .ok (.iaload, 1) := by decide +kernel
theorem dX11_may_360 : decode cX11_may 360 = .ok (.aload_n 0, 1) := by decide +kernel
theorem dX11_may_361 : decode cX11_may 361 = .ok (.getfield 66, 3) := by decide +kernel
theorem dX11_may_364 : decode cX11_may 364 = .ok (.iconst 1, 1) := by decide +kernel
theorem dX11_may_365 : decode cX11_may 365 = .ok (.iaload, 1) := by decide +kernel
theorem dX11_may_366 : decode cX11_may 366 = .ok (.invokevirtual 295, 3) := by decide +kernel
theorem dX11_may_369 : decode cX11_may 369 = .ok (.ireturn, 1) := by decide +kernel
theorem dX11_may_370 : decode cX11_may 370 = .ok (.aload_n 0, 1) := by decide +kernel
theorem dX11_may_371 : decode cX11_may 371 = .ok (.aload_n 0, 1) := by decide +kernel
theorem dX11_may_372 : decode cX11_may 372 = .ok (.getfield 66, 3) := by decide +kernel
theorem dX11_may_375 : decode cX11_may 375 = .ok (.iconst 0, 1) := by decide +kernel
theorem dX11_may_376 : decode cX11_may 376 = .ok (.iaload, 1) := by decide +kernel
theorem dX11_may_377 : decode cX11_may 377 = .ok (.invokevirtual 284, 3) := by decide +kernel
theorem dX11_may_380 : decode cX11_may 380 = .ok (.ireturn, 1) := by decide +kernel
theorem dX11_may_381 : decode cX11_may 381 = .ok (.aload_n 0, 1) := by decide +kernel
theorem dX11_may_382 : decode cX11_may 382 = .ok (.aload_n 0, 1) := by decide +kernel
theorem dX11_may_383 : decode cX11_may 383 = .ok (.getfield 66, 3) := by decide +kernel
theorem dX11_may_386 : decode cX11_may 386 = .ok (.iconst 0, 1) := by decide +kernel
theorem dX11_may_387 : decode cX11_may 387 = .ok (.iaload, 1) := by decide +kernel
theorem dX11_may_388 : decode cX11_may 388 = .ok (.invokevirtual 292, 3) := by decide +kernel
theorem dX11_may_391 : decode cX11_may 391 = .ok (.ireturn, 1) := by decide +kernel
theorem dX11_may_392 : decode cX11_may 392 = .ok (.aload_n 0, 1) := by decide +kernel
theorem dX11_may_393 : decode cX11_may 393 = .ok (.aload_n 0, 1) := by decide +kernel
theorem dX11_may_394 : decode cX11_may 394 = .ok (.getfield 66, 3) := by decide +kernel
theorem dX11_may_397 : decode cX11_may 397 = .ok (.iconst 0, 1) := by decide +kernel
theorem dX11_may_398 : decode cX11_may 398 = .ok (.iaload, 1) := by decide +kernel
theorem dX11_may_399 : decode cX11_may 399 = .ok (.invokevirtual 284, 3) := by decide +kernel
theorem dX11_may_402 : decode cX11_may 402 = .ok (.ifCond .eq 20, 3) := by decide +kernel
theorem dX11_may_405 : decode cX11_may 405 = .ok (.aload_n 0, 1) := by decide +kernel
theorem dX11_may_406 : decode cX11_may 406 = .ok (.aload_n 0, 1) := by decide +kernel
theorem dX11_may_407 : decode cX11_may 407 = .ok (.getfield 66, 3) := by decide +kernel
theorem dX11_may_410 : decode cX11_may 410 = .ok (.iconst 1, 1) := by decide +kernel
theorem dX11_may_411 : decode cX11_may 411 = .ok (.iaload, 1) := by decide +kernel
theorem dX11_may_412 : decode cX11_may 412 = .ok (.invokevirtual 292, 3) := by decide +kernel
theorem dX11_may_415 : decode cX11_may 415 = .ok (.ifCond .eq 7, 3) := by decide +kernel
theorem dX11_may_418 : decode cX11_may 418 = .ok (.iconst 1, 1) := by decide +kernel
theorem dX11_may_419 : decode cX11_may 419 = .ok (.goto 4, 3) := by decide +kernel
theorem dX11_may_422 : decode cX11_may 422 = .ok (.iconst 0, 1) := by decide +kernel
theorem dX11_may_423 : decode cX11_may 423 = .ok (.ireturn, 1) := by decide +kernel
theorem dX11_may_424 : decode cX11_may 424 = .ok (.iconst 1, 1) := by decide +kernel
theorem dX11_may_425 : decode cX11_may 425 = .ok (.ireturn, 1) := by decide +kernel
theorem dX11_does_0 : decode cX11_does 0 = .ok (.iload_n 1, 1) := by decide +kernel
theorem dX11_does_1 : decode cX11_does 1 = .ok (.tableswitch 366 0 33 #[151, 161, 163, 366, 366, 366, 366, 366, 178, 215, 252, 273, 286, 366, 366, 291, 366, 366, 366, 366, 366, 366, 308, 366, 366, 366, 366, 366, 366, 366, 366, 366, 366, 361], 151) := by decide +kernel
theorem dX11_does_152 : decode cX11_does 152 = .ok (.aload_n 0, 1) := by decide +kernel
theorem dX11_does_153 : decode cX11_does 153 = .ok (.aload_n 0, 1) := by decide +kernel
theorem dX11_does_154 : decode cX11_does 154 = .ok (.getfield 233, 3) := by decide +kernel
theorem dX11_does_157 : decode cX11_does 157 = .ok (.invokevirtual 161, 3) := by decide +kernel
theorem dX11_does_160 : decode cX11_does 160 = .ok (.iconst 0, 1) := by decide +kernel
theorem dX11_does_161 : decode cX11_does 161 = .ok (.ireturn, 1) := by decide +kernel
theorem dX11_does_162 : decode cX11_does 162 = .ok (.iconst 0, 1) := by decide +kernel
theorem dX11_does_163 : decode cX11_does 163 = .ok (.ireturn, 1) := by decide +kernel
theorem dX11_does_164 : decode cX11_does 164 = .ok (.aload_n 0, 1) := by decide +kernel
theorem dX11_does_165 : decode cX11_does 165 = .ok (.aload_n 0, 1) := by decide +kernel
theorem dX11_does_166 : decode cX11_does 166 = .ok (.getfield 233, 3) := by decide +kernel
theorem dX11_does_169 : decode cX11_does 169 = .ok (.iconst 1, 1) := by decide +kernel
theorem dX11_does_170 : decode cX11_does 170 = .ok (.aload_n 0, 1) := by decide +kernel
theorem dX11_does_171 : decode cX11_does 171 = .ok (.getfield 269, 3) := by decide +kernel
theorem dX11_does_174 : decode cX11_does 174 = .ok (.invokevirtual 148, 3) := by decide +kernel
theorem dX11_does_177 : decode cX11_does 177 = .ok (.iconst 1, 1) := by decide +kernel
theorem dX11_does_178 : decode cX11_does 178 = .ok (.ireturn, 1) := by decide +kernel
theorem dX11_does_179 : decode cX11_does 179 = .ok (.aload_n 0, 1) := by decide +kernel
theorem dX11_does_180 : decode cX11_does 180 = .ok (.aload_n 0, 1) := by decide +kernel
theorem dX11_does_181 : decode cX11_does 181 = .ok (.getfield 233, 3) := by decide +kernel
theorem dX11_does_184 : decode cX11_does 184 = .ok (.iconst 1, 1) := by decide +kernel
theorem dX11_does_185 : decode cX11_does 185 = .ok (.aload_n 0, 1) := by decide +kernel
theorem dX11_does_186 : decode cX11_does 186 = .ok (.getfield 66, 3) := by decide +kernel
theorem dX11_does_189 : decode cX11_does 189 = .ok (.iconst 0, 1) := by decide +kernel
theorem dX11_does_190 : decode cX11_does 190 = .ok (.iaload, 1) := by decide +kernel
theorem dX11_does_191 : decode cX11_does 191 = .ok (.aload_n 0, 1) := by decide +kernel
theorem dX11_does_192 : decode cX11_does 192 = .ok (.getfield 66, 3) := by decide +kernel
theorem dX11_does_195 : decode cX11_does 195 = .ok (.iconst 1, 1) := by decide +kernel
theorem dX11_does_196 : decode cX11_does 196 = .ok (.iaload, 1) := by decide +kernel
theorem dX11_does_197 : decode cX11_does 197 = .ok (.if_icmp .ne 10, 3) := by decide +kernel
theorem dX11_does_200 : decode cX11_does 200 = .ok (.aload_n 0, 1) := by decide +kernel
theorem dX11_does_201 : decode cX11_does 201 = .ok (.getfield 269, 3) := by decide +kernel
theorem dX11_does_204 : decode cX11_does 204 = .ok (.goto 7, 3) := by decide +kernel
theorem dX11_does_207 : decode cX11_does 207 = .ok (.aload_n 0, 1) := by decide +kernel
theorem dX11_does_208 : decode cX11_does 208 = .ok (.getfield 239, 3) := by decide +kernel
theorem dX11_does_211 : decode cX11_does 211 = .ok (.invokevirtual 148, 3) := by decide +kernel
theorem dX11_does_214 : decode cX11_does 214 = .ok (.iconst 1, 1) := by decide +kernel
theorem dX11_does_215 : decode cX11_does 215 = .ok (.ireturn, 1) := by decide +kernel
theorem dX11_does_216 : decode cX11_does 216 = .ok (.aload_n 0, 1) := by decide +kernel
theorem dX11_does_217 : decode cX11_does 217 = .ok (.aload_n 0, 1) := by decide +kernel
theorem dX11_does_218 : decode cX11_does 218 = .ok (.getfield 233, 3) := by decide +kernel
theorem dX11_does_221 : decode cX11_does 221 = .ok (.iconst 1, 1) := by decide +kernel
theorem dX11_does_222 : decode cX11_does 222 = .ok (.aload_n 0, 1) := by decide +kernel
theorem dX11_does_223 : decode cX11_does 223 = .ok (.getfield 66, 3) := by decide +kernel
theorem dX11_does_226 : decode cX11_does 226 = .ok (.iconst 0, 1) := by decide +kernel
theorem dX11_does_227 : decode cX11_does 227 = .ok (.iaload, 1) := by decide +kernel
theorem dX11_does_228 : decode cX11_does 228 = .ok (.aload_n 0, 1) := by decide +kernel
theorem dX11_does_229 : decode cX11_does 229 = .ok (.getfield 66, 3) := by decide +kernel
theorem dX11_does_232 : decode cX11_does 232 = .ok (.iconst 1, 1) := by decide +kernel
theorem dX11_does_233 : decode cX11_does 233 = .ok (.iaload, 1) := by decide +kernel
theorem dX11_does_234 : decode cX11_does 234 = .ok (.if_icmp .ge 10, 3) := by decide +kernel
theorem dX11_does_237 : decode cX11_does 237 = .ok (.aload_n 0, 1) := by decide +kernel
theorem dX11_does_238 : decode cX11_does 238 = .ok (.getfield 269, 3) := by decide +kernel
theorem dX11_does_241 : decode cX11_does 241 = .ok (.goto 7, 3) := by decide +kernel
theorem dX11_does_244 : decode cX11_does 244 = .ok (.aload_n 0, 1) := by decide +kernel
theorem dX11_does_245 : decode cX11_does 245 = .ok (.getfield 239, 3) := by decide +kernel
theorem dX11_does_248 : decode cX11_does 248 = .ok (.invokevirtual 148, 3) := by decide +kernel
theorem dX11_does_251 : decode cX11_does 251 = .ok (.iconst 1, 1) := by decide +kernel
theorem dX11_does_252 : decode cX11_does 252 = .ok (.ireturn, 1) := by decide +kernel
theorem dX11_does_253 : decode cX11_does 253 = .ok (.aload_n 0, 1) := by decide +kernel
theorem dX11_does_254 : decode cX11_does 254 = .ok (.aload_n 0, 1) := by decide +kernel
theorem dX11_does_255 : decode cX11_does 255 = .ok (.getfield 233, 3) := by decide +kernel
theorem dX11_does_258 : decode cX11_does 258 = .ok (.iconst 2, 1) := by decide +kernel
theorem dX11_does_259 : decode cX11_does 259 = .ok (.iconst 0, 1) := by decide +kernel
theorem dX11_does_260 : decode cX11_does 260 = .ok (.aload_n 0, 1) := by decide +kernel
theorem dX11_does_261 : decode cX11_does 261 = .ok (.getfield 66, 3) := by decide +kernel
theorem dX11_does_264 : decode cX11_does 264 = .ok (.iconst 0, 1) := by decide +kernel
theorem dX11_does_265 : decode cX11_does 265 = .ok (.iaload, 1) := by decide +kernel
theorem dX11_does_266 : decode cX11_does 266 = .ok (.invokestatic 172, 3) := by decide +kernel
theorem dX11_does_269 : decode cX11_does 269 = .ok (.invokevirtual 148, 3) := by decide +kernel
theorem dX11_does_272 : decode cX11_does 272 = .ok (.iconst 0, 1) := by decide +kernel
theorem dX11_does_273 : decode cX11_does 273 = .ok (.ireturn, 1) := by decide +kernel
theorem dX11_does_274 : decode cX11_does 274 = .ok (.aload_n 0, 1) := by decide +kernel
theorem dX11_does_275 : decode cX11_does 275 = .ok (.aload_n 0, 1) := by decide +kernel
theorem dX11_does_276 : decode cX11_does 276 = .ok (.getfield 66, 3) := by decide +kernel
theorem dX11_does_279 : decode cX11_does 279 = .ok (.iconst 0, 1) := by decide +kernel
theorem dX11_does_280 : decode cX11_does 280 = .ok (.iaload, 1) := by decide +kernel
theorem dX11_does_281 : decode cX11_does 281 = .ok (.invokevirtual 298, 3) := by decide +kernel
theorem dX11_does_284 : decode cX11_does 284 = .ok (.istore_n 2, 1) := by decide +kernel
theorem dX11_does_285 : decode cX11_does 285 = .ok (.iconst 1, 1) := by decide +kernel
theorem dX11_does_286 : decode cX11_does 286 = .ok (.ireturn, 1) := by decide +kernel
theorem dX11_does_287 : decode cX11_does 287 = .ok (.aload_n 0, 1) := by decide +kernel
theorem dX11_does_288 : decode cX11_does 288 = .ok (.invokevirtual 301, 3) := by decide +kernel
theorem dX11_does_291 : decode cX11_does 291 = .ok (.ireturn, 1) := by decide +kernel
theorem dX11_does_292 : decode cX11_does 292 = .ok (.aload_n 0, 1) := by decide +kernel
theorem dX11_does_293 : decode cX11_does 293 = .ok (.aload_n 0, 1) := by decide +kernel
theorem dX11_does_294 : decode cX11_does 294 = .ok (.getfield 233, 3) := by decide +kernel
theorem dX11_does_297 : decode cX11_does 297 = .ok (.iconst 3, 1) := by decide +kernel
theorem dX11_does_298 : decode cX11_does 298 = .ok (.aload_n 0, 1) := by decide +kernel
theorem dX11_does_299 : decode cX11_does 299 = .ok (.getfield 66, 3) := by decide +kernel
theorem dX11_does_302 : decode cX11_does 302 = .ok (.iconst 0, 1) := by decide +kernel
theorem dX11_does_303 : decode cX11_does 303 = .ok (.iaload, 1) := by decide +kernel
theorem dX11_does_304 : decode cX11_does 304 = .ok (.invokevirtual 148, 3) := by decide +kernel
theorem dX11_does_307 : decode cX11_does 307 = .ok (.iconst 0, 1) := by decide +kernel
theorem dX11_does_308 : decode cX11_does 308 = .ok (.ireturn, 1) := by decide +kernel
theorem dX11_does_309 : decode cX11_does 309 = .ok (.iconst 0, 1) := by decide +kernel
theorem dX11_does_310 : decode cX11_does 310 = .ok (.istore_n 3, 1) := by decide +kernel
theorem dX11_does_311 : decode cX11_does 311 = .ok (.iload_n 3, 1) := by decide +kernel
theorem dX11_does_312 : decode cX11_does 312 = .ok (.bipush 8, 2) := by decide +kernel
theorem dX11_does_314 : decode cX11_does 314 = .ok (.if_icmp .ge 46, 3) := by decide +kernel
theorem dX11_does_317 : decode cX11_does 317 = .ok (.aload_n 0, 1) := by decide +kernel
theorem dX11_does_318 : decode cX11_does 318 = .ok (.iload_n 3, 1) := by decide +kernel
theorem dX11_does_319 : decode cX11_does 319 = .ok (.iconst 4, 1) := by decide +kernel
theorem dX11_does_320 : decode cX11_does 320 = .ok (.aload_n 0, 1) := by decide +kernel
theorem dX11_does_321 : decode cX11_does 321 = .ok (.getfield 66, 3) := by decide +kernel
theorem dX11_does_324 : decode cX11_does 324 = .ok (.iconst 0, 1) := by decide +kernel
theorem dX11_does_325 : decode cX11_does 325 = .ok (.iaload, 1) := by decide +kernel
theorem dX11_does_326 : decode cX11_does 326 = .ok (.ifCond .eq 24, 3) := by decide +kernel
theorem dX11_does_329 : decode cX11_does 329 = .ok (.iload_n 3, 1) := by decide +kernel
theorem dX11_does_330 : decode cX11_does 330 = .ok (.aload_n 0, 1) := by decide +kernel
theorem dX11_does_331 : decode cX11_does 331 = .ok (.getfield 233, 3) := by decide +kernel
theorem dX11_does_334 : decode cX11_does 334 = .ok (.if_icmp .eq 16, 3) := by decide +kernel
theorem dX11_does_337 : decode cX11_does 337 = .ok (.aload_n 0, 1) := by decide +kernel
theorem dX11_does_338 : decode cX11_does 338 = .ok (.iload_n 3, 1) := by decide +kernel
theorem dX11_does_339 : decode cX11_does 339 = .ok (.iconst 0, 1) := by decide +kernel
theorem dX11_does_340 : decode cX11_does 340 = .ok (.invokevirtual 158, 3) := by decide +kernel
theorem dX11_does_343 : decode cX11_does 343 = .ok (.ifCond .eq 7, 3) := by decide +kernel
theorem dX11_does_346 : decode cX11_does 346 = .ok (.iconst 1, 1) := by decide +kernel
theorem dX11_does_347 : decode cX11_does 347 = .ok (.goto 4, 3) := by decide +kernel
theorem dX11_does_350 : decode cX11_does 350 = .ok (.iconst 0, 1) := by decide +kernel
theorem dX11_does_351 : decode cX11_does 351 = .ok (.invokevirtual 148, 3) := by decide +kernel
theorem dX11_does_354 : decode cX11_does 354 = .ok (.iinc 3 1, 3) := by decide +kernel
theorem dX11_does_357 : decode cX11_does 357 = .ok (.goto (-46), 3) := by decide +kernel
theorem dX11_does_360 : decode cX11_does 360 = .ok (.iconst 1, 1) := by decide +kernel
theorem dX11_does_361 : decode cX11_does 361 = .ok (.ireturn, 1) := by decide +kernel
theorem dX11_does_362 : decode cX11_does 362 = .ok (.aload_n 0, 1) := by decide +kernel
theorem dX11_does_363 : decode cX11_does 363 = .ok (.invokevirtual 305, 3) := by decide +kernel
theorem dX11_does_366 : decode cX11_does 366 = .ok (.ireturn, 1) := by decide +kernel
theorem dX11_does_367 : decode cX11_does 367 = .ok (.iload_n 1, 1) := by decide +kernel
theorem dX11_does_368 : decode cX11_does 368 = .ok (.i2l, 1) := by decide +kernel
theorem dX11_does_369 : decode cX11_does 369 = .ok (.ldc2_w 308, 3) := by decide +kernel
theorem dX11_does_372 : decode cX11_does 372 = .ok (.ldc2_w 310, 3) := by decide +kernel
theorem dX11_does_375 : decode cX11_does 375 = .ok (.invokestatic 72, 3) := by decide +kernel
theorem dX11_does_378 : decode cX11_does 378 = .ok (.ifCond .eq 11, 3) := by decide +kernel
theorem dX11_does_381 : decode cX11_does 381 = .ok (.aload_n 0, 1) := by decide +kernel
theorem dX11_does_382 : decode cX11_does 382 = .ok (.iload_n 1, 1) := by decide +kernel
theorem dX11_does_383 : decode cX11_does 383 = .ok (.invokevirtual 312, 3) := by decide +kernel
theorem dX11_does_386 : decode cX11_does 386 = .ok (.goto 17, 3) := by decide +kernel
theorem dX11_does_389 : decode cX11_does 389 = .ok (.aload_n 0, 1) := by decide +kernel
theorem dX11_does_390 : decode cX11_does 390 = .ok (.getfield 57, 3) := by decide +kernel
theorem dX11_does_393 : decode cX11_does 393 = .ok (.aload_n 0, 1) := by decide +kernel
theorem dX11_does_394 : decode cX11_does 394 = .ok (.getfield 260, 3) := by decide +kernel
theorem dX11_does_397 : decode cX11_does 397 = .ok (.aload_n 0, 1) := by decide +kernel
theorem dX11_does_398 : decode cX11_does 398 = .ok (.iload_n 1, 1) := by decide +kernel
theorem dX11_does_399 : decode cX11_does 399 = .ok (.invokevirtual 315, 3) := by decide +kernel
theorem dX11_does_402 : decode cX11_does 402 = .ok (.iastore, 1) := by decide +kernel
theorem dX11_does_403 : decode cX11_does 403 = .ok (.iconst 1, 1) := by decide +kernel
theorem dX11_does_404 : decode cX11_does 404 = .ok (.ireturn, 1) := by decide +kernel
theorem dX11_stops_0 : decode cX11_stops 0 = .ok (.aload_n 0, 1) := by decide +kernel
theorem dX11_stops_1 : decode cX11_stops 1 = .ok (.aload_n 0, 1) := by decide +kernel
theorem dX11_stops_2 : decode cX11_stops 2 = .ok (.getfield 233, 3) := by decide +kernel
theorem dX11_stops_5 : decode cX11_stops 5 = .ok (.iconst 0, 1) := by decide +kernel
theorem dX11_stops_6 : decode cX11_stops 6 = .ok (.invokevirtual 158, 3) := by decide +kernel
theorem dX11_stops_9 : decode cX11_stops 9 = .ok (.aload_n 0, 1) := by decide +kernel
theorem dX11_stops_10 : decode cX11_stops 10 = .ok (.getfield 66, 3) := by decide +kernel
theorem dX11_stops_13 : decode cX11_stops 13 = .ok (.iconst 0, 1) := by decide +kernel
theorem dX11_stops_14 : decode cX11_stops 14 = .ok (.iaload, 1) := by decide +kernel
theorem dX11_stops_15 : decode cX11_stops 15 = .ok (.if_icmp .eq 7, 3) := by decide +kernel
theorem dX11_stops_18 : decode cX11_stops 18 = .ok (.iconst 1, 1) := by decide +kernel
theorem dX11_stops_19 : decode cX11_stops 19 = .ok (.goto 4, 3) := by decide +kernel
theorem dX11_stops_22 : decode cX11_stops 22 = .ok (.iconst 0, 1) := by decide +kernel
theorem dX11_stops_23 : decode cX11_stops 23 = .ok (.istore_n 1, 1) := by decide +kernel
theorem dX11_stops_24 : decode cX11_stops 24 = .ok (.iconst 0, 1) := by decide +kernel
theorem dX11_stops_25 : decode cX11_stops 25 = .ok (.istore_n 2, 1) := by decide +kernel
theorem dX11_stops_26 : decode cX11_stops 26 = .ok (.iload_n 2, 1) := by decide +kernel
theorem dX11_stops_27 : decode cX11_stops 27 = .ok (.bipush 8, 2) := by decide +kernel
theorem dX11_stops_29 : decode cX11_stops 29 = .ok (.if_icmp .ge 38, 3) := by decide +kernel
theorem dX11_stops_32 : decode cX11_stops 32 = .ok (.aload_n 0, 1) := by decide +kernel
theorem dX11_stops_33 : decode cX11_stops 33 = .ok (.iload_n 2, 1) := by decide +kernel
theorem dX11_stops_34 : decode cX11_stops 34 = .ok (.iconst 0, 1) := by decide +kernel
theorem dX11_stops_35 : decode cX11_stops 35 = .ok (.invokevirtual 158, 3) := by decide +kernel
theorem dX11_stops_38 : decode cX11_stops 38 = .ok (.aload_n 0, 1) := by decide +kernel
theorem dX11_stops_39 : decode cX11_stops 39 = .ok (.getfield 66, 3) := by decide +kernel
theorem dX11_stops_42 : decode cX11_stops 42 = .ok (.iconst 0, 1) := by decide +kernel
theorem dX11_stops_43 : decode cX11_stops 43 = .ok (.iaload, 1) := by decide +kernel
theorem dX11_stops_44 : decode cX11_stops 44 = .ok (.if_icmp .ne 17, 3) := by decide +kernel
theorem dX11_stops_47 : decode cX11_stops 47 = .ok (.aload_n 0, 1) := by decide +kernel
theorem dX11_stops_48 : decode cX11_stops 48 = .ok (.getfield 66, 3) := by decide +kernel
theorem dX11_stops_51 : decode cX11_stops 51 = .ok (.iconst 0, 1) := by decide +kernel
theorem dX11_stops_52 : decode cX11_stops 52 = .ok (.iaload, 1) := by decide +kernel
theorem dX11_stops_53 : decode cX11_stops 53 = .ok (.ifCond .eq 8, 3) := by decide +kernel
theorem dX11_stops_56 : decode cX11_stops 56 = .ok (.aload_n 0, 1) := by decide +kernel
theorem dX11_stops_57 : decode cX11_stops 57 = .ok (.iload_n 2, 1) := by decide +kernel
theorem dX11_stops_58 : decode cX11_stops 58 = .ok (.invokevirtual 161, 3) := by decide +kernel
theorem dX11_stops_61 : decode cX11_stops 61 = .ok (.iinc 2 1, 3) := by decide +kernel
theorem dX11_stops_64 : decode cX11_stops 64 = .ok (.goto (-38), 3) := by decide +kernel
theorem dX11_stops_67 : decode cX11_stops 67 = .ok (.iload_n 1, 1) := by decide +kernel
theorem dX11_stops_68 : decode cX11_stops 68 = .ok (.ireturn, 1) := by decide +kernel
theorem dX11_changes_0 : decode cX11_changes 0 = .ok (.aload_n 0, 1) := by decide +kernel
theorem dX11_changes_1 : decode cX11_changes 1 = .ok (.aload_n 0, 1) := by decide +kernel
theorem dX11_changes_2 : decode cX11_changes 2 = .ok (.getfield 66, 3) := by decide +kernel
theorem dX11_changes_5 : decode cX11_changes 5 = .ok (.iconst 0, 1) := by decide +kernel
theorem dX11_changes_6 : decode cX11_changes 6 = .ok (.iaload, 1) := by decide +kernel
theorem dX11_changes_7 : decode cX11_changes 7 = .ok (.invokevirtual 154, 3) := by decide +kernel
theorem dX11_changes_10 : decode cX11_changes 10 = .ok (.ifCond .ne 13, 3) := by decide +kernel
theorem dX11_changes_13 : decode cX11_changes 13 = .ok (.aload_n 0, 1) := by decide +kernel
theorem dX11_changes_14 : decode cX11_changes 14 = .ok (.aload_n 0, 1) := by decide +kernel
theorem dX11_changes_15 : decode cX11_changes 15 = .ok (.getfield 233, 3) := by decide +kernel
theorem dX11_changes_18 : decode cX11_changes 18 = .ok (.invokevirtual 161, 3) := by decide +kernel
theorem dX11_changes_21 : decode cX11_changes 21 = .ok (.iconst 0, 1) := by decide +kernel
theorem dX11_changes_22 : decode cX11_changes 22 = .ok (.ireturn, 1) := by decide +kernel
theorem dX11_changes_23 : decode cX11_changes 23 = .ok (.aload_n 0, 1) := by decide +kernel
theorem dX11_changes_24 : decode cX11_changes 24 = .ok (.aload_n 0, 1) := by decide +kernel
theorem dX11_changes_25 : decode cX11_changes 25 = .ok (.getfield 233, 3) := by decide +kernel
theorem dX11_changes_28 : decode cX11_changes 28 = .ok (.iconst 0, 1) := by decide +kernel
theorem dX11_changes_29 : decode cX11_changes 29 = .ok (.aload_n 0, 1) := by decide +kernel
theorem dX11_changes_30 : decode cX11_changes 30 = .ok (.getfield 66, 3) := by decide +kernel
theorem dX11_changes_33 : decode cX11_changes 33 = .ok (.iconst 0, 1) := by decide +kernel
theorem dX11_changes_34 : decode cX11_changes 34 = .ok (.iaload, 1) := by decide +kernel
theorem dX11_changes_35 : decode cX11_changes 35 = .ok (.invokevirtual 148, 3) := by decide +kernel
theorem dX11_changes_38 : decode cX11_changes 38 = .ok (.aload_n 0, 1) := by decide +kernel
theorem dX11_changes_39 : decode cX11_changes 39 = .ok (.aload_n 0, 1) := by decide +kernel
theorem dX11_changes_40 : decode cX11_changes 40 = .ok (.getfield 233, 3) := by decide +kernel
theorem dX11_changes_43 : decode cX11_changes 43 = .ok (.iconst 1, 1) := by decide +kernel
theorem dX11_changes_44 : decode cX11_changes 44 = .ok (.iconst 0, 1) := by decide +kernel
theorem dX11_changes_45 : decode cX11_changes 45 = .ok (.invokevirtual 148, 3) := by decide +kernel
theorem dX11_changes_48 : decode cX11_changes 48 = .ok (.iconst 1, 1) := by decide +kernel
theorem dX11_changes_49 : decode cX11_changes 49 = .ok (.ireturn, 1) := by decide +kernel
theorem dX11_walks_0 : decode cX11_walks 0 = .ok (.aload_n 0, 1) := by decide +kernel
theorem dX11_walks_1 : decode cX11_walks 1 = .ok (.iload_n 1, 1) := by decide +kernel
theorem dX11_walks_2 : decode cX11_walks 2 = .ok (.iconst 4, 1) := by decide +kernel
theorem dX11_walks_3 : decode cX11_walks 3 = .ok (.iconst 1, 1) := by decide +kernel
theorem dX11_walks_4 : decode cX11_walks 4 = .ok (.invokevirtual 223, 3) := by decide +kernel
theorem dX11_walks_7 : decode cX11_walks 7 = .ok (.aload_n 0, 1) := by decide +kernel
theorem dX11_walks_8 : decode cX11_walks 8 = .ok (.iload_n 1, 1) := by decide +kernel
theorem dX11_walks_9 : decode cX11_walks 9 = .ok (.iconst 5, 1) := by decide +kernel
theorem dX11_walks_10 : decode cX11_walks 10 = .ok (.iload_n 2, 1) := by decide +kernel
theorem dX11_walks_11 : decode cX11_walks 11 = .ok (.invokevirtual 223, 3) := by decide +kernel
theorem dX11_walks_14 : decode cX11_walks 14 = .ok (.aload_n 0, 1) := by decide +kernel
theorem dX11_walks_15 : decode cX11_walks 15 = .ok (.iload_n 1, 1) := by decide +kernel
theorem dX11_walks_16 : decode cX11_walks 16 = .ok (.bipush 6, 2) := by decide +kernel
theorem dX11_walks_18 : decode cX11_walks 18 = .ok (.iload_n 3, 1) := by decide +kernel
theorem dX11_walks_19 : decode cX11_walks 19 = .ok (.invokevirtual 223, 3) := by decide +kernel
theorem dX11_walks_22 : decode cX11_walks 22 = .ok (.return_, 1) := by decide +kernel
theorem dX11_acts_0 : decode cX11_acts 0 = .ok (.iload_n 1, 1) := by decide +kernel
theorem dX11_acts_1 : decode cX11_acts 1 = .ok (.tableswitch 285 13 20 #[47, 113, 285, 138, 158, 182, 206, 248], 47) := by decide +kernel
theorem dX11_acts_48 : decode cX11_acts 48 = .ok (.aload_n 0, 1) := by decide +kernel
theorem dX11_acts_49 : decode cX11_acts 49 = .ok (.aload_n 0, 1) := by decide +kernel
theorem dX11_acts_50 : decode cX11_acts 50 = .ok (.getfield 66, 3) := by decide +kernel
theorem dX11_acts_53 : decode cX11_acts 53 = .ok (.iconst 0, 1) := by decide +kernel
theorem dX11_acts_54 : decode cX11_acts 54 = .ok (.iaload, 1) := by decide +kernel
theorem dX11_acts_55 : decode cX11_acts 55 = .ok (.iconst 0, 1) := by decide +kernel
theorem dX11_acts_56 : decode cX11_acts 56 = .ok (.aload_n 0, 1) := by decide +kernel
theorem dX11_acts_57 : decode cX11_acts 57 = .ok (.getfield 66, 3) := by decide +kernel
theorem dX11_acts_60 : decode cX11_acts 60 = .ok (.iconst 1, 1) := by decide +kernel
theorem dX11_acts_61 : decode cX11_acts 61 = .ok (.iaload, 1) := by decide +kernel
theorem dX11_acts_62 : decode cX11_acts 62 = .ok (.invokevirtual 223, 3) := by decide +kernel
theorem dX11_acts_65 : decode cX11_acts 65 = .ok (.aload_n 0, 1) := by decide +kernel
theorem dX11_acts_66 : decode cX11_acts 66 = .ok (.aload_n 0, 1) := by decide +kernel
theorem dX11_acts_67 : decode cX11_acts 67 = .ok (.getfield 66, 3) := by decide +kernel
theorem dX11_acts_70 : decode cX11_acts 70 = .ok (.iconst 0, 1) := by decide +kernel
theorem dX11_acts_71 : decode cX11_acts 71 = .ok (.iaload, 1) := by decide +kernel
theorem dX11_acts_72 : decode cX11_acts 72 = .ok (.iconst 1, 1) := by decide +kernel
theorem dX11_acts_73 : decode cX11_acts 73 = .ok (.aload_n 0, 1) := by decide +kernel
theorem dX11_acts_74 : decode cX11_acts 74 = .ok (.getfield 66, 3) := by decide +kernel
theorem dX11_acts_77 : decode cX11_acts 77 = .ok (.iconst 2, 1) := by decide +kernel
theorem dX11_acts_78 : decode cX11_acts 78 = .ok (.iaload, 1) := by decide +kernel
theorem dX11_acts_79 : decode cX11_acts 79 = .ok (.invokevirtual 223, 3) := by decide +kernel
theorem dX11_acts_82 : decode cX11_acts 82 = .ok (.aload_n 0, 1) := by decide +kernel
theorem dX11_acts_83 : decode cX11_acts 83 = .ok (.aload_n 0, 1) := by decide +kernel
theorem dX11_acts_84 : decode cX11_acts 84 = .ok (.getfield 66, 3) := by decide +kernel
theorem dX11_acts_87 : decode cX11_acts 87 = .ok (.iconst 0, 1) := by decide +kernel
theorem dX11_acts_88 : decode cX11_acts 88 = .ok (.iaload, 1) := by decide +kernel
theorem dX11_acts_89 : decode cX11_acts 89 = .ok (.iconst 2, 1) := by decide +kernel
theorem dX11_acts_90 : decode cX11_acts 90 = .ok (.aload_n 0, 1) := by decide +kernel
theorem dX11_acts_91 : decode cX11_acts 91 = .ok (.getfield 66, 3) := by decide +kernel
theorem dX11_acts_94 : decode cX11_acts 94 = .ok (.iconst 3, 1) := by decide +kernel
theorem dX11_acts_95 : decode cX11_acts 95 = .ok (.iaload, 1) := by decide +kernel
theorem dX11_acts_96 : decode cX11_acts 96 = .ok (.invokevirtual 223, 3) := by decide +kernel
theorem dX11_acts_99 : decode cX11_acts 99 = .ok (.aload_n 0, 1) := by decide +kernel
theorem dX11_acts_100 : decode cX11_acts 100 = .ok (.aload_n 0, 1) := by decide +kernel
theorem dX11_acts_101 : decode cX11_acts 101 = .ok (.getfield 66, 3) := by decide +kernel
theorem dX11_acts_104 : decode cX11_acts 104 = .ok (.iconst 0, 1) := by decide +kernel
theorem dX11_acts_105 : decode cX11_acts 105 = .ok (.iaload, 1) := by decide +kernel
theorem dX11_acts_106 : decode cX11_acts 106 = .ok (.iconst 4, 1) := by decide +kernel
theorem dX11_acts_107 : decode cX11_acts 107 = .ok (.iconst 0, 1) := by decide +kernel
theorem dX11_acts_108 : decode cX11_acts 108 = .ok (.invokevirtual 223, 3) := by decide +kernel
theorem dX11_acts_111 : decode cX11_acts 111 = .ok (.goto 198, 3) := by decide +kernel
theorem dX11_acts_114 : decode cX11_acts 114 = .ok (.aload_n 0, 1) := by decide +kernel
theorem dX11_acts_115 : decode cX11_acts 115 = .ok (.aload_n 0, 1) := by decide +kernel
theorem dX11_acts_116 : decode cX11_acts 116 = .ok (.getfield 66, 3) := by decide +kernel
theorem dX11_acts_119 : decode cX11_acts 119 = .ok (.iconst 0, 1) := by decide +kernel
theorem dX11_acts_120 : decode cX11_acts 120 = .ok (.iaload, 1) := by decide +kernel
theorem dX11_acts_121 : decode cX11_acts 121 = .ok (.aload_n 0, 1) := by decide +kernel
theorem dX11_acts_122 : decode cX11_acts 122 = .ok (.getfield 66, 3) := by decide +kernel
theorem dX11_acts_125 : decode cX11_acts 125 = .ok (.iconst 1, 1) := by decide +kernel
theorem dX11_acts_126 : decode cX11_acts 126 = .ok (.iaload, 1) := by decide +kernel
theorem dX11_acts_127 : decode cX11_acts 127 = .ok (.aload_n 0, 1) := by decide +kernel
theorem dX11_acts_128 : decode cX11_acts 128 = .ok (.getfield 66, 3) := by decide +kernel
theorem dX11_acts_131 : decode cX11_acts 131 = .ok (.iconst 2, 1) := by decide +kernel
theorem dX11_acts_132 : decode cX11_acts 132 = .ok (.iaload, 1) := by decide +kernel
theorem dX11_acts_133 : decode cX11_acts 133 = .ok (.invokevirtual 318, 3) := by decide +kernel
theorem dX11_acts_136 : decode cX11_acts 136 = .ok (.goto 173, 3) := by decide +kernel
theorem dX11_acts_139 : decode cX11_acts 139 = .ok (.aload_n 0, 1) := by decide +kernel
theorem dX11_acts_140 : decode cX11_acts 140 = .ok (.aload_n 0, 1) := by decide +kernel
theorem dX11_acts_141 : decode cX11_acts 141 = .ok (.getfield 66, 3) := by decide +kernel
theorem dX11_acts_144 : decode cX11_acts 144 = .ok (.iconst 0, 1) := by decide +kernel
theorem dX11_acts_145 : decode cX11_acts 145 = .ok (.iaload, 1) := by decide +kernel
theorem dX11_acts_146 : decode cX11_acts 146 = .ok (.iconst 3, 1) := by decide +kernel
theorem dX11_acts_147 : decode cX11_acts 147 = .ok (.aload_n 0, 1) := by decide +kernel
theorem dX11_acts_148 : decode cX11_acts 148 = .ok (.getfield 66, 3) := by decide +kernel
theorem dX11_acts_151 : decode cX11_acts 151 = .ok (.iconst 1, 1) := by decide +kernel
theorem dX11_acts_152 : decode cX11_acts 152 = .ok (.iaload, 1) := by decide +kernel
theorem dX11_acts_153 : decode cX11_acts 153 = .ok (.invokevirtual 223, 3) := by decide +kernel
theorem dX11_acts_156 : decode cX11_acts 156 = .ok (.goto 153, 3) := by decide +kernel
theorem dX11_acts_159 : decode cX11_acts 159 = .ok (.aload_n 0, 1) := by decide +kernel
theorem dX11_acts_160 : decode cX11_acts 160 = .ok (.getfield 57, 3) := by decide +kernel
theorem dX11_acts_163 : decode cX11_acts 163 = .ok (.sipush 323, 3) := by decide +kernel
theorem dX11_acts_166 : decode cX11_acts 166 = .ok (.aload_n 0, 1) := by decide +kernel
theorem dX11_acts_167 : decode cX11_acts 167 = .ok (.getfield 66, 3) := by decide +kernel
theorem dX11_acts_170 : decode cX11_acts 170 = .ok (.iconst 0, 1) := by decide +kernel
theorem dX11_acts_171 : decode cX11_acts 171 = .ok (.iaload, 1) := by decide +kernel
theorem dX11_acts_172 : decode cX11_acts 172 = .ok (.iadd, 1) := by decide +kernel
theorem dX11_acts_173 : decode cX11_acts 173 = .ok (.aload_n 0, 1) := by decide +kernel
theorem dX11_acts_174 : decode cX11_acts 174 = .ok (.getfield 66, 3) := by decide +kernel
theorem dX11_acts_177 : decode cX11_acts 177 = .ok (.iconst 1, 1) := by decide +kernel
theorem dX11_acts_178 : decode cX11_acts 178 = .ok (.iaload, 1) := by decide +kernel
theorem dX11_acts_179 : decode cX11_acts 179 = .ok (.iastore, 1) := by decide +kernel
theorem dX11_acts_180 : decode cX11_acts 180 = .ok (.goto 129, 3) := by decide +kernel
theorem dX11_acts_183 : decode cX11_acts 183 = .ok (.aload_n 0, 1) := by decide +kernel
theorem dX11_acts_184 : decode cX11_acts 184 = .ok (.getfield 57, 3) := by decide +kernel
theorem dX11_acts_187 : decode cX11_acts 187 = .ok (.sipush 384, 3) := by decide +kernel
theorem dX11_acts_190 : decode cX11_acts 190 = .ok (.aload_n 0, 1) := by decide +kernel
theorem dX11_acts_191 : decode cX11_acts 191 = .ok (.getfield 66, 3) := by decide +kernel
theorem dX11_acts_194 : decode cX11_acts 194 = .ok (.iconst 0, 1) := by decide +kernel
theorem dX11_acts_195 : decode cX11_acts 195 = .ok (.iaload, 1) := by decide +kernel
theorem dX11_acts_196 : decode cX11_acts 196 = .ok (.iadd, 1) := by decide +kernel
theorem dX11_acts_197 : decode cX11_acts 197 = .ok (.aload_n 0, 1) := by decide +kernel
theorem dX11_acts_198 : decode cX11_acts 198 = .ok (.getfield 66, 3) := by decide +kernel
theorem dX11_acts_201 : decode cX11_acts 201 = .ok (.iconst 1, 1) := by decide +kernel
theorem dX11_acts_202 : decode cX11_acts 202 = .ok (.iaload, 1) := by decide +kernel
theorem dX11_acts_203 : decode cX11_acts 203 = .ok (.iastore, 1) := by decide +kernel
theorem dX11_acts_204 : decode cX11_acts 204 = .ok (.goto 105, 3) := by decide +kernel
theorem dX11_acts_207 : decode cX11_acts 207 = .ok (.aload_n 0, 1) := by decide +kernel
theorem dX11_acts_208 : decode cX11_acts 208 = .ok (.getfield 57, 3) := by decide +kernel
theorem dX11_acts_211 : decode cX11_acts 211 = .ok (.sipush 445, 3) := by decide +kernel
theorem dX11_acts_214 : decode cX11_acts 214 = .ok (.aload_n 0, 1) := by decide +kernel
theorem dX11_acts_215 : decode cX11_acts 215 = .ok (.getfield 66, 3) := by decide +kernel
theorem dX11_acts_218 : decode cX11_acts 218 = .ok (.iconst 0, 1) := by decide +kernel
theorem dX11_acts_219 : decode cX11_acts 219 = .ok (.iaload, 1) := by decide +kernel
theorem dX11_acts_220 : decode cX11_acts 220 = .ok (.bipush 16, 2) := by decide +kernel
theorem dX11_acts_222 : decode cX11_acts 222 = .ok (.imul, 1) := by decide +kernel
theorem dX11_acts_223 : decode cX11_acts 223 = .ok (.iadd, 1) := by decide +kernel
theorem dX11_acts_224 : decode cX11_acts 224 = .ok (.aload_n 0, 1) := by decide +kernel
theorem dX11_acts_225 : decode cX11_acts 225 = .ok (.getfield 66, 3) := by decide +kernel
theorem dX11_acts_228 : decode cX11_acts 228 = .ok (.iconst 1, 1) := by decide +kernel
theorem dX11_acts_229 : decode cX11_acts 229 = .ok (.iaload, 1) := by decide +kernel
theorem dX11_acts_230 : decode cX11_acts 230 = .ok (.iadd, 1) := by decide +kernel
theorem dX11_acts_231 : decode cX11_acts 231 = .ok (.aload_n 0, 1) := by decide +kernel
theorem dX11_acts_232 : decode cX11_acts 232 = .ok (.getfield 66, 3) := by decide +kernel
theorem dX11_acts_235 : decode cX11_acts 235 = .ok (.iconst 2, 1) := by decide +kernel
theorem dX11_acts_236 : decode cX11_acts 236 = .ok (.iaload, 1) := by decide +kernel
theorem dX11_acts_237 : decode cX11_acts 237 = .ok (.ifCond .ne 7, 3) := by decide +kernel
theorem dX11_acts_240 : decode cX11_acts 240 = .ok (.iconst 0, 1) := by decide +kernel
theorem dX11_acts_241 : decode cX11_acts 241 = .ok (.goto 4, 3) := by decide +kernel
theorem dX11_acts_244 : decode cX11_acts 244 = .ok (.iconst 1, 1) := by decide +kernel
theorem dX11_acts_245 : decode cX11_acts 245 = .ok (.iastore, 1) := by decide +kernel
theorem dX11_acts_246 : decode cX11_acts 246 = .ok (.goto 63, 3) := by decide +kernel
theorem dX11_acts_249 : decode cX11_acts 249 = .ok (.aload_n 0, 1) := by decide +kernel
theorem dX11_acts_250 : decode cX11_acts 250 = .ok (.getfield 57, 3) := by decide +kernel
theorem dX11_acts_253 : decode cX11_acts 253 = .ok (.sipush 168, 3) := by decide +kernel
theorem dX11_acts_256 : decode cX11_acts 256 = .ok (.aload_n 0, 1) := by decide +kernel
theorem dX11_acts_257 : decode cX11_acts 257 = .ok (.getfield 57, 3) := by decide +kernel
theorem dX11_acts_260 : decode cX11_acts 260 = .ok (.iconst 2, 1) := by decide +kernel
theorem dX11_acts_261 : decode cX11_acts 261 = .ok (.iaload, 1) := by decide +kernel
theorem dX11_acts_262 : decode cX11_acts 262 = .ok (.bipush 64, 2) := by decide +kernel
theorem dX11_acts_264 : decode cX11_acts 264 = .ok (.irem, 1) := by decide +kernel
theorem dX11_acts_265 : decode cX11_acts 265 = .ok (.iadd, 1) := by decide +kernel
theorem dX11_acts_266 : decode cX11_acts 266 = .ok (.aload_n 0, 1) := by decide +kernel
theorem dX11_acts_267 : decode cX11_acts 267 = .ok (.getfield 66, 3) := by decide +kernel
theorem dX11_acts_270 : decode cX11_acts 270 = .ok (.iconst 0, 1) := by decide +kernel
theorem dX11_acts_271 : decode cX11_acts 271 = .ok (.iaload, 1) := by decide +kernel
theorem dX11_acts_272 : decode cX11_acts 272 = .ok (.iastore, 1) := by decide +kernel
theorem dX11_acts_273 : decode cX11_acts 273 = .ok (.aload_n 0, 1) := by decide +kernel
theorem dX11_acts_274 : decode cX11_acts 274 = .ok (.getfield 57, 3) := by decide +kernel
theorem dX11_acts_277 : decode cX11_acts 277 = .ok (.iconst 2, 1) := by decide +kernel
theorem dX11_acts_278 : decode cX11_acts 278 = .ok (.dup2, 1) := by decide +kernel
theorem dX11_acts_279 : decode cX11_acts 279 = .ok (.iaload, 1) := by decide +kernel
theorem dX11_acts_280 : decode cX11_acts 280 = .ok (.iconst 1, 1) := by decide +kernel
theorem dX11_acts_281 : decode cX11_acts 281 = .ok (.iadd, 1) := by decide +kernel
theorem dX11_acts_282 : decode cX11_acts 282 = .ok (.iastore, 1) := by decide +kernel
theorem dX11_acts_283 : decode cX11_acts 283 = .ok (.goto 26, 3) := by decide +kernel
theorem dX11_acts_286 : decode cX11_acts 286 = .ok (.aload_n 0, 1) := by decide +kernel
theorem dX11_acts_287 : decode cX11_acts 287 = .ok (.aload_n 0, 1) := by decide +kernel
theorem dX11_acts_288 : decode cX11_acts 288 = .ok (.getfield 66, 3) := by decide +kernel
theorem dX11_acts_291 : decode cX11_acts 291 = .ok (.iconst 0, 1) := by decide +kernel
theorem dX11_acts_292 : decode cX11_acts 292 = .ok (.iaload, 1) := by decide +kernel
theorem dX11_acts_293 : decode cX11_acts 293 = .ok (.aload_n 0, 1) := by decide +kernel
theorem dX11_acts_294 : decode cX11_acts 294 = .ok (.getfield 66, 3) := by decide +kernel
theorem dX11_acts_297 : decode cX11_acts 297 = .ok (.iconst 1, 1) := by decide +kernel
theorem dX11_acts_298 : decode cX11_acts 298 = .ok (.iaload, 1) := by decide +kernel
theorem dX11_acts_299 : decode cX11_acts 299 = .ok (.aload_n 0, 1) := by decide +kernel
theorem dX11_acts_300 : decode cX11_acts 300 = .ok (.getfield 66, 3) := by decide +kernel
theorem dX11_acts_303 : decode cX11_acts 303 = .ok (.iconst 2, 1) := by decide +kernel
theorem dX11_acts_304 : decode cX11_acts 304 = .ok (.iaload, 1) := by decide +kernel
theorem dX11_acts_305 : decode cX11_acts 305 = .ok (.invokevirtual 321, 3) := by decide +kernel
theorem dX11_acts_308 : decode cX11_acts 308 = .ok (.istore_n 2, 1) := by decide +kernel
theorem dX11_acts_309 : decode cX11_acts 309 = .ok (.return_, 1) := by decide +kernel
theorem dX11_answer_0 : decode cX11_answer 0 = .ok (.iload_n 1, 1) := by decide +kernel
theorem dX11_answer_1 : decode cX11_answer 1 = .ok (.tableswitch 401 3 31 #[131, 138, 155, 172, 189, 401, 401, 401, 401, 401, 401, 401, 401, 401, 401, 401, 401, 401, 401, 401, 206, 218, 230, 242, 253, 265, 281, 297, 308], 131) := by decide +kernel
theorem dX11_answer_132 : decode cX11_answer 132 = .ok (.aload_n 0, 1) := by decide +kernel
theorem dX11_answer_133 : decode cX11_answer 133 = .ok (.getfield 66, 3) := by decide +kernel
theorem dX11_answer_136 : decode cX11_answer 136 = .ok (.iconst 0, 1) := by decide +kernel
theorem dX11_answer_137 : decode cX11_answer 137 = .ok (.iaload, 1) := by decide +kernel
theorem dX11_answer_138 : decode cX11_answer 138 = .ok (.ireturn, 1) := by decide +kernel
theorem dX11_answer_139 : decode cX11_answer 139 = .ok (.aload_n 0, 1) := by decide +kernel
theorem dX11_answer_140 : decode cX11_answer 140 = .ok (.getfield 57, 3) := by decide +kernel
theorem dX11_answer_143 : decode cX11_answer 143 = .ok (.aload_n 0, 1) := by decide +kernel
theorem dX11_answer_144 : decode cX11_answer 144 = .ok (.getfield 260, 3) := by decide +kernel
theorem dX11_answer_147 : decode cX11_answer 147 = .ok (.iaload, 1) := by decide +kernel
theorem dX11_answer_148 : decode cX11_answer 148 = .ok (.aload_n 0, 1) := by decide +kernel
theorem dX11_answer_149 : decode cX11_answer 149 = .ok (.getfield 66, 3) := by decide +kernel
theorem dX11_answer_152 : decode cX11_answer 152 = .ok (.iconst 0, 1) := by decide +kernel
theorem dX11_answer_153 : decode cX11_answer 153 = .ok (.iaload, 1) := by decide +kernel
theorem dX11_answer_154 : decode cX11_answer 154 = .ok (.iadd, 1) := by decide +kernel
theorem dX11_answer_155 : decode cX11_answer 155 = .ok (.ireturn, 1) := by decide +kernel
theorem dX11_answer_156 : decode cX11_answer 156 = .ok (.aload_n 0, 1) := by decide +kernel
theorem dX11_answer_157 : decode cX11_answer 157 = .ok (.getfield 57, 3) := by decide +kernel
theorem dX11_answer_160 : decode cX11_answer 160 = .ok (.aload_n 0, 1) := by decide +kernel
theorem dX11_answer_161 : decode cX11_answer 161 = .ok (.getfield 260, 3) := by decide +kernel
theorem dX11_answer_164 : decode cX11_answer 164 = .ok (.iaload, 1) := by decide +kernel
theorem dX11_answer_165 : decode cX11_answer 165 = .ok (.aload_n 0, 1) := by decide +kernel
theorem dX11_answer_166 : decode cX11_answer 166 = .ok (.getfield 66, 3) := by decide +kernel
theorem dX11_answer_169 : decode cX11_answer 169 = .ok (.iconst 0, 1) := by decide +kernel
theorem dX11_answer_170 : decode cX11_answer 170 = .ok (.iaload, 1) := by decide +kernel
theorem dX11_answer_171 : decode cX11_answer 171 = .ok (.isub, 1) := by decide +kernel
theorem dX11_answer_172 : decode cX11_answer 172 = .ok (.ireturn, 1) := by decide +kernel
theorem dX11_answer_173 : decode cX11_answer 173 = .ok (.aload_n 0, 1) := by decide +kernel
theorem dX11_answer_174 : decode cX11_answer 174 = .ok (.getfield 57, 3) := by decide +kernel
theorem dX11_answer_177 : decode cX11_answer 177 = .ok (.aload_n 0, 1) := by decide +kernel
theorem dX11_answer_178 : decode cX11_answer 178 = .ok (.getfield 260, 3) := by decide +kernel
theorem dX11_answer_181 : decode cX11_answer 181 = .ok (.iaload, 1) := by decide +kernel
theorem dX11_answer_182 : decode cX11_answer 182 = .ok (.aload_n 0, 1) := by decide +kernel
theorem dX11_answer_183 : decode cX11_answer 183 = .ok (.getfield 66, 3) := by decide +kernel
theorem dX11_answer_186 : decode cX11_answer 186 = .ok (.iconst 0, 1) := by decide +kernel
theorem dX11_answer_187 : decode cX11_answer 187 = .ok (.iaload, 1) := by decide +kernel
theorem dX11_answer_188 : decode cX11_answer 188 = .ok (.imul, 1) := by decide +kernel
theorem dX11_answer_189 : decode cX11_answer 189 = .ok (.ireturn, 1) := by decide +kernel
theorem dX11_answer_190 : decode cX11_answer 190 = .ok (.aload_n 0, 1) := by decide +kernel
theorem dX11_answer_191 : decode cX11_answer 191 = .ok (.getfield 57, 3) := by decide +kernel
theorem dX11_answer_194 : decode cX11_answer 194 = .ok (.aload_n 0, 1) := by decide +kernel
theorem dX11_answer_195 : decode cX11_answer 195 = .ok (.getfield 260, 3) := by decide +kernel
theorem dX11_answer_198 : decode cX11_answer 198 = .ok (.iaload, 1) := by decide +kernel
theorem dX11_answer_199 : decode cX11_answer 199 = .ok (.aload_n 0, 1) := by decide +kernel
theorem dX11_answer_200 : decode cX11_answer 200 = .ok (.getfield 66, 3) := by decide +kernel
theorem dX11_answer_203 : decode cX11_answer 203 = .ok (.iconst 0, 1) := by decide +kernel
theorem dX11_answer_204 : decode cX11_answer 204 = .ok (.iaload, 1) := by decide +kernel
theorem dX11_answer_205 : decode cX11_answer 205 = .ok (.idiv, 1) := by decide +kernel
theorem dX11_answer_206 : decode cX11_answer 206 = .ok (.ireturn, 1) := by decide +kernel
theorem dX11_answer_207 : decode cX11_answer 207 = .ok (.aload_n 0, 1) := by decide +kernel
theorem dX11_answer_208 : decode cX11_answer 208 = .ok (.aload_n 0, 1) := by decide +kernel
theorem dX11_answer_209 : decode cX11_answer 209 = .ok (.getfield 66, 3) := by decide +kernel
theorem dX11_answer_212 : decode cX11_answer 212 = .ok (.iconst 0, 1) := by decide +kernel
theorem dX11_answer_213 : decode cX11_answer 213 = .ok (.iaload, 1) := by decide +kernel
theorem dX11_answer_214 : decode cX11_answer 214 = .ok (.iconst 1, 1) := by decide +kernel
theorem dX11_answer_215 : decode cX11_answer 215 = .ok (.invokevirtual 192, 3) := by decide +kernel
theorem dX11_answer_218 : decode cX11_answer 218 = .ok (.ireturn, 1) := by decide +kernel
theorem dX11_answer_219 : decode cX11_answer 219 = .ok (.aload_n 0, 1) := by decide +kernel
theorem dX11_answer_220 : decode cX11_answer 220 = .ok (.aload_n 0, 1) := by decide +kernel
theorem dX11_answer_221 : decode cX11_answer 221 = .ok (.getfield 66, 3) := by decide +kernel
theorem dX11_answer_224 : decode cX11_answer 224 = .ok (.iconst 0, 1) := by decide +kernel
theorem dX11_answer_225 : decode cX11_answer 225 = .ok (.iaload, 1) := by decide +kernel
theorem dX11_answer_226 : decode cX11_answer 226 = .ok (.iconst 2, 1) := by decide +kernel
theorem dX11_answer_227 : decode cX11_answer 227 = .ok (.invokevirtual 192, 3) := by decide +kernel
theorem dX11_answer_230 : decode cX11_answer 230 = .ok (.ireturn, 1) := by decide +kernel
theorem dX11_answer_231 : decode cX11_answer 231 = .ok (.aload_n 0, 1) := by decide +kernel
theorem dX11_answer_232 : decode cX11_answer 232 = .ok (.aload_n 0, 1) := by decide +kernel
theorem dX11_answer_233 : decode cX11_answer 233 = .ok (.getfield 66, 3) := by decide +kernel
theorem dX11_answer_236 : decode cX11_answer 236 = .ok (.iconst 0, 1) := by decide +kernel
theorem dX11_answer_237 : decode cX11_answer 237 = .ok (.iaload, 1) := by decide +kernel
theorem dX11_answer_238 : decode cX11_answer 238 = .ok (.iconst 0, 1) := by decide +kernel
theorem dX11_answer_239 : decode cX11_answer 239 = .ok (.invokevirtual 192, 3) := by decide +kernel
theorem dX11_answer_242 : decode cX11_answer 242 = .ok (.ireturn, 1) := by decide +kernel
theorem dX11_answer_243 : decode cX11_answer 243 = .ok (.aload_n 0, 1) := by decide +kernel
theorem dX11_answer_244 : decode cX11_answer 244 = .ok (.aload_n 0, 1) := by decide +kernel
theorem dX11_answer_245 : decode cX11_answer 245 = .ok (.getfield 66, 3) := by decide +kernel
theorem dX11_answer_248 : decode cX11_answer 248 = .ok (.iconst 0, 1) := by decide +kernel
theorem dX11_answer_249 : decode cX11_answer 249 = .ok (.iaload, 1) := by decide +kernel
theorem dX11_answer_250 : decode cX11_answer 250 = .ok (.invokevirtual 220, 3) := by decide +kernel
theorem dX11_answer_253 : decode cX11_answer 253 = .ok (.ireturn, 1) := by decide +kernel
theorem dX11_answer_254 : decode cX11_answer 254 = .ok (.aload_n 0, 1) := by decide +kernel
theorem dX11_answer_255 : decode cX11_answer 255 = .ok (.aload_n 0, 1) := by decide +kernel
theorem dX11_answer_256 : decode cX11_answer 256 = .ok (.getfield 66, 3) := by decide +kernel
theorem dX11_answer_259 : decode cX11_answer 259 = .ok (.iconst 0, 1) := by decide +kernel
theorem dX11_answer_260 : decode cX11_answer 260 = .ok (.iaload, 1) := by decide +kernel
theorem dX11_answer_261 : decode cX11_answer 261 = .ok (.iconst 4, 1) := by decide +kernel
theorem dX11_answer_262 : decode cX11_answer 262 = .ok (.invokevirtual 192, 3) := by decide +kernel
theorem dX11_answer_265 : decode cX11_answer 265 = .ok (.ireturn, 1) := by decide +kernel
theorem dX11_answer_266 : decode cX11_answer 266 = .ok (.aload_n 0, 1) := by decide +kernel
theorem dX11_answer_267 : decode cX11_answer 267 = .ok (.getfield 57, 3) := by decide +kernel
theorem dX11_answer_270 : decode cX11_answer 270 = .ok (.sipush 323, 3) := by decide +kernel
theorem dX11_answer_273 : decode cX11_answer 273 = .ok (.aload_n 0, 1) := by decide +kernel
theorem dX11_answer_274 : decode cX11_answer 274 = .ok (.getfield 66, 3) := by decide +kernel
theorem dX11_answer_277 : decode cX11_answer 277 = .ok (.iconst 0, 1) := by decide +kernel
theorem dX11_answer_278 : decode cX11_answer 278 = .ok (.iaload, 1) := by decide +kernel
theorem dX11_answer_279 : decode cX11_answer 279 = .ok (.iadd, 1) := by decide +kernel
theorem dX11_answer_280 : decode cX11_answer 280 = .ok (.iaload, 1) := by decide +kernel
theorem dX11_answer_281 : decode cX11_answer 281 = .ok (.ireturn, 1) := by decide +kernel
theorem dX11_answer_282 : decode cX11_answer 282 = .ok (.aload_n 0, 1) := by decide +kernel
theorem dX11_answer_283 : decode cX11_answer 283 = .ok (.getfield 57, 3) := by decide +kernel
theorem dX11_answer_286 : decode cX11_answer 286 = .ok (.sipush 384, 3) := by decide +kernel
theorem dX11_answer_289 : decode cX11_answer 289 = .ok (.aload_n 0, 1) := by decide +kernel
theorem dX11_answer_290 : decode cX11_answer 290 = .ok (.getfield 66, 3) := by decide +kernel
theorem dX11_answer_293 : decode cX11_answer 293 = .ok (.iconst 0, 1) := by decide +kernel
theorem dX11_answer_294 : decode cX11_answer 294 = .ok (.iaload, 1) := by decide +kernel
theorem dX11_answer_295 : decode cX11_answer 295 = .ok (.iadd, 1) := by decide +kernel
theorem dX11_answer_296 : decode cX11_answer 296 = .ok (.iaload, 1) := by decide +kernel
theorem dX11_answer_297 : decode cX11_answer 297 = .ok (.ireturn, 1) := by decide +kernel
theorem dX11_answer_298 : decode cX11_answer 298 = .ok (.aload_n 0, 1) := by decide +kernel
theorem dX11_answer_299 : decode cX11_answer 299 = .ok (.aload_n 0, 1) := by decide +kernel
theorem dX11_answer_300 : decode cX11_answer 300 = .ok (.getfield 66, 3) := by decide +kernel
theorem dX11_answer_303 : decode cX11_answer 303 = .ok (.iconst 0, 1) := by decide +kernel
theorem dX11_answer_304 : decode cX11_answer 304 = .ok (.iaload, 1) := by decide +kernel
theorem dX11_answer_305 : decode cX11_answer 305 = .ok (.invokevirtual 324, 3) := by decide +kernel
theorem dX11_answer_308 : decode cX11_answer 308 = .ok (.ireturn, 1) := by decide +kernel
theorem dX11_answer_309 : decode cX11_answer 309 = .ok (.aload_n 0, 1) := by decide +kernel
theorem dX11_answer_310 : decode cX11_answer 310 = .ok (.aload_n 0, 1) := by decide +kernel
theorem dX11_answer_311 : decode cX11_answer 311 = .ok (.getfield 66, 3) := by decide +kernel
theorem dX11_answer_314 : decode cX11_answer 314 = .ok (.iconst 0, 1) := by decide +kernel
theorem dX11_answer_315 : decode cX11_answer 315 = .ok (.iaload, 1) := by decide +kernel
theorem dX11_answer_316 : decode cX11_answer 316 = .ok (.iconst 0, 1) := by decide +kernel
theorem dX11_answer_317 : decode cX11_answer 317 = .ok (.invokevirtual 192, 3) := by decide +kernel
theorem dX11_answer_320 : decode cX11_answer 320 = .ok (.aload_n 0, 1) := by decide +kernel
theorem dX11_answer_321 : decode cX11_answer 321 = .ok (.getfield 39, 3) := by decide +kernel
theorem dX11_answer_324 : decode cX11_answer 324 = .ok (.iconst 3, 1) := by decide +kernel
theorem dX11_answer_325 : decode cX11_answer 325 = .ok (.aload_n 0, 1) := by decide +kernel
theorem dX11_answer_326 : decode cX11_answer 326 = .ok (.getfield 66, 3) := by decide +kernel
theorem dX11_answer_329 : decode cX11_answer 329 = .ok (.iconst 1, 1) := by decide +kernel
theorem dX11_answer_330 : decode cX11_answer 330 = .ok (.iaload, 1) := by decide +kernel
theorem dX11_answer_331 : decode cX11_answer 331 = .ok (.imul, 1) := by decide +kernel
theorem dX11_answer_332 : decode cX11_answer 332 = .ok (.iaload, 1) := by decide +kernel
theorem dX11_answer_333 : decode cX11_answer 333 = .ok (.if_icmp .eq 7, 3) := by decide +kernel
theorem dX11_answer_336 : decode cX11_answer 336 = .ok (.sipush 999, 3) := by decide +kernel
theorem dX11_answer_339 : decode cX11_answer 339 = .ok (.ireturn, 1) := by decide +kernel
theorem dX11_answer_340 : decode cX11_answer 340 = .ok (.aload_n 0, 1) := by decide +kernel
theorem dX11_answer_341 : decode cX11_answer 341 = .ok (.aload_n 0, 1) := by decide +kernel
theorem dX11_answer_342 : decode cX11_answer 342 = .ok (.getfield 66, 3) := by decide +kernel
theorem dX11_answer_345 : decode cX11_answer 345 = .ok (.iconst 0, 1) := by decide +kernel
theorem dX11_answer_346 : decode cX11_answer 346 = .ok (.iaload, 1) := by decide +kernel
theorem dX11_answer_347 : decode cX11_answer 347 = .ok (.iconst 1, 1) := by decide +kernel
theorem dX11_answer_348 : decode cX11_answer 348 = .ok (.invokevirtual 192, 3) := by decide +kernel
theorem dX11_answer_351 : decode cX11_answer 351 = .ok (.aload_n 0, 1) := by decide +kernel
theorem dX11_answer_352 : decode cX11_answer 352 = .ok (.getfield 39, 3) := by decide +kernel
theorem dX11_answer_355 : decode cX11_answer 355 = .ok (.iconst 3, 1) := by decide +kernel
theorem dX11_answer_356 : decode cX11_answer 356 = .ok (.aload_n 0, 1) := by decide +kernel
theorem dX11_answer_357 : decode cX11_answer 357 = .ok (.getfield 66, 3) := by decide +kernel
theorem dX11_answer_360 : decode cX11_answer 360 = .ok (.iconst 1, 1) := by decide +kernel
theorem dX11_answer_361 : decode cX11_answer 361 = .ok (.iaload, 1) := by decide +kernel
theorem dX11_answer_362 : decode cX11_answer 362 = .ok (.imul, 1) := by decide +kernel
theorem dX11_answer_363 : decode cX11_answer 363 = .ok (.iconst 1, 1) := by decide +kernel
theorem dX11_answer_364 : decode cX11_answer 364 = .ok (.iadd, 1) := by decide +kernel
theorem dX11_answer_365 : decode cX11_answer 365 = .ok (.iaload, 1) := by decide +kernel
theorem dX11_answer_366 : decode cX11_answer 366 = .ok (.isub, 1) := by decide +kernel
theorem dX11_answer_367 : decode cX11_answer 367 = .ok (.invokestatic 327, 3) := by decide +kernel
theorem dX11_answer_370 : decode cX11_answer 370 = .ok (.aload_n 0, 1) := by decide +kernel
theorem dX11_answer_371 : decode cX11_answer 371 = .ok (.aload_n 0, 1) := by decide +kernel
theorem dX11_answer_372 : decode cX11_answer 372 = .ok (.getfield 66, 3) := by decide +kernel
theorem dX11_answer_375 : decode cX11_answer 375 = .ok (.iconst 0, 1) := by decide +kernel
theorem dX11_answer_376 : decode cX11_answer 376 = .ok (.iaload, 1) := by decide +kernel
theorem dX11_answer_377 : decode cX11_answer 377 = .ok (.iconst 2, 1) := by decide +kernel
theorem dX11_answer_378 : decode cX11_answer 378 = .ok (.invokevirtual 192, 3) := by decide +kernel
theorem dX11_answer_381 : decode cX11_answer 381 = .ok (.aload_n 0, 1) := by decide +kernel
theorem dX11_answer_382 : decode cX11_answer 382 = .ok (.getfield 39, 3) := by decide +kernel
theorem dX11_answer_385 : decode cX11_answer 385 = .ok (.iconst 3, 1) := by decide +kernel
theorem dX11_answer_386 : decode cX11_answer 386 = .ok (.aload_n 0, 1) := by decide +kernel
theorem dX11_answer_387 : decode cX11_answer 387 = .ok (.getfield 66, 3) := by decide +kernel
theorem dX11_answer_390 : decode cX11_answer 390 = .ok (.iconst 1, 1) := by decide +kernel
theorem dX11_answer_391 : decode cX11_answer 391 = .ok (.iaload, 1) := by decide +kernel
theorem dX11_answer_392 : decode cX11_answer 392 = .ok (.imul, 1) := by decide +kernel
theorem dX11_answer_393 : decode cX11_answer 393 = .ok (.iconst 2, 1) := by decide +kernel
theorem dX11_answer_394 : decode cX11_answer 394 = .ok (.iadd, 1) := by decide +kernel
theorem dX11_answer_395 : decode cX11_answer 395 = .ok (.iaload, 1) := by decide +kernel
theorem dX11_answer_396 : decode cX11_answer 396 = .ok (.isub, 1) := by decide +kernel
theorem dX11_answer_397 : decode cX11_answer 397 = .ok (.invokestatic 327, 3) := by decide +kernel
theorem dX11_answer_400 : decode cX11_answer 400 = .ok (.iadd, 1) := by decide +kernel
theorem dX11_answer_401 : decode cX11_answer 401 = .ok (.ireturn, 1) := by decide +kernel
theorem dX11_answer_402 : decode cX11_answer 402 = .ok (.aload_n 0, 1) := by decide +kernel
theorem dX11_answer_403 : decode cX11_answer 403 = .ok (.getfield 57, 3) := by decide +kernel
theorem dX11_answer_406 : decode cX11_answer 406 = .ok (.iconst 1, 1) := by decide +kernel
theorem dX11_answer_407 : decode cX11_answer 407 = .ok (.aload_n 0, 1) := by decide +kernel
theorem dX11_answer_408 : decode cX11_answer 408 = .ok (.getfield 57, 3) := by decide +kernel
theorem dX11_answer_411 : decode cX11_answer 411 = .ok (.iconst 1, 1) := by decide +kernel
theorem dX11_answer_412 : decode cX11_answer 412 = .ok (.iaload, 1) := by decide +kernel
theorem dX11_answer_413 : decode cX11_answer 413 = .ok (.ldc_w 330, 3) := by decide +kernel
theorem dX11_answer_416 : decode cX11_answer 416 = .ok (.imul, 1) := by decide +kernel
theorem dX11_answer_417 : decode cX11_answer 417 = .ok (.sipush 12345, 3) := by decide +kernel
theorem dX11_answer_420 : decode cX11_answer 420 = .ok (.iadd, 1) := by decide +kernel
theorem dX11_answer_421 : decode cX11_answer 421 = .ok (.iastore, 1) := by decide +kernel
theorem dX11_answer_422 : decode cX11_answer 422 = .ok (.aload_n 0, 1) := by decide +kernel
theorem dX11_answer_423 : decode cX11_answer 423 = .ok (.getfield 66, 3) := by decide +kernel
theorem dX11_answer_426 : decode cX11_answer 426 = .ok (.iconst 0, 1) := by decide +kernel
theorem dX11_answer_427 : decode cX11_answer 427 = .ok (.iaload, 1) := by decide +kernel
theorem dX11_answer_428 : decode cX11_answer 428 = .ok (.ifCond .le 22, 3) := by decide +kernel
theorem dX11_answer_431 : decode cX11_answer 431 = .ok (.aload_n 0, 1) := by decide +kernel
theorem dX11_answer_432 : decode cX11_answer 432 = .ok (.getfield 57, 3) := by decide +kernel
theorem dX11_answer_435 : decode cX11_answer 435 = .ok (.iconst 1, 1) := by decide +kernel
theorem dX11_answer_436 : decode cX11_answer 436 = .ok (.iaload, 1) := by decide +kernel
theorem dX11_answer_437 : decode cX11_answer 437 = .ok (.ldc 207, 2) := by decide +kernel
theorem dX11_answer_439 : decode cX11_answer 439 = .ok (.iand, 1) := by decide +kernel
theorem dX11_answer_440 : decode cX11_answer 440 = .ok (.aload_n 0, 1) := by decide +kernel
theorem dX11_answer_441 : decode cX11_answer 441 = .ok (.getfield 66, 3) := by decide +kernel
theorem dX11_answer_444 : decode cX11_answer 444 = .ok (.iconst 0, 1) := by decide +kernel
theorem dX11_answer_445 : decode cX11_answer 445 = .ok (.iaload, 1) := by decide +kernel
theorem dX11_answer_446 : decode cX11_answer 446 = .ok (.irem, 1) := by decide +kernel
theorem dX11_answer_447 : decode cX11_answer 447 = .ok (.goto 4, 3) := by decide +kernel
theorem dX11_answer_450 : decode cX11_answer 450 = .ok (.iconst 0, 1) := by decide +kernel
theorem dX11_answer_451 : decode cX11_answer 451 = .ok (.ireturn, 1) := by decide +kernel
theorem dX11_running_0 : decode cX11_running 0 = .ok (.iconst 0, 1) := by decide +kernel
theorem dX11_running_1 : decode cX11_running 1 = .ok (.istore_n 2, 1) := by decide +kernel
theorem dX11_running_2 : decode cX11_running 2 = .ok (.iconst 0, 1) := by decide +kernel
theorem dX11_running_3 : decode cX11_running 3 = .ok (.istore_n 3, 1) := by decide +kernel
theorem dX11_running_4 : decode cX11_running 4 = .ok (.iload_n 3, 1) := by decide +kernel
theorem dX11_running_5 : decode cX11_running 5 = .ok (.bipush 8, 2) := by decide +kernel
theorem dX11_running_7 : decode cX11_running 7 = .ok (.if_icmp .ge 31, 3) := by decide +kernel
theorem dX11_running_10 : decode cX11_running 10 = .ok (.iload_n 2, 1) := by decide +kernel
theorem dX11_running_11 : decode cX11_running 11 = .ok (.iload_n 1, 1) := by decide +kernel
theorem dX11_running_12 : decode cX11_running 12 = .ok (.ifCond .eq 17, 3) := by decide +kernel
theorem dX11_running_15 : decode cX11_running 15 = .ok (.aload_n 0, 1) := by decide +kernel
theorem dX11_running_16 : decode cX11_running 16 = .ok (.iload_n 3, 1) := by decide +kernel
theorem dX11_running_17 : decode cX11_running 17 = .ok (.iconst 0, 1) := by decide +kernel
theorem dX11_running_18 : decode cX11_running 18 = .ok (.invokevirtual 158, 3) := by decide +kernel
theorem dX11_running_21 : decode cX11_running 21 = .ok (.iload_n 1, 1) := by decide +kernel
theorem dX11_running_22 : decode cX11_running 22 = .ok (.if_icmp .ne 7, 3) := by decide +kernel
theorem dX11_running_25 : decode cX11_running 25 = .ok (.iconst 1, 1) := by decide +kernel
theorem dX11_running_26 : decode cX11_running 26 = .ok (.goto 4, 3) := by decide +kernel
theorem dX11_running_29 : decode cX11_running 29 = .ok (.iconst 0, 1) := by decide +kernel
theorem dX11_running_30 : decode cX11_running 30 = .ok (.iadd, 1) := by decide +kernel
theorem dX11_running_31 : decode cX11_running 31 = .ok (.istore_n 2, 1) := by decide +kernel
theorem dX11_running_32 : decode cX11_running 32 = .ok (.iinc 3 1, 3) := by decide +kernel
theorem dX11_running_35 : decode cX11_running 35 = .ok (.goto (-31), 3) := by decide +kernel
theorem dX11_running_38 : decode cX11_running 38 = .ok (.iload_n 2, 1) := by decide +kernel
theorem dX11_running_39 : decode cX11_running 39 = .ok (.ireturn, 1) := by decide +kernel
theorem dX11_turn_0 : decode cX11_turn 0 = .ok (.aload_n 0, 1) := by decide +kernel
theorem dX11_turn_1 : decode cX11_turn 1 = .ok (.iload_n 1, 1) := by decide +kernel
theorem dX11_turn_2 : decode cX11_turn 2 = .ok (.putfield 233, 3) := by decide +kernel
theorem dX11_turn_5 : decode cX11_turn 5 = .ok (.aload_n 0, 1) := by decide +kernel
theorem dX11_turn_6 : decode cX11_turn 6 = .ok (.iload_n 1, 1) := by decide +kernel
theorem dX11_turn_7 : decode cX11_turn 7 = .ok (.iconst 0, 1) := by decide +kernel
theorem dX11_turn_8 : decode cX11_turn 8 = .ok (.invokevirtual 158, 3) := by decide +kernel
theorem dX11_turn_11 : decode cX11_turn 11 = .ok (.ifCond .eq 13, 3) := by decide +kernel
theorem dX11_turn_14 : decode cX11_turn 14 = .ok (.aload_n 0, 1) := by decide +kernel
theorem dX11_turn_15 : decode cX11_turn 15 = .ok (.iload_n 1, 1) := by decide +kernel
theorem dX11_turn_16 : decode cX11_turn 16 = .ok (.iconst 4, 1) := by decide +kernel
theorem dX11_turn_17 : decode cX11_turn 17 = .ok (.invokevirtual 158, 3) := by decide +kernel
theorem dX11_turn_20 : decode cX11_turn 20 = .ok (.iconst 1, 1) := by decide +kernel
theorem dX11_turn_21 : decode cX11_turn 21 = .ok (.if_icmp .ne 5, 3) := by decide +kernel
theorem dX11_turn_24 : decode cX11_turn 24 = .ok (.iconst 0, 1) := by decide +kernel
theorem dX11_turn_25 : decode cX11_turn 25 = .ok (.ireturn, 1) := by decide +kernel
theorem dX11_turn_26 : decode cX11_turn 26 = .ok (.aload_n 0, 1) := by decide +kernel
theorem dX11_turn_27 : decode cX11_turn 27 = .ok (.iload_n 1, 1) := by decide +kernel
theorem dX11_turn_28 : decode cX11_turn 28 = .ok (.iconst 2, 1) := by decide +kernel
theorem dX11_turn_29 : decode cX11_turn 29 = .ok (.invokevirtual 158, 3) := by decide +kernel
theorem dX11_turn_32 : decode cX11_turn 32 = .ok (.ifCond .le 28, 3) := by decide +kernel
theorem dX11_turn_35 : decode cX11_turn 35 = .ok (.aload_n 0, 1) := by decide +kernel
theorem dX11_turn_36 : decode cX11_turn 36 = .ok (.iload_n 1, 1) := by decide +kernel
theorem dX11_turn_37 : decode cX11_turn 37 = .ok (.iconst 2, 1) := by decide +kernel
theorem dX11_turn_38 : decode cX11_turn 38 = .ok (.aload_n 0, 1) := by decide +kernel
theorem dX11_turn_39 : decode cX11_turn 39 = .ok (.iload_n 1, 1) := by decide +kernel
theorem dX11_turn_40 : decode cX11_turn 40 = .ok (.iconst 2, 1) := by decide +kernel
theorem dX11_turn_41 : decode cX11_turn 41 = .ok (.invokevirtual 158, 3) := by decide +kernel
theorem dX11_turn_44 : decode cX11_turn 44 = .ok (.iconst 1, 1) := by decide +kernel
theorem dX11_turn_45 : decode cX11_turn 45 = .ok (.isub, 1) := by decide +kernel
theorem dX11_turn_46 : decode cX11_turn 46 = .ok (.invokevirtual 148, 3) := by decide +kernel
theorem dX11_turn_49 : decode cX11_turn 49 = .ok (.aload_n 0, 1) := by decide +kernel
theorem dX11_turn_50 : decode cX11_turn 50 = .ok (.iload_n 1, 1) := by decide +kernel
theorem dX11_turn_51 : decode cX11_turn 51 = .ok (.iconst 2, 1) := by decide +kernel
theorem dX11_turn_52 : decode cX11_turn 52 = .ok (.invokevirtual 158, 3) := by decide +kernel
theorem dX11_turn_55 : decode cX11_turn 55 = .ok (.ifCond .le 5, 3) := by decide +kernel
theorem dX11_turn_58 : decode cX11_turn 58 = .ok (.iconst 0, 1) := by decide +kernel
theorem dX11_turn_59 : decode cX11_turn 59 = .ok (.ireturn, 1) := by decide +kernel
theorem dX11_turn_60 : decode cX11_turn 60 = .ok (.aload_n 0, 1) := by decide +kernel
theorem dX11_turn_61 : decode cX11_turn 61 = .ok (.iload_n 1, 1) := by decide +kernel
theorem dX11_turn_62 : decode cX11_turn 62 = .ok (.iconst 3, 1) := by decide +kernel
theorem dX11_turn_63 : decode cX11_turn 63 = .ok (.invokevirtual 158, 3) := by decide +kernel
theorem dX11_turn_66 : decode cX11_turn 66 = .ok (.ifCond .eq 27, 3) := by decide +kernel
theorem dX11_turn_69 : decode cX11_turn 69 = .ok (.aload_n 0, 1) := by decide +kernel
theorem dX11_turn_70 : decode cX11_turn 70 = .ok (.aload_n 0, 1) := by decide +kernel
theorem dX11_turn_71 : decode cX11_turn 71 = .ok (.iload_n 1, 1) := by decide +kernel
theorem dX11_turn_72 : decode cX11_turn 72 = .ok (.iconst 3, 1) := by decide +kernel
theorem dX11_turn_73 : decode cX11_turn 73 = .ok (.invokevirtual 158, 3) := by decide +kernel
theorem dX11_turn_76 : decode cX11_turn 76 = .ok (.iconst 4, 1) := by decide +kernel
theorem dX11_turn_77 : decode cX11_turn 77 = .ok (.invokevirtual 192, 3) := by decide +kernel
theorem dX11_turn_80 : decode cX11_turn 80 = .ok (.iconst 1, 1) := by decide +kernel
theorem dX11_turn_81 : decode cX11_turn 81 = .ok (.if_icmp .ne 5, 3) := by decide +kernel
theorem dX11_turn_84 : decode cX11_turn 84 = .ok (.iconst 0, 1) := by decide +kernel
theorem dX11_turn_85 : decode cX11_turn 85 = .ok (.ireturn, 1) := by decide +kernel
theorem dX11_turn_86 : decode cX11_turn 86 = .ok (.aload_n 0, 1) := by decide +kernel
theorem dX11_turn_87 : decode cX11_turn 87 = .ok (.iload_n 1, 1) := by decide +kernel
theorem dX11_turn_88 : decode cX11_turn 88 = .ok (.iconst 3, 1) := by decide +kernel
theorem dX11_turn_89 : decode cX11_turn 89 = .ok (.iconst 0, 1) := by decide +kernel
theorem dX11_turn_90 : decode cX11_turn 90 = .ok (.invokevirtual 148, 3) := by decide +kernel
theorem dX11_turn_93 : decode cX11_turn 93 = .ok (.iconst 0, 1) := by decide +kernel
theorem dX11_turn_94 : decode cX11_turn 94 = .ok (.istore_n 2, 1) := by decide +kernel
theorem dX11_turn_95 : decode cX11_turn 95 = .ok (.iconst 1, 1) := by decide +kernel
theorem dX11_turn_96 : decode cX11_turn 96 = .ok (.istore_n 3, 1) := by decide +kernel
theorem dX11_turn_97 : decode cX11_turn 97 = .ok (.iload_n 3, 1) := by decide +kernel
theorem dX11_turn_98 : decode cX11_turn 98 = .ok (.ifCond .eq 100, 3) := by decide +kernel
theorem dX11_turn_101 : decode cX11_turn 101 = .ok (.iload_n 2, 1) := by decide +kernel
theorem dX11_turn_102 : decode cX11_turn 102 = .ok (.sipush 300, 3) := by decide +kernel
theorem dX11_turn_105 : decode cX11_turn 105 = .ok (.if_icmp .ge 93, 3) := by decide +kernel
theorem dX11_turn_108 : decode cX11_turn 108 = .ok (.aload_n 0, 1) := by decide +kernel
theorem dX11_turn_109 : decode cX11_turn 109 = .ok (.iconst 0, 1) := by decide +kernel
theorem dX11_turn_110 : decode cX11_turn 110 = .ok (.putfield 236, 3) := by decide +kernel
theorem dX11_turn_113 : decode cX11_turn 113 = .ok (.aload_n 0, 1) := by decide +kernel
theorem dX11_turn_114 : decode cX11_turn 114 = .ok (.aload_n 0, 1) := by decide +kernel
theorem dX11_turn_115 : decode cX11_turn 115 = .ok (.iload_n 1, 1) := by decide +kernel
theorem dX11_turn_116 : decode cX11_turn 116 = .ok (.iconst 1, 1) := by decide +kernel
theorem dX11_turn_117 : decode cX11_turn 117 = .ok (.invokevirtual 158, 3) := by decide +kernel
theorem dX11_turn_120 : decode cX11_turn 120 = .ok (.putfield 239, 3) := by decide +kernel
theorem dX11_turn_123 : decode cX11_turn 123 = .ok (.aload_n 0, 1) := by decide +kernel
theorem dX11_turn_124 : decode cX11_turn 124 = .ok (.invokevirtual 242, 3) := by decide +kernel
theorem dX11_turn_127 : decode cX11_turn 127 = .ok (.istore 4, 2) := by decide +kernel
theorem dX11_turn_129 : decode cX11_turn 129 = .ok (.aload_n 0, 1) := by decide +kernel
theorem dX11_turn_130 : decode cX11_turn 130 = .ok (.getfield 236, 3) := by decide +kernel
theorem dX11_turn_133 : decode cX11_turn 133 = .ok (.ifCond .ne 9, 3) := by decide +kernel
theorem dX11_turn_136 : decode cX11_turn 136 = .ok (.aload_n 0, 1) := by decide +kernel
theorem dX11_turn_137 : decode cX11_turn 137 = .ok (.iload 4, 2) := by decide +kernel
theorem dX11_turn_139 : decode cX11_turn 139 = .ok (.invokevirtual 331, 3) := by decide +kernel
theorem dX11_turn_142 : decode cX11_turn 142 = .ok (.aload_n 0, 1) := by decide +kernel
theorem dX11_turn_143 : decode cX11_turn 143 = .ok (.getfield 236, 3) := by decide +kernel
theorem dX11_turn_146 : decode cX11_turn 146 = .ok (.ifCond .ne 12, 3) := by decide +kernel
theorem dX11_turn_149 : decode cX11_turn 149 = .ok (.aload_n 0, 1) := by decide +kernel
theorem dX11_turn_150 : decode cX11_turn 150 = .ok (.iload 4, 2) := by decide +kernel
theorem dX11_turn_152 : decode cX11_turn 152 = .ok (.invokevirtual 334, 3) := by decide +kernel
theorem dX11_turn_155 : decode cX11_turn 155 = .ok (.ifCond .ne 20, 3) := by decide +kernel
theorem dX11_turn_158 : decode cX11_turn 158 = .ok (.aload_n 0, 1) := by decide +kernel
theorem dX11_turn_159 : decode cX11_turn 159 = .ok (.iload_n 1, 1) := by decide +kernel
theorem dX11_turn_160 : decode cX11_turn 160 = .ok (.invokevirtual 161, 3) := by decide +kernel
theorem dX11_turn_163 : decode cX11_turn 163 = .ok (.aload_n 0, 1) := by decide +kernel
theorem dX11_turn_164 : decode cX11_turn 164 = .ok (.getfield 57, 3) := by decide +kernel
theorem dX11_turn_167 : decode cX11_turn 167 = .ok (.iconst 3, 1) := by decide +kernel
theorem dX11_turn_168 : decode cX11_turn 168 = .ok (.dup2, 1) := by decide +kernel
theorem dX11_turn_169 : decode cX11_turn 169 = .ok (.iaload, 1) := by decide +kernel
theorem dX11_turn_170 : decode cX11_turn 170 = .ok (.iconst 1, 1) := by decide +kernel
theorem dX11_turn_171 : decode cX11_turn 171 = .ok (.iadd, 1) := by decide +kernel
theorem dX11_turn_172 : decode cX11_turn 172 = .ok (.iastore, 1) := by decide +kernel
theorem dX11_turn_173 : decode cX11_turn 173 = .ok (.iload_n 2, 1) := by decide +kernel
theorem dX11_turn_174 : decode cX11_turn 174 = .ok (.ireturn, 1) := by decide +kernel
theorem dX11_turn_175 : decode cX11_turn 175 = .ok (.aload_n 0, 1) := by decide +kernel
theorem dX11_turn_176 : decode cX11_turn 176 = .ok (.iload_n 1, 1) := by decide +kernel
theorem dX11_turn_177 : decode cX11_turn 177 = .ok (.iconst 1, 1) := by decide +kernel
theorem dX11_turn_178 : decode cX11_turn 178 = .ok (.aload_n 0, 1) := by decide +kernel
theorem dX11_turn_179 : decode cX11_turn 179 = .ok (.getfield 239, 3) := by decide +kernel
theorem dX11_turn_182 : decode cX11_turn 182 = .ok (.invokevirtual 148, 3) := by decide +kernel
theorem dX11_turn_185 : decode cX11_turn 185 = .ok (.aload_n 0, 1) := by decide +kernel
theorem dX11_turn_186 : decode cX11_turn 186 = .ok (.iload 4, 2) := by decide +kernel
theorem dX11_turn_188 : decode cX11_turn 188 = .ok (.invokevirtual 337, 3) := by decide +kernel
theorem dX11_turn_191 : decode cX11_turn 191 = .ok (.istore_n 3, 1) := by decide +kernel
theorem dX11_turn_192 : decode cX11_turn 192 = .ok (.iinc 2 1, 3) := by decide +kernel
theorem dX11_turn_195 : decode cX11_turn 195 = .ok (.goto (-98), 3) := by decide +kernel
theorem dX11_turn_198 : decode cX11_turn 198 = .ok (.iload_n 2, 1) := by decide +kernel
theorem dX11_turn_199 : decode cX11_turn 199 = .ok (.ireturn, 1) := by decide +kernel
theorem dX11_isAtSentence_0 : decode cX11_isAtSentence 0 = .ok (.iconst 0, 1) := by decide +kernel
theorem dX11_isAtSentence_1 : decode cX11_isAtSentence 1 = .ok (.istore_n 1, 1) := by decide +kernel
theorem dX11_isAtSentence_2 : decode cX11_isAtSentence 2 = .ok (.iload_n 1, 1) := by decide +kernel
theorem dX11_isAtSentence_3 : decode cX11_isAtSentence 3 = .ok (.bipush 8, 2) := by decide +kernel
theorem dX11_isAtSentence_5 : decode cX11_isAtSentence 5 = .ok (.if_icmp .ge 30, 3) := by decide +kernel
theorem dX11_isAtSentence_8 : decode cX11_isAtSentence 8 = .ok (.aload_n 0, 1) := by decide +kernel
theorem dX11_isAtSentence_9 : decode cX11_isAtSentence 9 = .ok (.iload_n 1, 1) := by decide +kernel
theorem dX11_isAtSentence_10 : decode cX11_isAtSentence 10 = .ok (.iconst 0, 1) := by decide +kernel
theorem dX11_isAtSentence_11 : decode cX11_isAtSentence 11 = .ok (.invokevirtual 158, 3) := by decide +kernel
theorem dX11_isAtSentence_14 : decode cX11_isAtSentence 14 = .ok (.ifCond .eq 15, 3) := by decide +kernel
theorem dX11_isAtSentence_17 : decode cX11_isAtSentence 17 = .ok (.aload_n 0, 1) := by decide +kernel
theorem dX11_isAtSentence_18 : decode cX11_isAtSentence 18 = .ok (.iload_n 1, 1) := by decide +kernel
theorem dX11_isAtSentence_19 : decode cX11_isAtSentence 19 = .ok (.iconst 5, 1) := by decide +kernel
theorem dX11_isAtSentence_20 : decode cX11_isAtSentence 20 = .ok (.invokevirtual 158, 3) := by decide +kernel
theorem dX11_isAtSentence_23 : decode cX11_isAtSentence 23 = .ok (.iconst 1, 1) := by decide +kernel
theorem dX11_isAtSentence_24 : decode cX11_isAtSentence 24 = .ok (.if_icmp .ne 5, 3) := by decide +kernel
theorem dX11_isAtSentence_27 : decode cX11_isAtSentence 27 = .ok (.iconst 1, 1) := by decide +kernel
theorem dX11_isAtSentence_28 : decode cX11_isAtSentence 28 = .ok (.ireturn, 1) := by decide +kernel
theorem dX11_isAtSentence_29 : decode cX11_isAtSentence 29 = .ok (.iinc 1 1, 3) := by decide +kernel
theorem dX11_isAtSentence_32 : decode cX11_isAtSentence 32 = .ok (.goto (-30), 3) := by decide +kernel
theorem dX11_isAtSentence_35 : decode cX11_isAtSentence 35 = .ok (.iconst 0, 1) := by decide +kernel
theorem dX11_isAtSentence_36 : decode cX11_isAtSentence 36 = .ok (.ireturn, 1) := by decide +kernel
theorem dX11_takesSentence_0 : decode cX11_takesSentence 0 = .ok (.aload_n 0, 1) := by decide +kernel
theorem dX11_takesSentence_1 : decode cX11_takesSentence 1 = .ok (.getfield 57, 3) := by decide +kernel
theorem dX11_takesSentence_4 : decode cX11_takesSentence 4 = .ok (.sipush 150, 3) := by decide +kernel
theorem dX11_takesSentence_7 : decode cX11_takesSentence 7 = .ok (.iaload, 1) := by decide +kernel
theorem dX11_takesSentence_8 : decode cX11_takesSentence 8 = .ok (.istore_n 1, 1) := by decide +kernel
theorem dX11_takesSentence_9 : decode cX11_takesSentence 9 = .ok (.aload_n 0, 1) := by decide +kernel
theorem dX11_takesSentence_10 : decode cX11_takesSentence 10 = .ok (.getfield 57, 3) := by decide +kernel
theorem dX11_takesSentence_13 : decode cX11_takesSentence 13 = .ok (.sipush 151, 3) := by decide +kernel
theorem dX11_takesSentence_16 : decode cX11_takesSentence 16 = .ok (.iaload, 1) := by decide +kernel
theorem dX11_takesSentence_17 : decode cX11_takesSentence 17 = .ok (.istore_n 2, 1) := by decide +kernel
theorem dX11_takesSentence_18 : decode cX11_takesSentence 18 = .ok (.iconst 0, 1) := by decide +kernel
theorem dX11_takesSentence_19 : decode cX11_takesSentence 19 = .ok (.istore_n 3, 1) := by decide +kernel
theorem dX11_takesSentence_20 : decode cX11_takesSentence 20 = .ok (.iload_n 3, 1) := by decide +kernel
theorem dX11_takesSentence_21 : decode cX11_takesSentence 21 = .ok (.iconst 3, 1) := by decide +kernel
theorem dX11_takesSentence_22 : decode cX11_takesSentence 22 = .ok (.if_icmp .ge 28, 3) := by decide +kernel
theorem dX11_takesSentence_25 : decode cX11_takesSentence 25 = .ok (.aload_n 0, 1) := by decide +kernel
theorem dX11_takesSentence_26 : decode cX11_takesSentence 26 = .ok (.getfield 57, 3) := by decide +kernel
theorem dX11_takesSentence_29 : decode cX11_takesSentence 29 = .ok (.bipush 7, 2) := by decide +kernel
theorem dX11_takesSentence_31 : decode cX11_takesSentence 31 = .ok (.iload_n 3, 1) := by decide +kernel
theorem dX11_takesSentence_32 : decode cX11_takesSentence 32 = .ok (.iadd, 1) := by decide +kernel
theorem dX11_takesSentence_33 : decode cX11_takesSentence 33 = .ok (.aload_n 0, 1) := by decide +kernel
theorem dX11_takesSentence_34 : decode cX11_takesSentence 34 = .ok (.getfield 57, 3) := by decide +kernel
theorem dX11_takesSentence_37 : decode cX11_takesSentence 37 = .ok (.sipush 150, 3) := by decide +kernel
theorem dX11_takesSentence_40 : decode cX11_takesSentence 40 = .ok (.iload_n 3, 1) := by decide +kernel
theorem dX11_takesSentence_41 : decode cX11_takesSentence 41 = .ok (.iadd, 1) := by decide +kernel
theorem dX11_takesSentence_42 : decode cX11_takesSentence 42 = .ok (.iaload, 1) := by decide +kernel
theorem dX11_takesSentence_43 : decode cX11_takesSentence 43 = .ok (.iastore, 1) := by decide +kernel
theorem dX11_takesSentence_44 : decode cX11_takesSentence 44 = .ok (.iinc 3 1, 3) := by decide +kernel
theorem dX11_takesSentence_47 : decode cX11_takesSentence 47 = .ok (.goto (-27), 3) := by decide +kernel
theorem dX11_takesSentence_50 : decode cX11_takesSentence 50 = .ok (.iconst 0, 1) := by decide +kernel
theorem dX11_takesSentence_51 : decode cX11_takesSentence 51 = .ok (.istore_n 3, 1) := by decide +kernel
theorem dX11_takesSentence_52 : decode cX11_takesSentence 52 = .ok (.iload_n 3, 1) := by decide +kernel
theorem dX11_takesSentence_53 : decode cX11_takesSentence 53 = .ok (.bipush 15, 2) := by decide +kernel
theorem dX11_takesSentence_55 : decode cX11_takesSentence 55 = .ok (.if_icmp .ge 29, 3) := by decide +kernel
theorem dX11_takesSentence_58 : decode cX11_takesSentence 58 = .ok (.aload_n 0, 1) := by decide +kernel
theorem dX11_takesSentence_59 : decode cX11_takesSentence 59 = .ok (.getfield 57, 3) := by decide +kernel
theorem dX11_takesSentence_62 : decode cX11_takesSentence 62 = .ok (.sipush 150, 3) := by decide +kernel
theorem dX11_takesSentence_65 : decode cX11_takesSentence 65 = .ok (.iload_n 3, 1) := by decide +kernel
theorem dX11_takesSentence_66 : decode cX11_takesSentence 66 = .ok (.iadd, 1) := by decide +kernel
theorem dX11_takesSentence_67 : decode cX11_takesSentence 67 = .ok (.aload_n 0, 1) := by decide +kernel
theorem dX11_takesSentence_68 : decode cX11_takesSentence 68 = .ok (.getfield 57, 3) := by decide +kernel
theorem dX11_takesSentence_71 : decode cX11_takesSentence 71 = .ok (.sipush 153, 3) := by decide +kernel
theorem dX11_takesSentence_74 : decode cX11_takesSentence 74 = .ok (.iload_n 3, 1) := by decide +kernel
theorem dX11_takesSentence_75 : decode cX11_takesSentence 75 = .ok (.iadd, 1) := by decide +kernel
theorem dX11_takesSentence_76 : decode cX11_takesSentence 76 = .ok (.iaload, 1) := by decide +kernel
theorem dX11_takesSentence_77 : decode cX11_takesSentence 77 = .ok (.iastore, 1) := by decide +kernel
theorem dX11_takesSentence_78 : decode cX11_takesSentence 78 = .ok (.iinc 3 1, 3) := by decide +kernel
theorem dX11_takesSentence_81 : decode cX11_takesSentence 81 = .ok (.goto (-29), 3) := by decide +kernel
theorem dX11_takesSentence_84 : decode cX11_takesSentence 84 = .ok (.aload_n 0, 1) := by decide +kernel
theorem dX11_takesSentence_85 : decode cX11_takesSentence 85 = .ok (.getfield 57, 3) := by decide +kernel
theorem dX11_takesSentence_88 : decode cX11_takesSentence 88 = .ok (.iconst 5, 1) := by decide +kernel
theorem dX11_takesSentence_89 : decode cX11_takesSentence 89 = .ok (.dup2, 1) := by decide +kernel
theorem dX11_takesSentence_90 : decode cX11_takesSentence 90 = .ok (.iaload, 1) := by decide +kernel
theorem dX11_takesSentence_91 : decode cX11_takesSentence 91 = .ok (.iconst 1, 1) := by decide +kernel
theorem dX11_takesSentence_92 : decode cX11_takesSentence 92 = .ok (.isub, 1) := by decide +kernel
theorem dX11_takesSentence_93 : decode cX11_takesSentence 93 = .ok (.iastore, 1) := by decide +kernel
theorem dX11_takesSentence_94 : decode cX11_takesSentence 94 = .ok (.aload_n 0, 1) := by decide +kernel
theorem dX11_takesSentence_95 : decode cX11_takesSentence 95 = .ok (.iload_n 2, 1) := by decide +kernel
theorem dX11_takesSentence_96 : decode cX11_takesSentence 96 = .ok (.invokevirtual 292, 3) := by decide +kernel
theorem dX11_takesSentence_99 : decode cX11_takesSentence 99 = .ok (.ifCond .ne 4, 3) := by decide +kernel
theorem dX11_takesSentence_102 : decode cX11_takesSentence 102 = .ok (.return_, 1) := by decide +kernel
theorem dX11_takesSentence_103 : decode cX11_takesSentence 103 = .ok (.aload_n 0, 1) := by decide +kernel
theorem dX11_takesSentence_104 : decode cX11_takesSentence 104 = .ok (.iload_n 2, 1) := by decide +kernel
theorem dX11_takesSentence_105 : decode cX11_takesSentence 105 = .ok (.iload_n 1, 1) := by decide +kernel
theorem dX11_takesSentence_106 : decode cX11_takesSentence 106 = .ok (.invokevirtual 340, 3) := by decide +kernel
theorem dX11_takesSentence_109 : decode cX11_takesSentence 109 = .ok (.istore_n 3, 1) := by decide +kernel
theorem dX11_takesSentence_110 : decode cX11_takesSentence 110 = .ok (.iload_n 3, 1) := by decide +kernel
theorem dX11_takesSentence_111 : decode cX11_takesSentence 111 = .ok (.ifCond .ne 14, 3) := by decide +kernel
theorem dX11_takesSentence_114 : decode cX11_takesSentence 114 = .ok (.aload_n 0, 1) := by decide +kernel
theorem dX11_takesSentence_115 : decode cX11_takesSentence 115 = .ok (.iload_n 2, 1) := by decide +kernel
theorem dX11_takesSentence_116 : decode cX11_takesSentence 116 = .ok (.sipush 255, 3) := by decide +kernel
theorem dX11_takesSentence_119 : decode cX11_takesSentence 119 = .ok (.invokevirtual 340, 3) := by decide +kernel
theorem dX11_takesSentence_122 : decode cX11_takesSentence 122 = .ok (.goto 4, 3) := by decide +kernel
theorem dX11_takesSentence_125 : decode cX11_takesSentence 125 = .ok (.iload_n 3, 1) := by decide +kernel
theorem dX11_takesSentence_126 : decode cX11_takesSentence 126 = .ok (.istore_n 3, 1) := by decide +kernel
theorem dX11_takesSentence_127 : decode cX11_takesSentence 127 = .ok (.aload_n 0, 1) := by decide +kernel
theorem dX11_takesSentence_128 : decode cX11_takesSentence 128 = .ok (.iload_n 3, 1) := by decide +kernel
theorem dX11_takesSentence_129 : decode cX11_takesSentence 129 = .ok (.invokevirtual 298, 3) := by decide +kernel
theorem dX11_takesSentence_132 : decode cX11_takesSentence 132 = .ok (.istore 4, 2) := by decide +kernel
theorem dX11_takesSentence_134 : decode cX11_takesSentence 134 = .ok (.iload 4, 2) := by decide +kernel
theorem dX11_takesSentence_136 : decode cX11_takesSentence 136 = .ok (.ifCond .lt 11, 3) := by decide +kernel
theorem dX11_takesSentence_139 : decode cX11_takesSentence 139 = .ok (.aload_n 0, 1) := by decide +kernel
theorem dX11_takesSentence_140 : decode cX11_takesSentence 140 = .ok (.iload 4, 2) := by decide +kernel
theorem dX11_takesSentence_142 : decode cX11_takesSentence 142 = .ok (.iconst 5, 1) := by decide +kernel
theorem dX11_takesSentence_143 : decode cX11_takesSentence 143 = .ok (.iconst 1, 1) := by decide +kernel
theorem dX11_takesSentence_144 : decode cX11_takesSentence 144 = .ok (.invokevirtual 148, 3) := by decide +kernel
theorem dX11_takesSentence_147 : decode cX11_takesSentence 147 = .ok (.return_, 1) := by decide +kernel
theorem dX11_one_0 : decode cX11_one 0 = .ok (.aload_n 0, 1) := by decide +kernel
theorem dX11_one_1 : decode cX11_one 1 = .ok (.getfield 57, 3) := by decide +kernel
theorem dX11_one_4 : decode cX11_one 4 = .ok (.iconst 0, 1) := by decide +kernel
theorem dX11_one_5 : decode cX11_one 5 = .ok (.dup2, 1) := by decide +kernel
theorem dX11_one_6 : decode cX11_one 6 = .ok (.iaload, 1) := by decide +kernel
theorem dX11_one_7 : decode cX11_one 7 = .ok (.iconst 1, 1) := by decide +kernel
theorem dX11_one_8 : decode cX11_one 8 = .ok (.iadd, 1) := by decide +kernel
theorem dX11_one_9 : decode cX11_one 9 = .ok (.iastore, 1) := by decide +kernel
theorem dX11_one_10 : decode cX11_one 10 = .ok (.aload_n 0, 1) := by decide +kernel
theorem dX11_one_11 : decode cX11_one 11 = .ok (.getfield 57, 3) := by decide +kernel
theorem dX11_one_14 : decode cX11_one 14 = .ok (.bipush 6, 2) := by decide +kernel
theorem dX11_one_16 : decode cX11_one 16 = .ok (.aload_n 0, 1) := by decide +kernel
theorem dX11_one_17 : decode cX11_one 17 = .ok (.getfield 57, 3) := by decide +kernel
theorem dX11_one_20 : decode cX11_one 20 = .ok (.iconst 0, 1) := by decide +kernel
theorem dX11_one_21 : decode cX11_one 21 = .ok (.iaload, 1) := by decide +kernel
theorem dX11_one_22 : decode cX11_one 22 = .ok (.iastore, 1) := by decide +kernel
theorem dX11_one_23 : decode cX11_one 23 = .ok (.aload_n 0, 1) := by decide +kernel
theorem dX11_one_24 : decode cX11_one 24 = .ok (.getfield 57, 3) := by decide +kernel
theorem dX11_one_27 : decode cX11_one 27 = .ok (.iconst 5, 1) := by decide +kernel
theorem dX11_one_28 : decode cX11_one 28 = .ok (.iaload, 1) := by decide +kernel
theorem dX11_one_29 : decode cX11_one 29 = .ok (.ifCond .le 14, 3) := by decide +kernel
theorem dX11_one_32 : decode cX11_one 32 = .ok (.aload_n 0, 1) := by decide +kernel
theorem dX11_one_33 : decode cX11_one 33 = .ok (.invokevirtual 343, 3) := by decide +kernel
theorem dX11_one_36 : decode cX11_one 36 = .ok (.ifCond .ne 7, 3) := by decide +kernel
theorem dX11_one_39 : decode cX11_one 39 = .ok (.aload_n 0, 1) := by decide +kernel
theorem dX11_one_40 : decode cX11_one 40 = .ok (.invokevirtual 346, 3) := by decide +kernel
theorem dX11_one_43 : decode cX11_one 43 = .ok (.iconst 0, 1) := by decide +kernel
theorem dX11_one_44 : decode cX11_one 44 = .ok (.istore_n 1, 1) := by decide +kernel
theorem dX11_one_45 : decode cX11_one 45 = .ok (.iconst 0, 1) := by decide +kernel
theorem dX11_one_46 : decode cX11_one 46 = .ok (.istore_n 2, 1) := by decide +kernel
theorem dX11_one_47 : decode cX11_one 47 = .ok (.iload_n 2, 1) := by decide +kernel
theorem dX11_one_48 : decode cX11_one 48 = .ok (.bipush 8, 2) := by decide +kernel
theorem dX11_one_50 : decode cX11_one 50 = .ok (.if_icmp .ge 17, 3) := by decide +kernel
theorem dX11_one_53 : decode cX11_one 53 = .ok (.iload_n 1, 1) := by decide +kernel
theorem dX11_one_54 : decode cX11_one 54 = .ok (.aload_n 0, 1) := by decide +kernel
theorem dX11_one_55 : decode cX11_one 55 = .ok (.iload_n 2, 1) := by decide +kernel
theorem dX11_one_56 : decode cX11_one 56 = .ok (.invokevirtual 349, 3) := by decide +kernel
theorem dX11_one_59 : decode cX11_one 59 = .ok (.iadd, 1) := by decide +kernel
theorem dX11_one_60 : decode cX11_one 60 = .ok (.istore_n 1, 1) := by decide +kernel
theorem dX11_one_61 : decode cX11_one 61 = .ok (.iinc 2 1, 3) := by decide +kernel
theorem dX11_one_64 : decode cX11_one 64 = .ok (.goto (-17), 3) := by decide +kernel
theorem dX11_one_67 : decode cX11_one 67 = .ok (.iconst 1, 1) := by decide +kernel
theorem dX11_one_68 : decode cX11_one 68 = .ok (.istore_n 2, 1) := by decide +kernel
theorem dX11_one_69 : decode cX11_one 69 = .ok (.iload_n 2, 1) := by decide +kernel
theorem dX11_one_70 : decode cX11_one 70 = .ok (.bipush 13, 2) := by decide +kernel
theorem dX11_one_72 : decode cX11_one 72 = .ok (.if_icmp .ge 46, 3) := by decide +kernel
theorem dX11_one_75 : decode cX11_one 75 = .ok (.aload_n 0, 1) := by decide +kernel
theorem dX11_one_76 : decode cX11_one 76 = .ok (.iload_n 2, 1) := by decide +kernel
theorem dX11_one_77 : decode cX11_one 77 = .ok (.iconst 3, 1) := by decide +kernel
theorem dX11_one_78 : decode cX11_one 78 = .ok (.invokevirtual 192, 3) := by decide +kernel
theorem dX11_one_81 : decode cX11_one 81 = .ok (.istore_n 3, 1) := by decide +kernel
theorem dX11_one_82 : decode cX11_one 82 = .ok (.iconst 0, 1) := by decide +kernel
theorem dX11_one_83 : decode cX11_one 83 = .ok (.istore 4, 2) := by decide +kernel
theorem dX11_one_85 : decode cX11_one 85 = .ok (.iload 4, 2) := by decide +kernel
theorem dX11_one_87 : decode cX11_one 87 = .ok (.iload_n 3, 1) := by decide +kernel
theorem dX11_one_88 : decode cX11_one 88 = .ok (.if_icmp .ge 24, 3) := by decide +kernel
theorem dX11_one_91 : decode cX11_one 91 = .ok (.aload_n 0, 1) := by decide +kernel
theorem dX11_one_92 : decode cX11_one 92 = .ok (.iload_n 2, 1) := by decide +kernel
theorem dX11_one_93 : decode cX11_one 93 = .ok (.iconst 4, 1) := by decide +kernel
theorem dX11_one_94 : decode cX11_one 94 = .ok (.invokevirtual 192, 3) := by decide +kernel
theorem dX11_one_97 : decode cX11_one 97 = .ok (.iconst 1, 1) := by decide +kernel
theorem dX11_one_98 : decode cX11_one 98 = .ok (.if_icmp .ne 14, 3) := by decide +kernel
theorem dX11_one_101 : decode cX11_one 101 = .ok (.aload_n 0, 1) := by decide +kernel
theorem dX11_one_102 : decode cX11_one 102 = .ok (.iload_n 2, 1) := by decide +kernel
theorem dX11_one_103 : decode cX11_one 103 = .ok (.invokevirtual 352, 3) := by decide +kernel
theorem dX11_one_106 : decode cX11_one 106 = .ok (.iinc 4 1, 3) := by decide +kernel
theorem dX11_one_109 : decode cX11_one 109 = .ok (.goto (-24), 3) := by decide +kernel
theorem dX11_one_112 : decode cX11_one 112 = .ok (.iinc 2 1, 3) := by decide +kernel
theorem dX11_one_115 : decode cX11_one 115 = .ok (.goto (-46), 3) := by decide +kernel
theorem dX11_one_118 : decode cX11_one 118 = .ok (.iload_n 1, 1) := by decide +kernel
theorem dX11_one_119 : decode cX11_one 119 = .ok (.ireturn, 1) := by decide +kernel
theorem dX11_tick_0 : decode cX11_tick 0 = .ok (.aload_n 0, 1) := by decide +kernel
theorem dX11_tick_1 : decode cX11_tick 1 = .ok (.iconst 0, 1) := by decide +kernel
theorem dX11_tick_2 : decode cX11_tick 2 = .ok (.putfield 3, 3) := by decide +kernel
theorem dX11_tick_5 : decode cX11_tick 5 = .ok (.iload_n 1, 1) := by decide +kernel
theorem dX11_tick_6 : decode cX11_tick 6 = .ok (.i2l, 1) := by decide +kernel
theorem dX11_tick_7 : decode cX11_tick 7 = .ok (.lconst 0, 1) := by decide +kernel
theorem dX11_tick_8 : decode cX11_tick 8 = .ok (.ldc2_w 355, 3) := by decide +kernel
theorem dX11_tick_11 : decode cX11_tick 11 = .ok (.invokestatic 72, 3) := by decide +kernel
theorem dX11_tick_14 : decode cX11_tick 14 = .ok (.ifCond .ne 5, 3) := by decide +kernel
theorem dX11_tick_17 : decode cX11_tick 17 = .ok (.iconst (-1), 1) := by decide +kernel
theorem dX11_tick_18 : decode cX11_tick 18 = .ok (.ireturn, 1) := by decide +kernel
theorem dX11_tick_19 : decode cX11_tick 19 = .ok (.iconst 0, 1) := by decide +kernel
theorem dX11_tick_20 : decode cX11_tick 20 = .ok (.istore_n 2, 1) := by decide +kernel
theorem dX11_tick_21 : decode cX11_tick 21 = .ok (.iconst 0, 1) := by decide +kernel
theorem dX11_tick_22 : decode cX11_tick 22 = .ok (.istore_n 3, 1) := by decide +kernel
theorem dX11_tick_23 : decode cX11_tick 23 = .ok (.iload_n 3, 1) := by decide +kernel
theorem dX11_tick_24 : decode cX11_tick 24 = .ok (.iload_n 1, 1) := by decide +kernel
theorem dX11_tick_25 : decode cX11_tick 25 = .ok (.if_icmp .ge 16, 3) := by decide +kernel
theorem dX11_tick_28 : decode cX11_tick 28 = .ok (.iload_n 2, 1) := by decide +kernel
theorem dX11_tick_29 : decode cX11_tick 29 = .ok (.aload_n 0, 1) := by decide +kernel
theorem dX11_tick_30 : decode cX11_tick 30 = .ok (.invokevirtual 357, 3) := by decide +kernel
theorem dX11_tick_33 : decode cX11_tick 33 = .ok (.iadd, 1) := by decide +kernel
theorem dX11_tick_34 : decode cX11_tick 34 = .ok (.istore_n 2, 1) := by decide +kernel
theorem dX11_tick_35 : decode cX11_tick 35 = .ok (.iinc 3 1, 3) := by decide +kernel
theorem dX11_tick_38 : decode cX11_tick 38 = .ok (.goto (-15), 3) := by decide +kernel
theorem dX11_tick_41 : decode cX11_tick 41 = .ok (.iload_n 2, 1) := by decide +kernel
theorem dX11_tick_42 : decode cX11_tick 42 = .ok (.ireturn, 1) := by decide +kernel
theorem dX11_start_0 : decode cX11_start 0 = .ok (.aload_n 0, 1) := by decide +kernel
theorem dX11_start_1 : decode cX11_start 1 = .ok (.iconst 0, 1) := by decide +kernel
theorem dX11_start_2 : decode cX11_start 2 = .ok (.putfield 3, 3) := by decide +kernel
theorem dX11_start_5 : decode cX11_start 5 = .ok (.aload_n 0, 1) := by decide +kernel
theorem dX11_start_6 : decode cX11_start 6 = .ok (.iload_n 1, 1) := by decide +kernel
theorem dX11_start_7 : decode cX11_start 7 = .ok (.invokevirtual 298, 3) := by decide +kernel
theorem dX11_start_10 : decode cX11_start 10 = .ok (.ireturn, 1) := by decide +kernel
theorem dX11_say_0 : decode cX11_say 0 = .ok (.aload_n 0, 1) := by decide +kernel
theorem dX11_say_1 : decode cX11_say 1 = .ok (.iconst 0, 1) := by decide +kernel
theorem dX11_say_2 : decode cX11_say 2 = .ok (.putfield 3, 3) := by decide +kernel
theorem dX11_say_5 : decode cX11_say 5 = .ok (.aload_n 0, 1) := by decide +kernel
theorem dX11_say_6 : decode cX11_say 6 = .ok (.iload_n 1, 1) := by decide +kernel
theorem dX11_say_7 : decode cX11_say 7 = .ok (.iload_n 2, 1) := by decide +kernel
theorem dX11_say_8 : decode cX11_say 8 = .ok (.iload_n 3, 1) := by decide +kernel
theorem dX11_say_9 : decode cX11_say 9 = .ok (.invokevirtual 321, 3) := by decide +kernel
theorem dX11_say_12 : decode cX11_say 12 = .ok (.ireturn, 1) := by decide +kernel
theorem dX11_walk_0 : decode cX11_walk 0 = .ok (.aload_n 0, 1) := by decide +kernel
theorem dX11_walk_1 : decode cX11_walk 1 = .ok (.iconst 0, 1) := by decide +kernel
theorem dX11_walk_2 : decode cX11_walk 2 = .ok (.putfield 3, 3) := by decide +kernel
theorem dX11_walk_5 : decode cX11_walk 5 = .ok (.aload_n 0, 1) := by decide +kernel
theorem dX11_walk_6 : decode cX11_walk 6 = .ok (.iload_n 1, 1) := by decide +kernel
theorem dX11_walk_7 : decode cX11_walk 7 = .ok (.invokevirtual 284, 3) := by decide +kernel
theorem dX11_walk_10 : decode cX11_walk 10 = .ok (.ifCond .eq 17, 3) := by decide +kernel
theorem dX11_walk_13 : decode cX11_walk 13 = .ok (.iload_n 2, 1) := by decide +kernel
theorem dX11_walk_14 : decode cX11_walk 14 = .ok (.invokestatic 287, 3) := by decide +kernel
theorem dX11_walk_17 : decode cX11_walk 17 = .ok (.ifCond .eq 10, 3) := by decide +kernel
theorem dX11_walk_20 : decode cX11_walk 20 = .ok (.iload_n 3, 1) := by decide +kernel
theorem dX11_walk_21 : decode cX11_walk 21 = .ok (.invokestatic 287, 3) := by decide +kernel
theorem dX11_walk_24 : decode cX11_walk 24 = .ok (.ifCond .ne 5, 3) := by decide +kernel
theorem dX11_walk_27 : decode cX11_walk 27 = .ok (.iconst 0, 1) := by decide +kernel
theorem dX11_walk_28 : decode cX11_walk 28 = .ok (.ireturn, 1) := by decide +kernel
theorem dX11_walk_29 : decode cX11_walk 29 = .ok (.aload_n 0, 1) := by decide +kernel
theorem dX11_walk_30 : decode cX11_walk 30 = .ok (.iload_n 1, 1) := by decide +kernel
theorem dX11_walk_31 : decode cX11_walk 31 = .ok (.iload_n 2, 1) := by decide +kernel
theorem dX11_walk_32 : decode cX11_walk 32 = .ok (.iload_n 3, 1) := by decide +kernel
theorem dX11_walk_33 : decode cX11_walk 33 = .ok (.invokevirtual 318, 3) := by decide +kernel
theorem dX11_walk_36 : decode cX11_walk 36 = .ok (.iconst 1, 1) := by decide +kernel
theorem dX11_walk_37 : decode cX11_walk 37 = .ok (.ireturn, 1) := by decide +kernel
theorem dX11_set_0 : decode cX11_set 0 = .ok (.aload_n 0, 1) := by decide +kernel
theorem dX11_set_1 : decode cX11_set 1 = .ok (.iconst 0, 1) := by decide +kernel
theorem dX11_set_2 : decode cX11_set 2 = .ok (.putfield 3, 3) := by decide +kernel
theorem dX11_set_5 : decode cX11_set 5 = .ok (.iload_n 1, 1) := by decide +kernel
theorem dX11_set_6 : decode cX11_set 6 = .ok (.i2l, 1) := by decide +kernel
theorem dX11_set_7 : decode cX11_set 7 = .ok (.lconst 0, 1) := by decide +kernel
theorem dX11_set_8 : decode cX11_set 8 = .ok (.ldc2_w 245, 3) := by decide +kernel
theorem dX11_set_11 : decode cX11_set 11 = .ok (.invokestatic 72, 3) := by decide +kernel
theorem dX11_set_14 : decode cX11_set 14 = .ok (.ifCond .ne 8, 3) := by decide +kernel
theorem dX11_set_17 : decode cX11_set 17 = .ok (.aload_n 0, 1) := by decide +kernel
theorem dX11_set_18 : decode cX11_set 18 = .ok (.invokevirtual 135, 3) := by decide +kernel
theorem dX11_set_21 : decode cX11_set 21 = .ok (.ireturn, 1) := by decide +kernel
theorem dX11_set_22 : decode cX11_set 22 = .ok (.aload_n 0, 1) := by decide +kernel
theorem dX11_set_23 : decode cX11_set 23 = .ok (.getfield 57, 3) := by decide +kernel
theorem dX11_set_26 : decode cX11_set 26 = .ok (.bipush 6, 2) := by decide +kernel
theorem dX11_set_28 : decode cX11_set 28 = .ok (.iload_n 1, 1) := by decide +kernel
theorem dX11_set_29 : decode cX11_set 29 = .ok (.iadd, 1) := by decide +kernel
theorem dX11_set_30 : decode cX11_set 30 = .ok (.iaload, 1) := by decide +kernel
theorem dX11_set_31 : decode cX11_set 31 = .ok (.istore_n 3, 1) := by decide +kernel
theorem dX11_set_32 : decode cX11_set 32 = .ok (.aload_n 0, 1) := by decide +kernel
theorem dX11_set_33 : decode cX11_set 33 = .ok (.getfield 57, 3) := by decide +kernel
theorem dX11_set_36 : decode cX11_set 36 = .ok (.bipush 6, 2) := by decide +kernel
theorem dX11_set_38 : decode cX11_set 38 = .ok (.iload_n 1, 1) := by decide +kernel
theorem dX11_set_39 : decode cX11_set 39 = .ok (.iadd, 1) := by decide +kernel
theorem dX11_set_40 : decode cX11_set 40 = .ok (.iload_n 2, 1) := by decide +kernel
theorem dX11_set_41 : decode cX11_set 41 = .ok (.iastore, 1) := by decide +kernel
theorem dX11_set_42 : decode cX11_set 42 = .ok (.iload_n 3, 1) := by decide +kernel
theorem dX11_set_43 : decode cX11_set 43 = .ok (.ireturn, 1) := by decide +kernel
theorem dX11_variable_0 : decode cX11_variable 0 = .ok (.aload_n 0, 1) := by decide +kernel
theorem dX11_variable_1 : decode cX11_variable 1 = .ok (.iconst 0, 1) := by decide +kernel
theorem dX11_variable_2 : decode cX11_variable 2 = .ok (.putfield 3, 3) := by decide +kernel
theorem dX11_variable_5 : decode cX11_variable 5 = .ok (.iload_n 1, 1) := by decide +kernel
theorem dX11_variable_6 : decode cX11_variable 6 = .ok (.i2l, 1) := by decide +kernel
theorem dX11_variable_7 : decode cX11_variable 7 = .ok (.lconst 0, 1) := by decide +kernel
theorem dX11_variable_8 : decode cX11_variable 8 = .ok (.ldc2_w 245, 3) := by decide +kernel
theorem dX11_variable_11 : decode cX11_variable 11 = .ok (.invokestatic 72, 3) := by decide +kernel
theorem dX11_variable_14 : decode cX11_variable 14 = .ok (.ifCond .eq 15, 3) := by decide +kernel
theorem dX11_variable_17 : decode cX11_variable 17 = .ok (.aload_n 0, 1) := by decide +kernel
theorem dX11_variable_18 : decode cX11_variable 18 = .ok (.getfield 57, 3) := by decide +kernel
theorem dX11_variable_21 : decode cX11_variable 21 = .ok (.bipush 6, 2) := by decide +kernel
theorem dX11_variable_23 : decode cX11_variable 23 = .ok (.iload_n 1, 1) := by decide +kernel
theorem dX11_variable_24 : decode cX11_variable 24 = .ok (.iadd, 1) := by decide +kernel
theorem dX11_variable_25 : decode cX11_variable 25 = .ok (.iaload, 1) := by decide +kernel
theorem dX11_variable_26 : decode cX11_variable 26 = .ok (.goto 7, 3) := by decide +kernel
theorem dX11_variable_29 : decode cX11_variable 29 = .ok (.aload_n 0, 1) := by decide +kernel
theorem dX11_variable_30 : decode cX11_variable 30 = .ok (.invokevirtual 135, 3) := by decide +kernel
theorem dX11_variable_33 : decode cX11_variable 33 = .ok (.ireturn, 1) := by decide +kernel
theorem dX11_slot_0 : decode cX11_slot 0 = .ok (.aload_n 0, 1) := by decide +kernel
theorem dX11_slot_1 : decode cX11_slot 1 = .ok (.iconst 0, 1) := by decide +kernel
theorem dX11_slot_2 : decode cX11_slot 2 = .ok (.putfield 3, 3) := by decide +kernel
theorem dX11_slot_5 : decode cX11_slot 5 = .ok (.iload_n 1, 1) := by decide +kernel
theorem dX11_slot_6 : decode cX11_slot 6 = .ok (.i2l, 1) := by decide +kernel
theorem dX11_slot_7 : decode cX11_slot 7 = .ok (.lconst 0, 1) := by decide +kernel
theorem dX11_slot_8 : decode cX11_slot 8 = .ok (.ldc2_w 276, 3) := by decide +kernel
theorem dX11_slot_11 : decode cX11_slot 11 = .ok (.invokestatic 72, 3) := by decide +kernel
theorem dX11_slot_14 : decode cX11_slot 14 = .ok (.ifCond .eq 24, 3) := by decide +kernel
theorem dX11_slot_17 : decode cX11_slot 17 = .ok (.iload_n 2, 1) := by decide +kernel
theorem dX11_slot_18 : decode cX11_slot 18 = .ok (.i2l, 1) := by decide +kernel
theorem dX11_slot_19 : decode cX11_slot 19 = .ok (.lconst 0, 1) := by decide +kernel
theorem dX11_slot_20 : decode cX11_slot 20 = .ok (.ldc2_w 360, 3) := by decide +kernel
theorem dX11_slot_23 : decode cX11_slot 23 = .ok (.invokestatic 72, 3) := by decide +kernel
theorem dX11_slot_26 : decode cX11_slot 26 = .ok (.ifCond .eq 12, 3) := by decide +kernel
theorem dX11_slot_29 : decode cX11_slot 29 = .ok (.aload_n 0, 1) := by decide +kernel
theorem dX11_slot_30 : decode cX11_slot 30 = .ok (.iload_n 1, 1) := by decide +kernel
theorem dX11_slot_31 : decode cX11_slot 31 = .ok (.iload_n 2, 1) := by decide +kernel
theorem dX11_slot_32 : decode cX11_slot 32 = .ok (.invokevirtual 158, 3) := by decide +kernel
theorem dX11_slot_35 : decode cX11_slot 35 = .ok (.goto 4, 3) := by decide +kernel
theorem dX11_slot_38 : decode cX11_slot 38 = .ok (.iconst (-1), 1) := by decide +kernel
theorem dX11_slot_39 : decode cX11_slot 39 = .ok (.ireturn, 1) := by decide +kernel
theorem dX11_actor_0 : decode cX11_actor 0 = .ok (.aload_n 0, 1) := by decide +kernel
theorem dX11_actor_1 : decode cX11_actor 1 = .ok (.iconst 0, 1) := by decide +kernel
theorem dX11_actor_2 : decode cX11_actor 2 = .ok (.putfield 3, 3) := by decide +kernel
theorem dX11_actor_5 : decode cX11_actor 5 = .ok (.aload_n 0, 1) := by decide +kernel
theorem dX11_actor_6 : decode cX11_actor 6 = .ok (.iload_n 1, 1) := by decide +kernel
theorem dX11_actor_7 : decode cX11_actor 7 = .ok (.invokevirtual 284, 3) := by decide +kernel
theorem dX11_actor_10 : decode cX11_actor 10 = .ok (.ifCond .eq 15, 3) := by decide +kernel
theorem dX11_actor_13 : decode cX11_actor 13 = .ok (.iload_n 2, 1) := by decide +kernel
theorem dX11_actor_14 : decode cX11_actor 14 = .ok (.i2l, 1) := by decide +kernel
theorem dX11_actor_15 : decode cX11_actor 15 = .ok (.lconst 0, 1) := by decide +kernel
theorem dX11_actor_16 : decode cX11_actor 16 = .ok (.ldc2_w 276, 3) := by decide +kernel
theorem dX11_actor_19 : decode cX11_actor 19 = .ok (.invokestatic 72, 3) := by decide +kernel
theorem dX11_actor_22 : decode cX11_actor 22 = .ok (.ifCond .ne 8, 3) := by decide +kernel
theorem dX11_actor_25 : decode cX11_actor 25 = .ok (.aload_n 0, 1) := by decide +kernel
theorem dX11_actor_26 : decode cX11_actor 26 = .ok (.invokevirtual 135, 3) := by decide +kernel
theorem dX11_actor_29 : decode cX11_actor 29 = .ok (.ireturn, 1) := by decide +kernel
theorem dX11_actor_30 : decode cX11_actor 30 = .ok (.iload_n 2, 1) := by decide +kernel
theorem dX11_actor_31 : decode cX11_actor 31 = .ok (.bipush 7, 2) := by decide +kernel
theorem dX11_actor_33 : decode cX11_actor 33 = .ok (.if_icmp .ne 9, 3) := by decide +kernel
theorem dX11_actor_36 : decode cX11_actor 36 = .ok (.aload_n 0, 1) := by decide +kernel
theorem dX11_actor_37 : decode cX11_actor 37 = .ok (.iload_n 1, 1) := by decide +kernel
theorem dX11_actor_38 : decode cX11_actor 38 = .ok (.invokevirtual 220, 3) := by decide +kernel
theorem dX11_actor_41 : decode cX11_actor 41 = .ok (.ireturn, 1) := by decide +kernel
theorem dX11_actor_42 : decode cX11_actor 42 = .ok (.iload_n 2, 1) := by decide +kernel
theorem dX11_actor_43 : decode cX11_actor 43 = .ok (.iconst 4, 1) := by decide +kernel
theorem dX11_actor_44 : decode cX11_actor 44 = .ok (.if_icmp .le 16, 3) := by decide +kernel
theorem dX11_actor_47 : decode cX11_actor 47 = .ok (.aload_n 0, 1) := by decide +kernel
theorem dX11_actor_48 : decode cX11_actor 48 = .ok (.iload_n 1, 1) := by decide +kernel
theorem dX11_actor_49 : decode cX11_actor 49 = .ok (.iconst 4, 1) := by decide +kernel
theorem dX11_actor_50 : decode cX11_actor 50 = .ok (.invokevirtual 192, 3) := by decide +kernel
theorem dX11_actor_53 : decode cX11_actor 53 = .ok (.ifCond .ne 7, 3) := by decide +kernel
theorem dX11_actor_56 : decode cX11_actor 56 = .ok (.iconst (-1), 1) := by decide +kernel
theorem dX11_actor_57 : decode cX11_actor 57 = .ok (.goto 9, 3) := by decide +kernel
theorem dX11_actor_60 : decode cX11_actor 60 = .ok (.aload_n 0, 1) := by decide +kernel
theorem dX11_actor_61 : decode cX11_actor 61 = .ok (.iload_n 1, 1) := by decide +kernel
theorem dX11_actor_62 : decode cX11_actor 62 = .ok (.iload_n 2, 1) := by decide +kernel
theorem dX11_actor_63 : decode cX11_actor 63 = .ok (.invokevirtual 192, 3) := by decide +kernel
theorem dX11_actor_66 : decode cX11_actor 66 = .ok (.ireturn, 1) := by decide +kernel
theorem dX11_object_0 : decode cX11_object 0 = .ok (.aload_n 0, 1) := by decide +kernel
theorem dX11_object_1 : decode cX11_object 1 = .ok (.iconst 0, 1) := by decide +kernel
theorem dX11_object_2 : decode cX11_object 2 = .ok (.putfield 3, 3) := by decide +kernel
theorem dX11_object_5 : decode cX11_object 5 = .ok (.aload_n 0, 1) := by decide +kernel
theorem dX11_object_6 : decode cX11_object 6 = .ok (.iload_n 1, 1) := by decide +kernel
theorem dX11_object_7 : decode cX11_object 7 = .ok (.invokevirtual 292, 3) := by decide +kernel
theorem dX11_object_10 : decode cX11_object 10 = .ok (.ifCond .eq 15, 3) := by decide +kernel
theorem dX11_object_13 : decode cX11_object 13 = .ok (.iload_n 2, 1) := by decide +kernel
theorem dX11_object_14 : decode cX11_object 14 = .ok (.i2l, 1) := by decide +kernel
theorem dX11_object_15 : decode cX11_object 15 = .ok (.lconst 0, 1) := by decide +kernel
theorem dX11_object_16 : decode cX11_object 16 = .ok (.ldc2_w 362, 3) := by decide +kernel
theorem dX11_object_19 : decode cX11_object 19 = .ok (.invokestatic 72, 3) := by decide +kernel
theorem dX11_object_22 : decode cX11_object 22 = .ok (.ifCond .ne 8, 3) := by decide +kernel
theorem dX11_object_25 : decode cX11_object 25 = .ok (.aload_n 0, 1) := by decide +kernel
theorem dX11_object_26 : decode cX11_object 26 = .ok (.invokevirtual 135, 3) := by decide +kernel
theorem dX11_object_29 : decode cX11_object 29 = .ok (.ireturn, 1) := by decide +kernel
theorem dX11_object_30 : decode cX11_object 30 = .ok (.iload_n 2, 1) := by decide +kernel
theorem dX11_object_31 : decode cX11_object 31 = .ok (.iconst 3, 1) := by decide +kernel
theorem dX11_object_32 : decode cX11_object 32 = .ok (.if_icmp .ge 16, 3) := by decide +kernel
theorem dX11_object_35 : decode cX11_object 35 = .ok (.aload_n 0, 1) := by decide +kernel
theorem dX11_object_36 : decode cX11_object 36 = .ok (.getfield 39, 3) := by decide +kernel
theorem dX11_object_39 : decode cX11_object 39 = .ok (.iconst 3, 1) := by decide +kernel
theorem dX11_object_40 : decode cX11_object 40 = .ok (.iload_n 1, 1) := by decide +kernel
theorem dX11_object_41 : decode cX11_object 41 = .ok (.imul, 1) := by decide +kernel
theorem dX11_object_42 : decode cX11_object 42 = .ok (.iload_n 2, 1) := by decide +kernel
theorem dX11_object_43 : decode cX11_object 43 = .ok (.iadd, 1) := by decide +kernel
theorem dX11_object_44 : decode cX11_object 44 = .ok (.iaload, 1) := by decide +kernel
theorem dX11_object_45 : decode cX11_object 45 = .ok (.goto 45, 3) := by decide +kernel
theorem dX11_object_48 : decode cX11_object 48 = .ok (.iload_n 2, 1) := by decide +kernel
theorem dX11_object_49 : decode cX11_object 49 = .ok (.iconst 3, 1) := by decide +kernel
theorem dX11_object_50 : decode cX11_object 50 = .ok (.if_icmp .ne 16, 3) := by decide +kernel
theorem dX11_object_53 : decode cX11_object 53 = .ok (.aload_n 0, 1) := by decide +kernel
theorem dX11_object_54 : decode cX11_object 54 = .ok (.getfield 57, 3) := by decide +kernel
theorem dX11_object_57 : decode cX11_object 57 = .ok (.sipush 323, 3) := by decide +kernel
theorem dX11_object_60 : decode cX11_object 60 = .ok (.iload_n 1, 1) := by decide +kernel
theorem dX11_object_61 : decode cX11_object 61 = .ok (.iadd, 1) := by decide +kernel
theorem dX11_object_62 : decode cX11_object 62 = .ok (.iaload, 1) := by decide +kernel
theorem dX11_object_63 : decode cX11_object 63 = .ok (.goto 27, 3) := by decide +kernel
theorem dX11_object_66 : decode cX11_object 66 = .ok (.iload_n 2, 1) := by decide +kernel
theorem dX11_object_67 : decode cX11_object 67 = .ok (.iconst 4, 1) := by decide +kernel
theorem dX11_object_68 : decode cX11_object 68 = .ok (.if_icmp .ne 16, 3) := by decide +kernel
theorem dX11_object_71 : decode cX11_object 71 = .ok (.aload_n 0, 1) := by decide +kernel
theorem dX11_object_72 : decode cX11_object 72 = .ok (.getfield 57, 3) := by decide +kernel
theorem dX11_object_75 : decode cX11_object 75 = .ok (.sipush 384, 3) := by decide +kernel
theorem dX11_object_78 : decode cX11_object 78 = .ok (.iload_n 1, 1) := by decide +kernel
theorem dX11_object_79 : decode cX11_object 79 = .ok (.iadd, 1) := by decide +kernel
theorem dX11_object_80 : decode cX11_object 80 = .ok (.iaload, 1) := by decide +kernel
theorem dX11_object_81 : decode cX11_object 81 = .ok (.goto 9, 3) := by decide +kernel
theorem dX11_object_84 : decode cX11_object 84 = .ok (.aload_n 0, 1) := by decide +kernel
theorem dX11_object_85 : decode cX11_object 85 = .ok (.getfield 45, 3) := by decide +kernel
theorem dX11_object_88 : decode cX11_object 88 = .ok (.iload_n 1, 1) := by decide +kernel
theorem dX11_object_89 : decode cX11_object 89 = .ok (.iaload, 1) := by decide +kernel
theorem dX11_object_90 : decode cX11_object 90 = .ok (.ireturn, 1) := by decide +kernel
theorem dX11_verb_0 : decode cX11_verb 0 = .ok (.aload_n 0, 1) := by decide +kernel
theorem dX11_verb_1 : decode cX11_verb 1 = .ok (.iconst 0, 1) := by decide +kernel
theorem dX11_verb_2 : decode cX11_verb 2 = .ok (.putfield 3, 3) := by decide +kernel
theorem dX11_verb_5 : decode cX11_verb 5 = .ok (.aload_n 0, 1) := by decide +kernel
theorem dX11_verb_6 : decode cX11_verb 6 = .ok (.iload_n 1, 1) := by decide +kernel
theorem dX11_verb_7 : decode cX11_verb 7 = .ok (.invokevirtual 292, 3) := by decide +kernel
theorem dX11_verb_10 : decode cX11_verb 10 = .ok (.ifCond .eq 12, 3) := by decide +kernel
theorem dX11_verb_13 : decode cX11_verb 13 = .ok (.aload_n 0, 1) := by decide +kernel
theorem dX11_verb_14 : decode cX11_verb 14 = .ok (.iload_n 1, 1) := by decide +kernel
theorem dX11_verb_15 : decode cX11_verb 15 = .ok (.iload_n 2, 1) := by decide +kernel
theorem dX11_verb_16 : decode cX11_verb 16 = .ok (.invokevirtual 340, 3) := by decide +kernel
theorem dX11_verb_19 : decode cX11_verb 19 = .ok (.goto 4, 3) := by decide +kernel
theorem dX11_verb_22 : decode cX11_verb 22 = .ok (.iconst 0, 1) := by decide +kernel
theorem dX11_verb_23 : decode cX11_verb 23 = .ok (.ireturn, 1) := by decide +kernel
theorem dX11_box_0 : decode cX11_box 0 = .ok (.aload_n 0, 1) := by decide +kernel
theorem dX11_box_1 : decode cX11_box 1 = .ok (.iconst 0, 1) := by decide +kernel
theorem dX11_box_2 : decode cX11_box 2 = .ok (.putfield 3, 3) := by decide +kernel
theorem dX11_box_5 : decode cX11_box 5 = .ok (.aload_n 0, 1) := by decide +kernel
theorem dX11_box_6 : decode cX11_box 6 = .ok (.iload_n 1, 1) := by decide +kernel
theorem dX11_box_7 : decode cX11_box 7 = .ok (.iload_n 2, 1) := by decide +kernel
theorem dX11_box_8 : decode cX11_box 8 = .ok (.invokevirtual 295, 3) := by decide +kernel
theorem dX11_box_11 : decode cX11_box 11 = .ok (.ifCond .eq 15, 3) := by decide +kernel
theorem dX11_box_14 : decode cX11_box 14 = .ok (.iload_n 3, 1) := by decide +kernel
theorem dX11_box_15 : decode cX11_box 15 = .ok (.i2l, 1) := by decide +kernel
theorem dX11_box_16 : decode cX11_box 16 = .ok (.lconst 0, 1) := by decide +kernel
theorem dX11_box_17 : decode cX11_box 17 = .ok (.ldc2_w 364, 3) := by decide +kernel
theorem dX11_box_20 : decode cX11_box 20 = .ok (.invokestatic 72, 3) := by decide +kernel
theorem dX11_box_23 : decode cX11_box 23 = .ok (.ifCond .ne 5, 3) := by decide +kernel
theorem dX11_box_26 : decode cX11_box 26 = .ok (.iconst (-1), 1) := by decide +kernel
theorem dX11_box_27 : decode cX11_box 27 = .ok (.ireturn, 1) := by decide +kernel
theorem dX11_box_28 : decode cX11_box 28 = .ok (.iload_n 3, 1) := by decide +kernel
theorem dX11_box_29 : decode cX11_box 29 = .ok (.iconst 4, 1) := by decide +kernel
theorem dX11_box_30 : decode cX11_box 30 = .ok (.if_icmp .ne 21, 3) := by decide +kernel
theorem dX11_box_33 : decode cX11_box 33 = .ok (.aload_n 0, 1) := by decide +kernel
theorem dX11_box_34 : decode cX11_box 34 = .ok (.getfield 57, 3) := by decide +kernel
theorem dX11_box_37 : decode cX11_box 37 = .ok (.sipush 445, 3) := by decide +kernel
theorem dX11_box_40 : decode cX11_box 40 = .ok (.iload_n 1, 1) := by decide +kernel
theorem dX11_box_41 : decode cX11_box 41 = .ok (.bipush 16, 2) := by decide +kernel
theorem dX11_box_43 : decode cX11_box 43 = .ok (.imul, 1) := by decide +kernel
theorem dX11_box_44 : decode cX11_box 44 = .ok (.iadd, 1) := by decide +kernel
theorem dX11_box_45 : decode cX11_box 45 = .ok (.iload_n 2, 1) := by decide +kernel
theorem dX11_box_46 : decode cX11_box 46 = .ok (.iadd, 1) := by decide +kernel
theorem dX11_box_47 : decode cX11_box 47 = .ok (.iaload, 1) := by decide +kernel
theorem dX11_box_48 : decode cX11_box 48 = .ok (.goto 10, 3) := by decide +kernel
theorem dX11_box_51 : decode cX11_box 51 = .ok (.aload_n 0, 1) := by decide +kernel
theorem dX11_box_52 : decode cX11_box 52 = .ok (.iload_n 1, 1) := by decide +kernel
theorem dX11_box_53 : decode cX11_box 53 = .ok (.iload_n 2, 1) := by decide +kernel
theorem dX11_box_54 : decode cX11_box 54 = .ok (.iload_n 3, 1) := by decide +kernel
theorem dX11_box_55 : decode cX11_box 55 = .ok (.invokevirtual 168, 3) := by decide +kernel
theorem dX11_box_58 : decode cX11_box 58 = .ok (.ireturn, 1) := by decide +kernel
theorem dX11_neighbours_0 : decode cX11_neighbours 0 = .ok (.aload_n 0, 1) := by decide +kernel
theorem dX11_neighbours_1 : decode cX11_neighbours 1 = .ok (.iconst 0, 1) := by decide +kernel
theorem dX11_neighbours_2 : decode cX11_neighbours 2 = .ok (.putfield 3, 3) := by decide +kernel
theorem dX11_neighbours_5 : decode cX11_neighbours 5 = .ok (.aload_n 0, 1) := by decide +kernel
theorem dX11_neighbours_6 : decode cX11_neighbours 6 = .ok (.iload_n 1, 1) := by decide +kernel
theorem dX11_neighbours_7 : decode cX11_neighbours 7 = .ok (.iload_n 2, 1) := by decide +kernel
theorem dX11_neighbours_8 : decode cX11_neighbours 8 = .ok (.invokevirtual 295, 3) := by decide +kernel
theorem dX11_neighbours_11 : decode cX11_neighbours 11 = .ok (.ifCond .eq 12, 3) := by decide +kernel
theorem dX11_neighbours_14 : decode cX11_neighbours 14 = .ok (.aload_n 0, 1) := by decide +kernel
theorem dX11_neighbours_15 : decode cX11_neighbours 15 = .ok (.iload_n 1, 1) := by decide +kernel
theorem dX11_neighbours_16 : decode cX11_neighbours 16 = .ok (.iload_n 3, 1) := by decide +kernel
theorem dX11_neighbours_17 : decode cX11_neighbours 17 = .ok (.invokevirtual 295, 3) := by decide +kernel
theorem dX11_neighbours_20 : decode cX11_neighbours 20 = .ok (.ifCond .ne 7, 3) := by decide +kernel
theorem dX11_neighbours_23 : decode cX11_neighbours 23 = .ok (.iconst (-1), 1) := by decide +kernel
theorem dX11_neighbours_24 : decode cX11_neighbours 24 = .ok (.goto 18, 3) := by decide +kernel
theorem dX11_neighbours_27 : decode cX11_neighbours 27 = .ok (.aload_n 0, 1) := by decide +kernel
theorem dX11_neighbours_28 : decode cX11_neighbours 28 = .ok (.iload_n 1, 1) := by decide +kernel
theorem dX11_neighbours_29 : decode cX11_neighbours 29 = .ok (.iload_n 2, 1) := by decide +kernel
theorem dX11_neighbours_30 : decode cX11_neighbours 30 = .ok (.iload_n 3, 1) := by decide +kernel
theorem dX11_neighbours_31 : decode cX11_neighbours 31 = .ok (.invokevirtual 198, 3) := by decide +kernel
theorem dX11_neighbours_34 : decode cX11_neighbours 34 = .ok (.ifCond .eq 7, 3) := by decide +kernel
theorem dX11_neighbours_37 : decode cX11_neighbours 37 = .ok (.iconst 1, 1) := by decide +kernel
theorem dX11_neighbours_38 : decode cX11_neighbours 38 = .ok (.goto 4, 3) := by decide +kernel
theorem dX11_neighbours_41 : decode cX11_neighbours 41 = .ok (.iconst 0, 1) := by decide +kernel
theorem dX11_neighbours_42 : decode cX11_neighbours 42 = .ok (.ireturn, 1) := by decide +kernel
theorem dX11_way_0 : decode cX11_way 0 = .ok (.aload_n 0, 1) := by decide +kernel
theorem dX11_way_1 : decode cX11_way 1 = .ok (.iconst 0, 1) := by decide +kernel
theorem dX11_way_2 : decode cX11_way 2 = .ok (.putfield 3, 3) := by decide +kernel
theorem dX11_way_5 : decode cX11_way 5 = .ok (.aload_n 0, 1) := by decide +kernel
theorem dX11_way_6 : decode cX11_way 6 = .ok (.iload_n 1, 1) := by decide +kernel
theorem dX11_way_7 : decode cX11_way 7 = .ok (.iload_n 2, 1) := by decide +kernel
theorem dX11_way_8 : decode cX11_way 8 = .ok (.invokevirtual 295, 3) := by decide +kernel
theorem dX11_way_11 : decode cX11_way 11 = .ok (.ifCond .eq 30, 3) := by decide +kernel
theorem dX11_way_14 : decode cX11_way 14 = .ok (.aload_n 0, 1) := by decide +kernel
theorem dX11_way_15 : decode cX11_way 15 = .ok (.iload_n 1, 1) := by decide +kernel
theorem dX11_way_16 : decode cX11_way 16 = .ok (.iload_n 3, 1) := by decide +kernel
theorem dX11_way_17 : decode cX11_way 17 = .ok (.invokevirtual 295, 3) := by decide +kernel
theorem dX11_way_20 : decode cX11_way 20 = .ok (.ifCond .eq 21, 3) := by decide +kernel
theorem dX11_way_23 : decode cX11_way 23 = .ok (.aload_n 0, 1) := by decide +kernel
theorem dX11_way_24 : decode cX11_way 24 = .ok (.iload_n 1, 1) := by decide +kernel
theorem dX11_way_25 : decode cX11_way 25 = .ok (.iload_n 2, 1) := by decide +kernel
theorem dX11_way_26 : decode cX11_way 26 = .ok (.invokevirtual 184, 3) := by decide +kernel
theorem dX11_way_29 : decode cX11_way 29 = .ok (.ifCond .eq 12, 3) := by decide +kernel
theorem dX11_way_32 : decode cX11_way 32 = .ok (.aload_n 0, 1) := by decide +kernel
theorem dX11_way_33 : decode cX11_way 33 = .ok (.iload_n 1, 1) := by decide +kernel
theorem dX11_way_34 : decode cX11_way 34 = .ok (.iload_n 3, 1) := by decide +kernel
theorem dX11_way_35 : decode cX11_way 35 = .ok (.invokevirtual 184, 3) := by decide +kernel
theorem dX11_way_38 : decode cX11_way 38 = .ok (.ifCond .ne 5, 3) := by decide +kernel
theorem dX11_way_41 : decode cX11_way 41 = .ok (.iconst (-1), 1) := by decide +kernel
theorem dX11_way_42 : decode cX11_way 42 = .ok (.ireturn, 1) := by decide +kernel
theorem dX11_way_43 : decode cX11_way 43 = .ok (.aload_n 0, 1) := by decide +kernel
theorem dX11_way_44 : decode cX11_way 44 = .ok (.iload_n 1, 1) := by decide +kernel
theorem dX11_way_45 : decode cX11_way 45 = .ok (.iload_n 2, 1) := by decide +kernel
theorem dX11_way_46 : decode cX11_way 46 = .ok (.invokevirtual 202, 3) := by decide +kernel
theorem dX11_way_49 : decode cX11_way 49 = .ok (.aload_n 0, 1) := by decide +kernel
theorem dX11_way_50 : decode cX11_way 50 = .ok (.getfield 63, 3) := by decide +kernel
theorem dX11_way_53 : decode cX11_way 53 = .ok (.iload_n 3, 1) := by decide +kernel
theorem dX11_way_54 : decode cX11_way 54 = .ok (.iaload, 1) := by decide +kernel
theorem dX11_way_55 : decode cX11_way 55 = .ok (.ireturn, 1) := by decide +kernel
theorem dX11_goal_0 : decode cX11_goal 0 = .ok (.aload_n 0, 1) := by decide +kernel
theorem dX11_goal_1 : decode cX11_goal 1 = .ok (.iconst 0, 1) := by decide +kernel
theorem dX11_goal_2 : decode cX11_goal 2 = .ok (.putfield 3, 3) := by decide +kernel
theorem dX11_goal_5 : decode cX11_goal 5 = .ok (.aload_n 0, 1) := by decide +kernel
theorem dX11_goal_6 : decode cX11_goal 6 = .ok (.iload_n 1, 1) := by decide +kernel
theorem dX11_goal_7 : decode cX11_goal 7 = .ok (.invokevirtual 284, 3) := by decide +kernel
theorem dX11_goal_10 : decode cX11_goal 10 = .ok (.ifCond .eq 25, 3) := by decide +kernel
theorem dX11_goal_13 : decode cX11_goal 13 = .ok (.iload_n 2, 1) := by decide +kernel
theorem dX11_goal_14 : decode cX11_goal 14 = .ok (.invokestatic 287, 3) := by decide +kernel
theorem dX11_goal_17 : decode cX11_goal 17 = .ok (.ifCond .eq 18, 3) := by decide +kernel
theorem dX11_goal_20 : decode cX11_goal 20 = .ok (.iload_n 3, 1) := by decide +kernel
theorem dX11_goal_21 : decode cX11_goal 21 = .ok (.invokestatic 287, 3) := by decide +kernel
theorem dX11_goal_24 : decode cX11_goal 24 = .ok (.ifCond .eq 11, 3) := by decide +kernel
theorem dX11_goal_27 : decode cX11_goal 27 = .ok (.aload_n 0, 1) := by decide +kernel
theorem dX11_goal_28 : decode cX11_goal 28 = .ok (.iload_n 1, 1) := by decide +kernel
theorem dX11_goal_29 : decode cX11_goal 29 = .ok (.invokevirtual 220, 3) := by decide +kernel
theorem dX11_goal_32 : decode cX11_goal 32 = .ok (.ifCond .ge 5, 3) := by decide +kernel
theorem dX11_goal_35 : decode cX11_goal 35 = .ok (.iconst (-1), 1) := by decide +kernel
theorem dX11_goal_36 : decode cX11_goal 36 = .ok (.ireturn, 1) := by decide +kernel
theorem dX11_goal_37 : decode cX11_goal 37 = .ok (.aload_n 0, 1) := by decide +kernel
theorem dX11_goal_38 : decode cX11_goal 38 = .ok (.aload_n 0, 1) := by decide +kernel
theorem dX11_goal_39 : decode cX11_goal 39 = .ok (.iload_n 1, 1) := by decide +kernel
theorem dX11_goal_40 : decode cX11_goal 40 = .ok (.iconst 0, 1) := by decide +kernel
theorem dX11_goal_41 : decode cX11_goal 41 = .ok (.invokevirtual 192, 3) := by decide +kernel
theorem dX11_goal_44 : decode cX11_goal 44 = .ok (.aload_n 0, 1) := by decide +kernel
theorem dX11_goal_45 : decode cX11_goal 45 = .ok (.iload_n 1, 1) := by decide +kernel
theorem dX11_goal_46 : decode cX11_goal 46 = .ok (.invokevirtual 220, 3) := by decide +kernel
theorem dX11_goal_49 : decode cX11_goal 49 = .ok (.iload_n 2, 1) := by decide +kernel
theorem dX11_goal_50 : decode cX11_goal 50 = .ok (.iload_n 3, 1) := by decide +kernel
theorem dX11_goal_51 : decode cX11_goal 51 = .ok (.invokevirtual 226, 3) := by decide +kernel
theorem dX11_goal_54 : decode cX11_goal 54 = .ok (.sipush 256, 3) := by decide +kernel
theorem dX11_goal_57 : decode cX11_goal 57 = .ok (.aload_n 0, 1) := by decide +kernel
theorem dX11_goal_58 : decode cX11_goal 58 = .ok (.getfield 214, 3) := by decide +kernel
theorem dX11_goal_61 : decode cX11_goal 61 = .ok (.imul, 1) := by decide +kernel
theorem dX11_goal_62 : decode cX11_goal 62 = .ok (.aload_n 0, 1) := by decide +kernel
theorem dX11_goal_63 : decode cX11_goal 63 = .ok (.getfield 217, 3) := by decide +kernel
theorem dX11_goal_66 : decode cX11_goal 66 = .ok (.iadd, 1) := by decide +kernel
theorem dX11_goal_67 : decode cX11_goal 67 = .ok (.ireturn, 1) := by decide +kernel
theorem dX11_note_0 : decode cX11_note 0 = .ok (.aload_n 0, 1) := by decide +kernel
theorem dX11_note_1 : decode cX11_note 1 = .ok (.iconst 0, 1) := by decide +kernel
theorem dX11_note_2 : decode cX11_note 2 = .ok (.putfield 3, 3) := by decide +kernel
theorem dX11_note_5 : decode cX11_note 5 = .ok (.iload_n 1, 1) := by decide +kernel
theorem dX11_note_6 : decode cX11_note 6 = .ok (.i2l, 1) := by decide +kernel
theorem dX11_note_7 : decode cX11_note 7 = .ok (.lconst 0, 1) := by decide +kernel
theorem dX11_note_8 : decode cX11_note 8 = .ok (.aload_n 0, 1) := by decide +kernel
theorem dX11_note_9 : decode cX11_note 9 = .ok (.getfield 57, 3) := by decide +kernel
theorem dX11_note_12 : decode cX11_note 12 = .ok (.iconst 2, 1) := by decide +kernel
theorem dX11_note_13 : decode cX11_note 13 = .ok (.iaload, 1) := by decide +kernel
theorem dX11_note_14 : decode cX11_note 14 = .ok (.bipush 64, 2) := by decide +kernel
theorem dX11_note_16 : decode cX11_note 16 = .ok (.invokestatic 177, 3) := by decide +kernel
theorem dX11_note_19 : decode cX11_note 19 = .ok (.iconst 1, 1) := by decide +kernel
theorem dX11_note_20 : decode cX11_note 20 = .ok (.isub, 1) := by decide +kernel
theorem dX11_note_21 : decode cX11_note 21 = .ok (.i2l, 1) := by decide +kernel
theorem dX11_note_22 : decode cX11_note 22 = .ok (.invokestatic 72, 3) := by decide +kernel
theorem dX11_note_25 : decode cX11_note 25 = .ok (.ifCond .eq 28, 3) := by decide +kernel
theorem dX11_note_28 : decode cX11_note 28 = .ok (.aload_n 0, 1) := by decide +kernel
theorem dX11_note_29 : decode cX11_note 29 = .ok (.getfield 57, 3) := by decide +kernel
theorem dX11_note_32 : decode cX11_note 32 = .ok (.sipush 168, 3) := by decide +kernel
theorem dX11_note_35 : decode cX11_note 35 = .ok (.aload_n 0, 1) := by decide +kernel
theorem dX11_note_36 : decode cX11_note 36 = .ok (.getfield 57, 3) := by decide +kernel
theorem dX11_note_39 : decode cX11_note 39 = .ok (.iconst 2, 1) := by decide +kernel
theorem dX11_note_40 : decode cX11_note 40 = .ok (.iaload, 1) := by decide +kernel
theorem dX11_note_41 : decode cX11_note 41 = .ok (.iconst 1, 1) := by decide +kernel
theorem dX11_note_42 : decode cX11_note 42 = .ok (.isub, 1) := by decide +kernel
theorem dX11_note_43 : decode cX11_note 43 = .ok (.iload_n 1, 1) := by decide +kernel
theorem dX11_note_44 : decode cX11_note 44 = .ok (.isub, 1) := by decide +kernel
theorem dX11_note_45 : decode cX11_note 45 = .ok (.bipush 64, 2) := by decide +kernel
theorem dX11_note_47 : decode cX11_note 47 = .ok (.irem, 1) := by decide +kernel
theorem dX11_note_48 : decode cX11_note 48 = .ok (.iadd, 1) := by decide +kernel
theorem dX11_note_49 : decode cX11_note 49 = .ok (.iaload, 1) := by decide +kernel
theorem dX11_note_50 : decode cX11_note 50 = .ok (.goto 7, 3) := by decide +kernel
theorem dX11_note_53 : decode cX11_note 53 = .ok (.aload_n 0, 1) := by decide +kernel
theorem dX11_note_54 : decode cX11_note 54 = .ok (.invokevirtual 135, 3) := by decide +kernel
theorem dX11_note_57 : decode cX11_note 57 = .ok (.ireturn, 1) := by decide +kernel
theorem dX11_sentence_0 : decode cX11_sentence 0 = .ok (.aload_n 0, 1) := by decide +kernel
theorem dX11_sentence_1 : decode cX11_sentence 1 = .ok (.iconst 0, 1) := by decide +kernel
theorem dX11_sentence_2 : decode cX11_sentence 2 = .ok (.putfield 3, 3) := by decide +kernel
theorem dX11_sentence_5 : decode cX11_sentence 5 = .ok (.iload_n 1, 1) := by decide +kernel
theorem dX11_sentence_6 : decode cX11_sentence 6 = .ok (.i2l, 1) := by decide +kernel
theorem dX11_sentence_7 : decode cX11_sentence 7 = .ok (.lconst 0, 1) := by decide +kernel
theorem dX11_sentence_8 : decode cX11_sentence 8 = .ok (.aload_n 0, 1) := by decide +kernel
theorem dX11_sentence_9 : decode cX11_sentence 9 = .ok (.getfield 57, 3) := by decide +kernel
theorem dX11_sentence_12 : decode cX11_sentence 12 = .ok (.iconst 5, 1) := by decide +kernel
theorem dX11_sentence_13 : decode cX11_sentence 13 = .ok (.iaload, 1) := by decide +kernel
theorem dX11_sentence_14 : decode cX11_sentence 14 = .ok (.iconst 1, 1) := by decide +kernel
theorem dX11_sentence_15 : decode cX11_sentence 15 = .ok (.isub, 1) := by decide +kernel
theorem dX11_sentence_16 : decode cX11_sentence 16 = .ok (.i2l, 1) := by decide +kernel
theorem dX11_sentence_17 : decode cX11_sentence 17 = .ok (.invokestatic 72, 3) := by decide +kernel
theorem dX11_sentence_20 : decode cX11_sentence 20 = .ok (.ifCond .eq 32, 3) := by decide +kernel
theorem dX11_sentence_23 : decode cX11_sentence 23 = .ok (.iload_n 2, 1) := by decide +kernel
theorem dX11_sentence_24 : decode cX11_sentence 24 = .ok (.i2l, 1) := by decide +kernel
theorem dX11_sentence_25 : decode cX11_sentence 25 = .ok (.lconst 0, 1) := by decide +kernel
theorem dX11_sentence_26 : decode cX11_sentence 26 = .ok (.ldc2_w 255, 3) := by decide +kernel
theorem dX11_sentence_29 : decode cX11_sentence 29 = .ok (.invokestatic 72, 3) := by decide +kernel
theorem dX11_sentence_32 : decode cX11_sentence 32 = .ok (.ifCond .eq 20, 3) := by decide +kernel
theorem dX11_sentence_35 : decode cX11_sentence 35 = .ok (.aload_n 0, 1) := by decide +kernel
theorem dX11_sentence_36 : decode cX11_sentence 36 = .ok (.getfield 57, 3) := by decide +kernel
theorem dX11_sentence_39 : decode cX11_sentence 39 = .ok (.sipush 150, 3) := by decide +kernel
theorem dX11_sentence_42 : decode cX11_sentence 42 = .ok (.iconst 3, 1) := by decide +kernel
theorem dX11_sentence_43 : decode cX11_sentence 43 = .ok (.iload_n 1, 1) := by decide +kernel
theorem dX11_sentence_44 : decode cX11_sentence 44 = .ok (.imul, 1) := by decide +kernel
theorem dX11_sentence_45 : decode cX11_sentence 45 = .ok (.iadd, 1) := by decide +kernel
theorem dX11_sentence_46 : decode cX11_sentence 46 = .ok (.iload_n 2, 1) := by decide +kernel
theorem dX11_sentence_47 : decode cX11_sentence 47 = .ok (.iadd, 1) := by decide +kernel
theorem dX11_sentence_48 : decode cX11_sentence 48 = .ok (.iaload, 1) := by decide +kernel
theorem dX11_sentence_49 : decode cX11_sentence 49 = .ok (.goto 7, 3) := by decide +kernel
theorem dX11_sentence_52 : decode cX11_sentence 52 = .ok (.aload_n 0, 1) := by decide +kernel
theorem dX11_sentence_53 : decode cX11_sentence 53 = .ok (.invokevirtual 135, 3) := by decide +kernel
theorem dX11_sentence_56 : decode cX11_sentence 56 = .ok (.ireturn, 1) := by decide +kernel
theorem dX11_count_0 : decode cX11_count 0 = .ok (.aload_n 0, 1) := by decide +kernel
theorem dX11_count_1 : decode cX11_count 1 = .ok (.iconst 0, 1) := by decide +kernel
theorem dX11_count_2 : decode cX11_count 2 = .ok (.putfield 3, 3) := by decide +kernel
theorem dX11_count_5 : decode cX11_count 5 = .ok (.iconst 0, 1) := by decide +kernel
theorem dX11_count_6 : decode cX11_count 6 = .ok (.istore_n 2, 1) := by decide +kernel
theorem dX11_count_7 : decode cX11_count 7 = .ok (.iconst 0, 1) := by decide +kernel
theorem dX11_count_8 : decode cX11_count 8 = .ok (.istore_n 3, 1) := by decide +kernel
theorem dX11_count_9 : decode cX11_count 9 = .ok (.iload_n 3, 1) := by decide +kernel
theorem dX11_count_10 : decode cX11_count 10 = .ok (.bipush 8, 2) := by decide +kernel
theorem dX11_count_12 : decode cX11_count 12 = .ok (.if_icmp .ge 26, 3) := by decide +kernel
theorem dX11_count_15 : decode cX11_count 15 = .ok (.iload_n 2, 1) := by decide +kernel
theorem dX11_count_16 : decode cX11_count 16 = .ok (.aload_n 0, 1) := by decide +kernel
theorem dX11_count_17 : decode cX11_count 17 = .ok (.iload_n 3, 1) := by decide +kernel
theorem dX11_count_18 : decode cX11_count 18 = .ok (.iconst 0, 1) := by decide +kernel
theorem dX11_count_19 : decode cX11_count 19 = .ok (.invokevirtual 158, 3) := by decide +kernel
theorem dX11_count_22 : decode cX11_count 22 = .ok (.ifCond .eq 7, 3) := by decide +kernel
theorem dX11_count_25 : decode cX11_count 25 = .ok (.iconst 1, 1) := by decide +kernel
theorem dX11_count_26 : decode cX11_count 26 = .ok (.goto 4, 3) := by decide +kernel
theorem dX11_count_29 : decode cX11_count 29 = .ok (.iconst 0, 1) := by decide +kernel
theorem dX11_count_30 : decode cX11_count 30 = .ok (.iadd, 1) := by decide +kernel
theorem dX11_count_31 : decode cX11_count 31 = .ok (.istore_n 2, 1) := by decide +kernel
theorem dX11_count_32 : decode cX11_count 32 = .ok (.iinc 3 1, 3) := by decide +kernel
theorem dX11_count_35 : decode cX11_count 35 = .ok (.goto (-26), 3) := by decide +kernel
theorem dX11_count_38 : decode cX11_count 38 = .ok (.iload_n 1, 1) := by decide +kernel
theorem dX11_count_39 : decode cX11_count 39 = .ok (.tableswitch 130 0 11 #[61, 68, 70, 77, 84, 91, 98, 105, 110, 115, 120, 125], 61) := by decide +kernel
theorem dX11_count_100 : decode cX11_count 100 = .ok (.aload_n 0, 1) := by decide +kernel
theorem dX11_count_101 : decode cX11_count 101 = .ok (.getfield 57, 3) := by decide +kernel
theorem dX11_count_104 : decode cX11_count 104 = .ok (.iconst 0, 1) := by decide +kernel
theorem dX11_count_105 : decode cX11_count 105 = .ok (.iaload, 1) := by decide +kernel
theorem dX11_count_106 : decode cX11_count 106 = .ok (.ireturn, 1) := by decide +kernel
theorem dX11_count_107 : decode cX11_count 107 = .ok (.iload_n 2, 1) := by decide +kernel
theorem dX11_count_108 : decode cX11_count 108 = .ok (.ireturn, 1) := by decide +kernel
theorem dX11_count_109 : decode cX11_count 109 = .ok (.aload_n 0, 1) := by decide +kernel
theorem dX11_count_110 : decode cX11_count 110 = .ok (.getfield 57, 3) := by decide +kernel
theorem dX11_count_113 : decode cX11_count 113 = .ok (.iconst 5, 1) := by decide +kernel
theorem dX11_count_114 : decode cX11_count 114 = .ok (.iaload, 1) := by decide +kernel
theorem dX11_count_115 : decode cX11_count 115 = .ok (.ireturn, 1) := by decide +kernel
theorem dX11_count_116 : decode cX11_count 116 = .ok (.aload_n 0, 1) := by decide +kernel
theorem dX11_count_117 : decode cX11_count 117 = .ok (.getfield 57, 3) := by decide +kernel
theorem dX11_count_120 : decode cX11_count 120 = .ok (.iconst 2, 1) := by decide +kernel
theorem dX11_count_121 : decode cX11_count 121 = .ok (.iaload, 1) := by decide +kernel
theorem dX11_count_122 : decode cX11_count 122 = .ok (.ireturn, 1) := by decide +kernel
theorem dX11_count_123 : decode cX11_count 123 = .ok (.aload_n 0, 1) := by decide +kernel
theorem dX11_count_124 : decode cX11_count 124 = .ok (.getfield 57, 3) := by decide +kernel
theorem dX11_count_127 : decode cX11_count 127 = .ok (.iconst 3, 1) := by decide +kernel
theorem dX11_count_128 : decode cX11_count 128 = .ok (.iaload, 1) := by decide +kernel
theorem dX11_count_129 : decode cX11_count 129 = .ok (.ireturn, 1) := by decide +kernel
theorem dX11_count_130 : decode cX11_count 130 = .ok (.aload_n 0, 1) := by decide +kernel
theorem dX11_count_131 : decode cX11_count 131 = .ok (.getfield 57, 3) := by decide +kernel
theorem dX11_count_134 : decode cX11_count 134 = .ok (.iconst 4, 1) := by decide +kernel
theorem dX11_count_135 : decode cX11_count 135 = .ok (.iaload, 1) := by decide +kernel
theorem dX11_count_136 : decode cX11_count 136 = .ok (.ireturn, 1) := by decide +kernel
theorem dX11_count_137 : decode cX11_count 137 = .ok (.aload_n 0, 1) := by decide +kernel
theorem dX11_count_138 : decode cX11_count 138 = .ok (.getfield 57, 3) := by decide +kernel
theorem dX11_count_141 : decode cX11_count 141 = .ok (.iconst 1, 1) := by decide +kernel
theorem dX11_count_142 : decode cX11_count 142 = .ok (.iaload, 1) := by decide +kernel
theorem dX11_count_143 : decode cX11_count 143 = .ok (.ireturn, 1) := by decide +kernel
theorem dX11_count_144 : decode cX11_count 144 = .ok (.aload_n 0, 1) := by decide +kernel
theorem dX11_count_145 : decode cX11_count 145 = .ok (.getfield 109, 3) := by decide +kernel
theorem dX11_count_148 : decode cX11_count 148 = .ok (.ireturn, 1) := by decide +kernel
theorem dX11_count_149 : decode cX11_count 149 = .ok (.aload_n 0, 1) := by decide +kernel
theorem dX11_count_150 : decode cX11_count 150 = .ok (.getfield 112, 3) := by decide +kernel
theorem dX11_count_153 : decode cX11_count 153 = .ok (.ireturn, 1) := by decide +kernel
theorem dX11_count_154 : decode cX11_count 154 = .ok (.aload_n 0, 1) := by decide +kernel
theorem dX11_count_155 : decode cX11_count 155 = .ok (.getfield 115, 3) := by decide +kernel
theorem dX11_count_158 : decode cX11_count 158 = .ok (.ireturn, 1) := by decide +kernel
theorem dX11_count_159 : decode cX11_count 159 = .ok (.aload_n 0, 1) := by decide +kernel
theorem dX11_count_160 : decode cX11_count 160 = .ok (.getfield 118, 3) := by decide +kernel
theorem dX11_count_163 : decode cX11_count 163 = .ok (.ireturn, 1) := by decide +kernel
theorem dX11_count_164 : decode cX11_count 164 = .ok (.aload_n 0, 1) := by decide +kernel
theorem dX11_count_165 : decode cX11_count 165 = .ok (.getfield 69, 3) := by decide +kernel
theorem dX11_count_168 : decode cX11_count 168 = .ok (.ireturn, 1) := by decide +kernel
theorem dX11_count_169 : decode cX11_count 169 = .ok (.iconst (-1), 1) := by decide +kernel
theorem dX11_count_170 : decode cX11_count 170 = .ok (.ireturn, 1) := by decide +kernel
theorem dX11_keep_0 : decode cX11_keep 0 = .ok (.aload_n 0, 1) := by decide +kernel
theorem dX11_keep_1 : decode cX11_keep 1 = .ok (.iconst 0, 1) := by decide +kernel
theorem dX11_keep_2 : decode cX11_keep 2 = .ok (.putfield 3, 3) := by decide +kernel
theorem dX11_keep_5 : decode cX11_keep 5 = .ok (.iconst 0, 1) := by decide +kernel
theorem dX11_keep_6 : decode cX11_keep 6 = .ok (.istore_n 1, 1) := by decide +kernel
theorem dX11_keep_7 : decode cX11_keep 7 = .ok (.iload_n 1, 1) := by decide +kernel
theorem dX11_keep_8 : decode cX11_keep 8 = .ok (.sipush 781, 3) := by decide +kernel
theorem dX11_keep_11 : decode cX11_keep 11 = .ok (.if_icmp .ge 21, 3) := by decide +kernel
theorem dX11_keep_14 : decode cX11_keep 14 = .ok (.aload_n 0, 1) := by decide +kernel
theorem dX11_keep_15 : decode cX11_keep 15 = .ok (.getfield 60, 3) := by decide +kernel
theorem dX11_keep_18 : decode cX11_keep 18 = .ok (.iload_n 1, 1) := by decide +kernel
theorem dX11_keep_19 : decode cX11_keep 19 = .ok (.aload_n 0, 1) := by decide +kernel
theorem dX11_keep_20 : decode cX11_keep 20 = .ok (.getfield 57, 3) := by decide +kernel
theorem dX11_keep_23 : decode cX11_keep 23 = .ok (.iload_n 1, 1) := by decide +kernel
theorem dX11_keep_24 : decode cX11_keep 24 = .ok (.iaload, 1) := by decide +kernel
theorem dX11_keep_25 : decode cX11_keep 25 = .ok (.iastore, 1) := by decide +kernel
theorem dX11_keep_26 : decode cX11_keep 26 = .ok (.iinc 1 1, 3) := by decide +kernel
theorem dX11_keep_29 : decode cX11_keep 29 = .ok (.goto (-22), 3) := by decide +kernel
theorem dX11_keep_32 : decode cX11_keep 32 = .ok (.aload_n 0, 1) := by decide +kernel
theorem dX11_keep_33 : decode cX11_keep 33 = .ok (.iconst 1, 1) := by decide +kernel
theorem dX11_keep_34 : decode cX11_keep 34 = .ok (.putfield 121, 3) := by decide +kernel
theorem dX11_keep_37 : decode cX11_keep 37 = .ok (.iconst 1, 1) := by decide +kernel
theorem dX11_keep_38 : decode cX11_keep 38 = .ok (.ireturn, 1) := by decide +kernel
theorem dX11_back_0 : decode cX11_back 0 = .ok (.aload_n 0, 1) := by decide +kernel
theorem dX11_back_1 : decode cX11_back 1 = .ok (.iconst 0, 1) := by decide +kernel
theorem dX11_back_2 : decode cX11_back 2 = .ok (.putfield 3, 3) := by decide +kernel
theorem dX11_back_5 : decode cX11_back 5 = .ok (.iconst 0, 1) := by decide +kernel
theorem dX11_back_6 : decode cX11_back 6 = .ok (.istore_n 1, 1) := by decide +kernel
theorem dX11_back_7 : decode cX11_back 7 = .ok (.iload_n 1, 1) := by decide +kernel
theorem dX11_back_8 : decode cX11_back 8 = .ok (.sipush 781, 3) := by decide +kernel
theorem dX11_back_11 : decode cX11_back 11 = .ok (.if_icmp .ge 28, 3) := by decide +kernel
theorem dX11_back_14 : decode cX11_back 14 = .ok (.aload_n 0, 1) := by decide +kernel
theorem dX11_back_15 : decode cX11_back 15 = .ok (.getfield 121, 3) := by decide +kernel
theorem dX11_back_18 : decode cX11_back 18 = .ok (.ifCond .eq 21, 3) := by decide +kernel
theorem dX11_back_21 : decode cX11_back 21 = .ok (.aload_n 0, 1) := by decide +kernel
theorem dX11_back_22 : decode cX11_back 22 = .ok (.getfield 57, 3) := by decide +kernel
theorem dX11_back_25 : decode cX11_back 25 = .ok (.iload_n 1, 1) := by decide +kernel
theorem dX11_back_26 : decode cX11_back 26 = .ok (.aload_n 0, 1) := by decide +kernel
theorem dX11_back_27 : decode cX11_back 27 = .ok (.getfield 60, 3) := by decide +kernel
theorem dX11_back_30 : decode cX11_back 30 = .ok (.iload_n 1, 1) := by decide +kernel
theorem dX11_back_31 : decode cX11_back 31 = .ok (.iaload, 1) := by decide +kernel
theorem dX11_back_32 : decode cX11_back 32 = .ok (.iastore, 1) := by decide +kernel
theorem dX11_back_33 : decode cX11_back 33 = .ok (.iinc 1 1, 3) := by decide +kernel
theorem dX11_back_36 : decode cX11_back 36 = .ok (.goto (-29), 3) := by decide +kernel
theorem dX11_back_39 : decode cX11_back 39 = .ok (.aload_n 0, 1) := by decide +kernel
theorem dX11_back_40 : decode cX11_back 40 = .ok (.getfield 121, 3) := by decide +kernel
theorem dX11_back_43 : decode cX11_back 43 = .ok (.ireturn, 1) := by decide +kernel
