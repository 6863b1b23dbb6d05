theorem dX11_thrown_0 : decode cX11_thrown 0 = .ok (.aload_n 0, 1) := by decide +kernel
theorem dX11_thrown_1 : decode cX11_thrown 1 = .ok (.getfield 3, 3) := by decide +kernel
theorem dX11_thrown_4 : decode cX11_thrown 4 = .ok (.ireturn, 1) := by decide +kernel
theorem dX11_in_0 : decode cX11_in 0 = .ok (.lload_n 0, 1) := by decide +kernel
theorem dX11_in_1 : decode cX11_in 1 = .ok (.lload_n 2, 1) := by decide +kernel
theorem dX11_in_2 : decode cX11_in 2 = .ok (.lcmp, 1) := by decide +kernel
theorem dX11_in_3 : decode cX11_in 3 = .ok (.ifCond .lt 14, 3) := by decide +kernel
theorem dX11_in_6 : decode cX11_in 6 = .ok (.lload_n 0, 1) := by decide +kernel
theorem dX11_in_7 : decode cX11_in 7 = .ok (.lload 4, 2) := by decide +kernel
theorem dX11_in_9 : decode cX11_in 9 = .ok (.lcmp, 1) := by decide +kernel
theorem dX11_in_10 : decode cX11_in 10 = .ok (.ifCond .gt 7, 3) := by decide +kernel
theorem dX11_in_13 : decode cX11_in 13 = .ok (.iconst 1, 1) := by decide +kernel
theorem dX11_in_14 : decode cX11_in 14 = .ok (.goto 4, 3) := by decide +kernel
theorem dX11_in_17 : decode cX11_in 17 = .ok (.iconst 0, 1) := by decide +kernel
theorem dX11_in_18 : decode cX11_in 18 = .ok (.ireturn, 1) := by decide +kernel
theorem dX11_refuse_0 : decode cX11_refuse 0 = .ok (.aload_n 0, 1) := by decide +kernel
theorem dX11_refuse_1 : decode cX11_refuse 1 = .ok (.iconst 1, 1) := by decide +kernel
theorem dX11_refuse_2 : decode cX11_refuse 2 = .ok (.putfield 3, 3) := by decide +kernel
theorem dX11_refuse_5 : decode cX11_refuse 5 = .ok (.iconst 0, 1) := by decide +kernel
theorem dX11_refuse_6 : decode cX11_refuse 6 = .ok (.ireturn, 1) := by decide +kernel
theorem dX11_init_0 : decode cX11_init 0 = .ok (.aload_n 0, 1) := by decide +kernel
theorem dX11_init_1 : decode cX11_init 1 = .ok (.invokespecial 7, 3) := by decide +kernel
theorem dX11_init_4 : decode cX11_init 4 = .ok (.aload_n 0, 1) := by decide +kernel
theorem dX11_init_5 : decode cX11_init 5 = .ok (.sipush 6000, 3) := by decide +kernel
theorem dX11_init_8 : decode cX11_init 8 = .ok (.newarray .int, 2) := by decide +kernel
theorem dX11_init_10 : decode cX11_init 10 = .ok (.putfield 13, 3) := by decide +kernel
theorem dX11_init_13 : decode cX11_init 13 = .ok (.aload_n 0, 1) := by decide +kernel
theorem dX11_init_14 : decode cX11_init 14 = .ok (.sipush 6000, 3) := by decide +kernel
theorem dX11_init_17 : decode cX11_init 17 = .ok (.newarray .int, 2) := by decide +kernel
theorem dX11_init_19 : decode cX11_init 19 = .ok (.putfield 17, 3) := by decide +kernel
theorem dX11_init_22 : decode cX11_init 22 = .ok (.aload_n 0, 1) := by decide +kernel
theorem dX11_init_23 : decode cX11_init 23 = .ok (.bipush 21, 2) := by decide +kernel
theorem dX11_init_25 : decode cX11_init 25 = .ok (.newarray .boolean, 2) := by decide +kernel
theorem dX11_init_27 : decode cX11_init 27 = .ok (.putfield 20, 3) := by decide +kernel
theorem dX11_init_30 : decode cX11_init 30 = .ok (.aload_n 0, 1) := by decide +kernel
theorem dX11_init_31 : decode cX11_init 31 = .ok (.bipush 21, 2) := by decide +kernel
theorem dX11_init_33 : decode cX11_init 33 = .ok (.newarray .int, 2) := by decide +kernel
theorem dX11_init_35 : decode cX11_init 35 = .ok (.putfield 24, 3) := by decide +kernel
theorem dX11_init_38 : decode cX11_init 38 = .ok (.aload_n 0, 1) := by decide +kernel
theorem dX11_init_39 : decode cX11_init 39 = .ok (.sipush 1344, 3) := by decide +kernel
theorem dX11_init_42 : decode cX11_init 42 = .ok (.newarray .int, 2) := by decide +kernel
theorem dX11_init_44 : decode cX11_init 44 = .ok (.putfield 27, 3) := by decide +kernel
theorem dX11_init_47 : decode cX11_init 47 = .ok (.aload_n 0, 1) := by decide +kernel
theorem dX11_init_48 : decode cX11_init 48 = .ok (.bipush 61, 2) := by decide +kernel
theorem dX11_init_50 : decode cX11_init 50 = .ok (.newarray .int, 2) := by decide +kernel
theorem dX11_init_52 : decode cX11_init 52 = .ok (.putfield 30, 3) := by decide +kernel
theorem dX11_init_55 : decode cX11_init 55 = .ok (.aload_n 0, 1) := by decide +kernel
theorem dX11_init_56 : decode cX11_init 56 = .ok (.bipush 61, 2) := by decide +kernel
theorem dX11_init_58 : decode cX11_init 58 = .ok (.newarray .int, 2) := by decide +kernel
theorem dX11_init_60 : decode cX11_init 60 = .ok (.putfield 33, 3) := by decide +kernel
theorem dX11_init_63 : decode cX11_init 63 = .ok (.aload_n 0, 1) := by decide +kernel
theorem dX11_init_64 : decode cX11_init 64 = .ok (.bipush 61, 2) := by decide +kernel
theorem dX11_init_66 : decode cX11_init 66 = .ok (.newarray .boolean, 2) := by decide +kernel
theorem dX11_init_68 : decode cX11_init 68 = .ok (.putfield 36, 3) := by decide +kernel
theorem dX11_init_71 : decode cX11_init 71 = .ok (.aload_n 0, 1) := by decide +kernel
theorem dX11_init_72 : decode cX11_init 72 = .ok (.sipush 183, 3) := by decide +kernel
theorem dX11_init_75 : decode cX11_init 75 = .ok (.newarray .int, 2) := by decide +kernel
theorem dX11_init_77 : decode cX11_init 77 = .ok (.putfield 39, 3) := by decide +kernel
theorem dX11_init_80 : decode cX11_init 80 = .ok (.aload_n 0, 1) := by decide +kernel
theorem dX11_init_81 : decode cX11_init 81 = .ok (.bipush 61, 2) := by decide +kernel
theorem dX11_init_83 : decode cX11_init 83 = .ok (.newarray .int, 2) := by decide +kernel
theorem dX11_init_85 : decode cX11_init 85 = .ok (.putfield 42, 3) := by decide +kernel
theorem dX11_init_88 : decode cX11_init 88 = .ok (.aload_n 0, 1) := by decide +kernel
theorem dX11_init_89 : decode cX11_init 89 = .ok (.bipush 61, 2) := by decide +kernel
theorem dX11_init_91 : decode cX11_init 91 = .ok (.newarray .int, 2) := by decide +kernel
theorem dX11_init_93 : decode cX11_init 93 = .ok (.putfield 45, 3) := by decide +kernel
theorem dX11_init_96 : decode cX11_init 96 = .ok (.aload_n 0, 1) := by decide +kernel
theorem dX11_init_97 : decode cX11_init 97 = .ok (.bipush 13, 2) := by decide +kernel
theorem dX11_init_99 : decode cX11_init 99 = .ok (.newarray .boolean, 2) := by decide +kernel
theorem dX11_init_101 : decode cX11_init 101 = .ok (.putfield 48, 3) := by decide +kernel
theorem dX11_init_104 : decode cX11_init 104 = .ok (.aload_n 0, 1) := by decide +kernel
theorem dX11_init_105 : decode cX11_init 105 = .ok (.sipush 256, 3) := by decide +kernel
theorem dX11_init_108 : decode cX11_init 108 = .ok (.newarray .boolean, 2) := by decide +kernel
theorem dX11_init_110 : decode cX11_init 110 = .ok (.putfield 51, 3) := by decide +kernel
theorem dX11_init_113 : decode cX11_init 113 = .ok (.aload_n 0, 1) := by decide +kernel
theorem dX11_init_114 : decode cX11_init 114 = .ok (.sipush 256, 3) := by decide +kernel
theorem dX11_init_117 : decode cX11_init 117 = .ok (.newarray .boolean, 2) := by decide +kernel
theorem dX11_init_119 : decode cX11_init 119 = .ok (.putfield 54, 3) := by decide +kernel
theorem dX11_init_122 : decode cX11_init 122 = .ok (.aload_n 0, 1) := by decide +kernel
theorem dX11_init_123 : decode cX11_init 123 = .ok (.sipush 781, 3) := by decide +kernel
theorem dX11_init_126 : decode cX11_init 126 = .ok (.newarray .int, 2) := by decide +kernel
theorem dX11_init_128 : decode cX11_init 128 = .ok (.putfield 57, 3) := by decide +kernel
theorem dX11_init_131 : decode cX11_init 131 = .ok (.aload_n 0, 1) := by decide +kernel
theorem dX11_init_132 : decode cX11_init 132 = .ok (.sipush 781, 3) := by decide +kernel
theorem dX11_init_135 : decode cX11_init 135 = .ok (.newarray .int, 2) := by decide +kernel
theorem dX11_init_137 : decode cX11_init 137 = .ok (.putfield 60, 3) := by decide +kernel
theorem dX11_init_140 : decode cX11_init 140 = .ok (.aload_n 0, 1) := by decide +kernel
theorem dX11_init_141 : decode cX11_init 141 = .ok (.bipush 16, 2) := by decide +kernel
theorem dX11_init_143 : decode cX11_init 143 = .ok (.newarray .int, 2) := by decide +kernel
theorem dX11_init_145 : decode cX11_init 145 = .ok (.putfield 63, 3) := by decide +kernel
theorem dX11_init_148 : decode cX11_init 148 = .ok (.aload_n 0, 1) := by decide +kernel
theorem dX11_init_149 : decode cX11_init 149 = .ok (.iconst 4, 1) := by decide +kernel
theorem dX11_init_150 : decode cX11_init 150 = .ok (.newarray .int, 2) := by decide +kernel
theorem dX11_init_152 : decode cX11_init 152 = .ok (.putfield 66, 3) := by decide +kernel
theorem dX11_init_155 : decode cX11_init 155 = .ok (.aload_n 0, 1) := by decide +kernel
theorem dX11_init_156 : decode cX11_init 156 = .ok (.getfield 57, 3) := by decide +kernel
theorem dX11_init_159 : decode cX11_init 159 = .ok (.iconst 1, 1) := by decide +kernel
theorem dX11_init_160 : decode cX11_init 160 = .ok (.iconst 1, 1) := by decide +kernel
theorem dX11_init_161 : decode cX11_init 161 = .ok (.iastore, 1) := by decide +kernel
theorem dX11_init_162 : decode cX11_init 162 = .ok (.return_, 1) := by decide +kernel
theorem dX11_feed_0 : decode cX11_feed 0 = .ok (.aload_n 0, 1) := by decide +kernel
theorem dX11_feed_1 : decode cX11_feed 1 = .ok (.iconst 0, 1) := by decide +kernel
theorem dX11_feed_2 : decode cX11_feed 2 = .ok (.putfield 3, 3) := by decide +kernel
theorem dX11_feed_5 : decode cX11_feed 5 = .ok (.aload_n 0, 1) := by decide +kernel
theorem dX11_feed_6 : decode cX11_feed 6 = .ok (.getfield 69, 3) := by decide +kernel
theorem dX11_feed_9 : decode cX11_feed 9 = .ok (.sipush 5980, 3) := by decide +kernel
theorem dX11_feed_12 : decode cX11_feed 12 = .ok (.if_icmp .le 5, 3) := by decide +kernel
theorem dX11_feed_15 : decode cX11_feed 15 = .ok (.iconst (-1), 1) := by decide +kernel
theorem dX11_feed_16 : decode cX11_feed 16 = .ok (.ireturn, 1) := by decide +kernel
theorem dX11_feed_17 : decode cX11_feed 17 = .ok (.iconst 0, 1) := by decide +kernel
theorem dX11_feed_18 : decode cX11_feed 18 = .ok (.istore 6, 2) := by decide +kernel
theorem dX11_feed_20 : decode cX11_feed 20 = .ok (.iload 6, 2) := by decide +kernel
theorem dX11_feed_22 : decode cX11_feed 22 = .ok (.bipush 20, 2) := by decide +kernel
theorem dX11_feed_24 : decode cX11_feed 24 = .ok (.if_icmp .ge 86, 3) := by decide +kernel
theorem dX11_feed_27 : decode cX11_feed 27 = .ok (.iload 6, 2) := by decide +kernel
theorem dX11_feed_29 : decode cX11_feed 29 = .ok (.iconst 4, 1) := by decide +kernel
theorem dX11_feed_30 : decode cX11_feed 30 = .ok (.if_icmp .ge 7, 3) := by decide +kernel
theorem dX11_feed_33 : decode cX11_feed 33 = .ok (.iload_n 1, 1) := by decide +kernel
theorem dX11_feed_34 : decode cX11_feed 34 = .ok (.goto 39, 3) := by decide +kernel
theorem dX11_feed_37 : decode cX11_feed 37 = .ok (.iload 6, 2) := by decide +kernel
theorem dX11_feed_39 : decode cX11_feed 39 = .ok (.bipush 8, 2) := by decide +kernel
theorem dX11_feed_41 : decode cX11_feed 41 = .ok (.if_icmp .ge 7, 3) := by decide +kernel
theorem dX11_feed_44 : decode cX11_feed 44 = .ok (.iload_n 2, 1) := by decide +kernel
theorem dX11_feed_45 : decode cX11_feed 45 = .ok (.goto 28, 3) := by decide +kernel
theorem dX11_feed_48 : decode cX11_feed 48 = .ok (.iload 6, 2) := by decide +kernel
theorem dX11_feed_50 : decode cX11_feed 50 = .ok (.bipush 12, 2) := by decide +kernel
theorem dX11_feed_52 : decode cX11_feed 52 = .ok (.if_icmp .ge 7, 3) := by decide +kernel
theorem dX11_feed_55 : decode cX11_feed 55 = .ok (.iload_n 3, 1) := by decide +kernel
theorem dX11_feed_56 : decode cX11_feed 56 = .ok (.goto 17, 3) := by decide +kernel
theorem dX11_feed_59 : decode cX11_feed 59 = .ok (.iload 6, 2) := by decide +kernel
theorem dX11_feed_61 : decode cX11_feed 61 = .ok (.bipush 16, 2) := by decide +kernel
theorem dX11_feed_63 : decode cX11_feed 63 = .ok (.if_icmp .ge 8, 3) := by decide +kernel
theorem dX11_feed_66 : decode cX11_feed 66 = .ok (.iload 4, 2) := by decide +kernel
theorem dX11_feed_68 : decode cX11_feed 68 = .ok (.goto 5, 3) := by decide +kernel
theorem dX11_feed_71 : decode cX11_feed 71 = .ok (.iload 5, 2) := by decide +kernel
theorem dX11_feed_73 : decode cX11_feed 73 = .ok (.istore 7, 2) := by decide +kernel
theorem dX11_feed_75 : decode cX11_feed 75 = .ok (.aload_n 0, 1) := by decide +kernel
theorem dX11_feed_76 : decode cX11_feed 76 = .ok (.getfield 13, 3) := by decide +kernel
theorem dX11_feed_79 : decode cX11_feed 79 = .ok (.aload_n 0, 1) := by decide +kernel
theorem dX11_feed_80 : decode cX11_feed 80 = .ok (.getfield 69, 3) := by decide +kernel
theorem dX11_feed_83 : decode cX11_feed 83 = .ok (.iload 6, 2) := by decide +kernel
theorem dX11_feed_85 : decode cX11_feed 85 = .ok (.iadd, 1) := by decide +kernel
theorem dX11_feed_86 : decode cX11_feed 86 = .ok (.iload 7, 2) := by decide +kernel
theorem dX11_feed_88 : decode cX11_feed 88 = .ok (.bipush 24, 2) := by decide +kernel
theorem dX11_feed_90 : decode cX11_feed 90 = .ok (.bipush 8, 2) := by decide +kernel
theorem dX11_feed_92 : decode cX11_feed 92 = .ok (.iload 6, 2) := by decide +kernel
theorem dX11_feed_94 : decode cX11_feed 94 = .ok (.iconst 4, 1) := by decide +kernel
theorem dX11_feed_95 : decode cX11_feed 95 = .ok (.irem, 1) := by decide +kernel
theorem dX11_feed_96 : decode cX11_feed 96 = .ok (.imul, 1) := by decide +kernel
theorem dX11_feed_97 : decode cX11_feed 97 = .ok (.isub, 1) := by decide +kernel
theorem dX11_feed_98 : decode cX11_feed 98 = .ok (.ishr, 1) := by decide +kernel
theorem dX11_feed_99 : decode cX11_feed 99 = .ok (.sipush 255, 3) := by decide +kernel
theorem dX11_feed_102 : decode cX11_feed 102 = .ok (.iand, 1) := by decide +kernel
theorem dX11_feed_103 : decode cX11_feed 103 = .ok (.iastore, 1) := by decide +kernel
theorem dX11_feed_104 : decode cX11_feed 104 = .ok (.iinc 6 1, 3) := by decide +kernel
theorem dX11_feed_107 : decode cX11_feed 107 = .ok (.goto (-87), 3) := by decide +kernel
theorem dX11_feed_110 : decode cX11_feed 110 = .ok (.aload_n 0, 1) := by decide +kernel
theorem dX11_feed_111 : decode cX11_feed 111 = .ok (.dup, 1) := by decide +kernel
theorem dX11_feed_112 : decode cX11_feed 112 = .ok (.getfield 69, 3) := by decide +kernel
theorem dX11_feed_115 : decode cX11_feed 115 = .ok (.bipush 20, 2) := by decide +kernel
theorem dX11_feed_117 : decode cX11_feed 117 = .ok (.iadd, 1) := by decide +kernel
theorem dX11_feed_118 : decode cX11_feed 118 = .ok (.putfield 69, 3) := by decide +kernel
theorem dX11_feed_121 : decode cX11_feed 121 = .ok (.aload_n 0, 1) := by decide +kernel
theorem dX11_feed_122 : decode cX11_feed 122 = .ok (.getfield 69, 3) := by decide +kernel
theorem dX11_feed_125 : decode cX11_feed 125 = .ok (.ireturn, 1) := by decide +kernel
theorem dX11_end_0 : decode cX11_end 0 = .ok (.aload_n 0, 1) := by decide +kernel
theorem dX11_end_1 : decode cX11_end 1 = .ok (.iconst 0, 1) := by decide +kernel
theorem dX11_end_2 : decode cX11_end 2 = .ok (.putfield 3, 3) := by decide +kernel
theorem dX11_end_5 : decode cX11_end 5 = .ok (.iload_n 1, 1) := by decide +kernel
theorem dX11_end_6 : decode cX11_end 6 = .ok (.i2l, 1) := by decide +kernel
theorem dX11_end_7 : decode cX11_end 7 = .ok (.lconst 0, 1) := by decide +kernel
theorem dX11_end_8 : decode cX11_end 8 = .ok (.aload_n 0, 1) := by decide +kernel
theorem dX11_end_9 : decode cX11_end 9 = .ok (.getfield 69, 3) := by decide +kernel
theorem dX11_end_12 : decode cX11_end 12 = .ok (.i2l, 1) := by decide +kernel
theorem dX11_end_13 : decode cX11_end 13 = .ok (.invokestatic 72, 3) := by decide +kernel
theorem dX11_end_16 : decode cX11_end 16 = .ok (.ifCond .ne 5, 3) := by decide +kernel
theorem dX11_end_19 : decode cX11_end 19 = .ok (.iconst 0, 1) := by decide +kernel
theorem dX11_end_20 : decode cX11_end 20 = .ok (.ireturn, 1) := by decide +kernel
theorem dX11_end_21 : decode cX11_end 21 = .ok (.aload_n 0, 1) := by decide +kernel
theorem dX11_end_22 : decode cX11_end 22 = .ok (.iload_n 1, 1) := by decide +kernel
theorem dX11_end_23 : decode cX11_end 23 = .ok (.putfield 69, 3) := by decide +kernel
theorem dX11_end_26 : decode cX11_end 26 = .ok (.iconst 1, 1) := by decide +kernel
theorem dX11_end_27 : decode cX11_end 27 = .ok (.ireturn, 1) := by decide +kernel
theorem dX11_flaw_0 : decode cX11_flaw 0 = .ok (.aload_n 0, 1) := by decide +kernel
theorem dX11_flaw_1 : decode cX11_flaw 1 = .ok (.getfield 76, 3) := by decide +kernel
theorem dX11_flaw_4 : decode cX11_flaw 4 = .ok (.ifCond .ne 13, 3) := by decide +kernel
theorem dX11_flaw_7 : decode cX11_flaw 7 = .ok (.aload_n 0, 1) := by decide +kernel
theorem dX11_flaw_8 : decode cX11_flaw 8 = .ok (.iload_n 1, 1) := by decide +kernel
theorem dX11_flaw_9 : decode cX11_flaw 9 = .ok (.putfield 76, 3) := by decide +kernel
theorem dX11_flaw_12 : decode cX11_flaw 12 = .ok (.aload_n 0, 1) := by decide +kernel
theorem dX11_flaw_13 : decode cX11_flaw 13 = .ok (.iload_n 2, 1) := by decide +kernel
theorem dX11_flaw_14 : decode cX11_flaw 14 = .ok (.putfield 79, 3) := by decide +kernel
theorem dX11_flaw_17 : decode cX11_flaw 17 = .ok (.return_, 1) := by decide +kernel
theorem dX11_wants_0 : decode cX11_wants 0 = .ok (.aload_n 0, 1) := by decide +kernel
theorem dX11_wants_1 : decode cX11_wants 1 = .ok (.getfield 76, 3) := by decide +kernel
theorem dX11_wants_4 : decode cX11_wants 4 = .ok (.ifCond .eq 5, 3) := by decide +kernel
theorem dX11_wants_7 : decode cX11_wants 7 = .ok (.iconst 0, 1) := by decide +kernel
theorem dX11_wants_8 : decode cX11_wants 8 = .ok (.ireturn, 1) := by decide +kernel
theorem dX11_wants_9 : decode cX11_wants 9 = .ok (.aload_n 0, 1) := by decide +kernel
theorem dX11_wants_10 : decode cX11_wants 10 = .ok (.getfield 82, 3) := by decide +kernel
theorem dX11_wants_13 : decode cX11_wants 13 = .ok (.aload_n 0, 1) := by decide +kernel
theorem dX11_wants_14 : decode cX11_wants 14 = .ok (.getfield 85, 3) := by decide +kernel
theorem dX11_wants_17 : decode cX11_wants 17 = .ok (.if_icmp .ne 14, 3) := by decide +kernel
theorem dX11_wants_20 : decode cX11_wants 20 = .ok (.aload_n 0, 1) := by decide +kernel
theorem dX11_wants_21 : decode cX11_wants 21 = .ok (.iconst 4, 1) := by decide +kernel
theorem dX11_wants_22 : decode cX11_wants 22 = .ok (.aload_n 0, 1) := by decide +kernel
theorem dX11_wants_23 : decode cX11_wants 23 = .ok (.getfield 85, 3) := by decide +kernel
theorem dX11_wants_26 : decode cX11_wants 26 = .ok (.invokevirtual 88, 3) := by decide +kernel
theorem dX11_wants_29 : decode cX11_wants 29 = .ok (.iconst 0, 1) := by decide +kernel
theorem dX11_wants_30 : decode cX11_wants 30 = .ok (.ireturn, 1) := by decide +kernel
theorem dX11_wants_31 : decode cX11_wants 31 = .ok (.aload_n 0, 1) := by decide +kernel
theorem dX11_wants_32 : decode cX11_wants 32 = .ok (.getfield 13, 3) := by decide +kernel
theorem dX11_wants_35 : decode cX11_wants 35 = .ok (.aload_n 0, 1) := by decide +kernel
theorem dX11_wants_36 : decode cX11_wants 36 = .ok (.getfield 82, 3) := by decide +kernel
theorem dX11_wants_39 : decode cX11_wants 39 = .ok (.iaload, 1) := by decide +kernel
theorem dX11_wants_40 : decode cX11_wants 40 = .ok (.istore_n 3, 1) := by decide +kernel
theorem dX11_wants_41 : decode cX11_wants 41 = .ok (.iload_n 3, 1) := by decide +kernel
theorem dX11_wants_42 : decode cX11_wants 42 = .ok (.i2l, 1) := by decide +kernel
theorem dX11_wants_43 : decode cX11_wants 43 = .ok (.iload_n 1, 1) := by decide +kernel
theorem dX11_wants_44 : decode cX11_wants 44 = .ok (.i2l, 1) := by decide +kernel
theorem dX11_wants_45 : decode cX11_wants 45 = .ok (.iload_n 2, 1) := by decide +kernel
theorem dX11_wants_46 : decode cX11_wants 46 = .ok (.i2l, 1) := by decide +kernel
theorem dX11_wants_47 : decode cX11_wants 47 = .ok (.invokestatic 72, 3) := by decide +kernel
theorem dX11_wants_50 : decode cX11_wants 50 = .ok (.ifCond .ne 14, 3) := by decide +kernel
theorem dX11_wants_53 : decode cX11_wants 53 = .ok (.aload_n 0, 1) := by decide +kernel
theorem dX11_wants_54 : decode cX11_wants 54 = .ok (.iconst 4, 1) := by decide +kernel
theorem dX11_wants_55 : decode cX11_wants 55 = .ok (.aload_n 0, 1) := by decide +kernel
theorem dX11_wants_56 : decode cX11_wants 56 = .ok (.getfield 82, 3) := by decide +kernel
theorem dX11_wants_59 : decode cX11_wants 59 = .ok (.invokevirtual 88, 3) := by decide +kernel
theorem dX11_wants_62 : decode cX11_wants 62 = .ok (.iconst 0, 1) := by decide +kernel
theorem dX11_wants_63 : decode cX11_wants 63 = .ok (.ireturn, 1) := by decide +kernel
theorem dX11_wants_64 : decode cX11_wants 64 = .ok (.aload_n 0, 1) := by decide +kernel
theorem dX11_wants_65 : decode cX11_wants 65 = .ok (.dup, 1) := by decide +kernel
theorem dX11_wants_66 : decode cX11_wants 66 = .ok (.getfield 82, 3) := by decide +kernel
theorem dX11_wants_69 : decode cX11_wants 69 = .ok (.iconst 1, 1) := by decide +kernel
theorem dX11_wants_70 : decode cX11_wants 70 = .ok (.iadd, 1) := by decide +kernel
theorem dX11_wants_71 : decode cX11_wants 71 = .ok (.putfield 82, 3) := by decide +kernel
theorem dX11_wants_74 : decode cX11_wants 74 = .ok (.iload_n 3, 1) := by decide +kernel
theorem dX11_wants_75 : decode cX11_wants 75 = .ok (.ireturn, 1) := by decide +kernel
theorem dX11_names_0 : decode cX11_names 0 = .ok (.aload_n 0, 1) := by decide +kernel
theorem dX11_names_1 : decode cX11_names 1 = .ok (.getfield 82, 3) := by decide +kernel
theorem dX11_names_4 : decode cX11_names 4 = .ok (.istore_n 3, 1) := by decide +kernel
theorem dX11_names_5 : decode cX11_names 5 = .ok (.aload_n 0, 1) := by decide +kernel
theorem dX11_names_6 : decode cX11_names 6 = .ok (.iconst 1, 1) := by decide +kernel
theorem dX11_names_7 : decode cX11_names 7 = .ok (.iload_n 2, 1) := by decide +kernel
theorem dX11_names_8 : decode cX11_names 8 = .ok (.invokevirtual 92, 3) := by decide +kernel
theorem dX11_names_11 : decode cX11_names 11 = .ok (.istore 4, 2) := by decide +kernel
theorem dX11_names_13 : decode cX11_names 13 = .ok (.aload_n 0, 1) := by decide +kernel
theorem dX11_names_14 : decode cX11_names 14 = .ok (.getfield 76, 3) := by decide +kernel
theorem dX11_names_17 : decode cX11_names 17 = .ok (.ifCond .ne 24, 3) := by decide +kernel
theorem dX11_names_20 : decode cX11_names 20 = .ok (.aload_n 0, 1) := by decide +kernel
theorem dX11_names_21 : decode cX11_names 21 = .ok (.getfield 51, 3) := by decide +kernel
theorem dX11_names_24 : decode cX11_names 24 = .ok (.bipush 64, 2) := by decide +kernel
theorem dX11_names_26 : decode cX11_names 26 = .ok (.iload_n 1, 1) := by decide +kernel
theorem dX11_names_27 : decode cX11_names 27 = .ok (.imul, 1) := by decide +kernel
theorem dX11_names_28 : decode cX11_names 28 = .ok (.iload 4, 2) := by decide +kernel
theorem dX11_names_30 : decode cX11_names 30 = .ok (.iadd, 1) := by decide +kernel
theorem dX11_names_31 : decode cX11_names 31 = .ok (.baload, 1) := by decide +kernel
theorem dX11_names_32 : decode cX11_names 32 = .ok (.ifCond .eq 9, 3) := by decide +kernel
theorem dX11_names_35 : decode cX11_names 35 = .ok (.aload_n 0, 1) := by decide +kernel
theorem dX11_names_36 : decode cX11_names 36 = .ok (.iconst 4, 1) := by decide +kernel
theorem dX11_names_37 : decode cX11_names 37 = .ok (.iload_n 3, 1) := by decide +kernel
theorem dX11_names_38 : decode cX11_names 38 = .ok (.invokevirtual 88, 3) := by decide +kernel
theorem dX11_names_41 : decode cX11_names 41 = .ok (.aload_n 0, 1) := by decide +kernel
theorem dX11_names_42 : decode cX11_names 42 = .ok (.getfield 51, 3) := by decide +kernel
theorem dX11_names_45 : decode cX11_names 45 = .ok (.bipush 64, 2) := by decide +kernel
theorem dX11_names_47 : decode cX11_names 47 = .ok (.iload_n 1, 1) := by decide +kernel
theorem dX11_names_48 : decode cX11_names 48 = .ok (.imul, 1) := by decide +kernel
theorem dX11_names_49 : decode cX11_names 49 = .ok (.iload 4, 2) := by decide +kernel
theorem dX11_names_51 : decode cX11_names 51 = .ok (.iadd, 1) := by decide +kernel
theorem dX11_names_52 : decode cX11_names 52 = .ok (.iconst 1, 1) := by decide +kernel
theorem dX11_names_53 : decode cX11_names 53 = .ok (.bastore, 1) := by decide +kernel
theorem dX11_names_54 : decode cX11_names 54 = .ok (.return_, 1) := by decide +kernel
theorem dX11_judgeRoom_0 : decode cX11_judgeRoom 0 = .ok (.aload_n 0, 1) := by decide +kernel
theorem dX11_judgeRoom_1 : decode cX11_judgeRoom 1 = .ok (.iconst 0, 1) := by decide +kernel
theorem dX11_judgeRoom_2 : decode cX11_judgeRoom 2 = .ok (.bipush 20, 2) := by decide +kernel
theorem dX11_judgeRoom_4 : decode cX11_judgeRoom 4 = .ok (.invokevirtual 96, 3) := by decide +kernel
theorem dX11_judgeRoom_7 : decode cX11_judgeRoom 7 = .ok (.aload_n 0, 1) := by decide +kernel
theorem dX11_judgeRoom_8 : decode cX11_judgeRoom 8 = .ok (.iconst 0, 1) := by decide +kernel
theorem dX11_judgeRoom_9 : decode cX11_judgeRoom 9 = .ok (.bipush 16, 2) := by decide +kernel
theorem dX11_judgeRoom_11 : decode cX11_judgeRoom 11 = .ok (.invokevirtual 92, 3) := by decide +kernel
theorem dX11_judgeRoom_14 : decode cX11_judgeRoom 14 = .ok (.istore_n 1, 1) := by decide +kernel
theorem dX11_judgeRoom_15 : decode cX11_judgeRoom 15 = .ok (.iconst 0, 1) := by decide +kernel
theorem dX11_judgeRoom_16 : decode cX11_judgeRoom 16 = .ok (.istore_n 2, 1) := by decide +kernel
theorem dX11_judgeRoom_17 : decode cX11_judgeRoom 17 = .ok (.iload_n 2, 1) := by decide +kernel
theorem dX11_judgeRoom_18 : decode cX11_judgeRoom 18 = .ok (.iload_n 1, 1) := by decide +kernel
theorem dX11_judgeRoom_19 : decode cX11_judgeRoom 19 = .ok (.if_icmp .ge 64, 3) := by decide +kernel
theorem dX11_judgeRoom_22 : decode cX11_judgeRoom 22 = .ok (.aload_n 0, 1) := by decide +kernel
theorem dX11_judgeRoom_23 : decode cX11_judgeRoom 23 = .ok (.getfield 76, 3) := by decide +kernel
theorem dX11_judgeRoom_26 : decode cX11_judgeRoom 26 = .ok (.ifCond .ne 57, 3) := by decide +kernel
theorem dX11_judgeRoom_29 : decode cX11_judgeRoom 29 = .ok (.aload_n 0, 1) := by decide +kernel
theorem dX11_judgeRoom_30 : decode cX11_judgeRoom 30 = .ok (.iconst 0, 1) := by decide +kernel
theorem dX11_judgeRoom_31 : decode cX11_judgeRoom 31 = .ok (.sipush 255, 3) := by decide +kernel
theorem dX11_judgeRoom_34 : decode cX11_judgeRoom 34 = .ok (.invokevirtual 92, 3) := by decide +kernel
theorem dX11_judgeRoom_37 : decode cX11_judgeRoom 37 = .ok (.istore_n 3, 1) := by decide +kernel
theorem dX11_judgeRoom_38 : decode cX11_judgeRoom 38 = .ok (.aload_n 0, 1) := by decide +kernel
theorem dX11_judgeRoom_39 : decode cX11_judgeRoom 39 = .ok (.iconst 0, 1) := by decide +kernel
theorem dX11_judgeRoom_40 : decode cX11_judgeRoom 40 = .ok (.sipush 255, 3) := by decide +kernel
theorem dX11_judgeRoom_43 : decode cX11_judgeRoom 43 = .ok (.invokevirtual 92, 3) := by decide +kernel
theorem dX11_judgeRoom_46 : decode cX11_judgeRoom 46 = .ok (.istore 4, 2) := by decide +kernel
theorem dX11_judgeRoom_48 : decode cX11_judgeRoom 48 = .ok (.aload_n 0, 1) := by decide +kernel
theorem dX11_judgeRoom_49 : decode cX11_judgeRoom 49 = .ok (.iload_n 3, 1) := by decide +kernel
theorem dX11_judgeRoom_50 : decode cX11_judgeRoom 50 = .ok (.sipush 255, 3) := by decide +kernel
theorem dX11_judgeRoom_53 : decode cX11_judgeRoom 53 = .ok (.invokevirtual 92, 3) := by decide +kernel
theorem dX11_judgeRoom_56 : decode cX11_judgeRoom 56 = .ok (.istore 5, 2) := by decide +kernel
theorem dX11_judgeRoom_58 : decode cX11_judgeRoom 58 = .ok (.aload_n 0, 1) := by decide +kernel
theorem dX11_judgeRoom_59 : decode cX11_judgeRoom 59 = .ok (.iload 4, 2) := by decide +kernel
theorem dX11_judgeRoom_61 : decode cX11_judgeRoom 61 = .ok (.sipush 255, 3) := by decide +kernel
theorem dX11_judgeRoom_64 : decode cX11_judgeRoom 64 = .ok (.invokevirtual 92, 3) := by decide +kernel
theorem dX11_judgeRoom_67 : decode cX11_judgeRoom 67 = .ok (.istore 6, 2) := by decide +kernel
theorem dX11_judgeRoom_69 : decode cX11_judgeRoom 69 = .ok (.aload_n 0, 1) := by decide +kernel
theorem dX11_judgeRoom_70 : decode cX11_judgeRoom 70 = .ok (.iconst 0, 1) := by decide +kernel
theorem dX11_judgeRoom_71 : decode cX11_judgeRoom 71 = .ok (.iconst 1, 1) := by decide +kernel
theorem dX11_judgeRoom_72 : decode cX11_judgeRoom 72 = .ok (.invokevirtual 92, 3) := by decide +kernel
theorem dX11_judgeRoom_75 : decode cX11_judgeRoom 75 = .ok (.istore 7, 2) := by decide +kernel
theorem dX11_judgeRoom_77 : decode cX11_judgeRoom 77 = .ok (.iinc 2 1, 3) := by decide +kernel
theorem dX11_judgeRoom_80 : decode cX11_judgeRoom 80 = .ok (.goto (-63), 3) := by decide +kernel
theorem dX11_judgeRoom_83 : decode cX11_judgeRoom 83 = .ok (.return_, 1) := by decide +kernel
theorem dX11_judgeObject_0 : decode cX11_judgeObject 0 = .ok (.aload_n 0, 1) := by decide +kernel
theorem dX11_judgeObject_1 : decode cX11_judgeObject 1 = .ok (.iconst 2, 1) := by decide +kernel
theorem dX11_judgeObject_2 : decode cX11_judgeObject 2 = .ok (.bipush 60, 2) := by decide +kernel
theorem dX11_judgeObject_4 : decode cX11_judgeObject 4 = .ok (.invokevirtual 96, 3) := by decide +kernel
theorem dX11_judgeObject_7 : decode cX11_judgeObject 7 = .ok (.aload_n 0, 1) := by decide +kernel
theorem dX11_judgeObject_8 : decode cX11_judgeObject 8 = .ok (.iconst 0, 1) := by decide +kernel
theorem dX11_judgeObject_9 : decode cX11_judgeObject 9 = .ok (.bipush 20, 2) := by decide +kernel
theorem dX11_judgeObject_11 : decode cX11_judgeObject 11 = .ok (.invokevirtual 92, 3) := by decide +kernel
theorem dX11_judgeObject_14 : decode cX11_judgeObject 14 = .ok (.istore_n 1, 1) := by decide +kernel
theorem dX11_judgeObject_15 : decode cX11_judgeObject 15 = .ok (.iconst 0, 1) := by decide +kernel
theorem dX11_judgeObject_16 : decode cX11_judgeObject 16 = .ok (.istore_n 2, 1) := by decide +kernel
theorem dX11_judgeObject_17 : decode cX11_judgeObject 17 = .ok (.iload_n 2, 1) := by decide +kernel
theorem dX11_judgeObject_18 : decode cX11_judgeObject 18 = .ok (.iconst 3, 1) := by decide +kernel
theorem dX11_judgeObject_19 : decode cX11_judgeObject 19 = .ok (.if_icmp .ge 18, 3) := by decide +kernel
theorem dX11_judgeObject_22 : decode cX11_judgeObject 22 = .ok (.aload_n 0, 1) := by decide +kernel
theorem dX11_judgeObject_23 : decode cX11_judgeObject 23 = .ok (.iconst 0, 1) := by decide +kernel
theorem dX11_judgeObject_24 : decode cX11_judgeObject 24 = .ok (.sipush 255, 3) := by decide +kernel
theorem dX11_judgeObject_27 : decode cX11_judgeObject 27 = .ok (.invokevirtual 92, 3) := by decide +kernel
theorem dX11_judgeObject_30 : decode cX11_judgeObject 30 = .ok (.istore_n 1, 1) := by decide +kernel
theorem dX11_judgeObject_31 : decode cX11_judgeObject 31 = .ok (.iinc 2 1, 3) := by decide +kernel
theorem dX11_judgeObject_34 : decode cX11_judgeObject 34 = .ok (.goto (-17), 3) := by decide +kernel
theorem dX11_judgeObject_37 : decode cX11_judgeObject 37 = .ok (.iconst 0, 1) := by decide +kernel
theorem dX11_judgeObject_38 : decode cX11_judgeObject 38 = .ok (.istore_n 2, 1) := by decide +kernel
theorem dX11_judgeObject_39 : decode cX11_judgeObject 39 = .ok (.iload_n 2, 1) := by decide +kernel
theorem dX11_judgeObject_40 : decode cX11_judgeObject 40 = .ok (.sipush 256, 3) := by decide +kernel
theorem dX11_judgeObject_43 : decode cX11_judgeObject 43 = .ok (.if_icmp .ge 16, 3) := by decide +kernel
theorem dX11_judgeObject_46 : decode cX11_judgeObject 46 = .ok (.aload_n 0, 1) := by decide +kernel
theorem dX11_judgeObject_47 : decode cX11_judgeObject 47 = .ok (.getfield 54, 3) := by decide +kernel
theorem dX11_judgeObject_50 : decode cX11_judgeObject 50 = .ok (.iload_n 2, 1) := by decide +kernel
theorem dX11_judgeObject_51 : decode cX11_judgeObject 51 = .ok (.iconst 0, 1) := by decide +kernel
theorem dX11_judgeObject_52 : decode cX11_judgeObject 52 = .ok (.bastore, 1) := by decide +kernel
theorem dX11_judgeObject_53 : decode cX11_judgeObject 53 = .ok (.iinc 2 1, 3) := by decide +kernel
theorem dX11_judgeObject_56 : decode cX11_judgeObject 56 = .ok (.goto (-17), 3) := by decide +kernel
theorem dX11_judgeObject_59 : decode cX11_judgeObject 59 = .ok (.aload_n 0, 1) := by decide +kernel
theorem dX11_judgeObject_60 : decode cX11_judgeObject 60 = .ok (.getfield 76, 3) := by decide +kernel
theorem dX11_judgeObject_63 : decode cX11_judgeObject 63 = .ok (.ifCond .ne 68, 3) := by decide +kernel
theorem dX11_judgeObject_66 : decode cX11_judgeObject 66 = .ok (.aload_n 0, 1) := by decide +kernel
theorem dX11_judgeObject_67 : decode cX11_judgeObject 67 = .ok (.getfield 82, 3) := by decide +kernel
theorem dX11_judgeObject_70 : decode cX11_judgeObject 70 = .ok (.aload_n 0, 1) := by decide +kernel
theorem dX11_judgeObject_71 : decode cX11_judgeObject 71 = .ok (.getfield 85, 3) := by decide +kernel
theorem dX11_judgeObject_74 : decode cX11_judgeObject 74 = .ok (.if_icmp .ge 57, 3) := by decide +kernel
theorem dX11_judgeObject_77 : decode cX11_judgeObject 77 = .ok (.aload_n 0, 1) := by decide +kernel
theorem dX11_judgeObject_78 : decode cX11_judgeObject 78 = .ok (.getfield 82, 3) := by decide +kernel
theorem dX11_judgeObject_81 : decode cX11_judgeObject 81 = .ok (.istore_n 2, 1) := by decide +kernel
theorem dX11_judgeObject_82 : decode cX11_judgeObject 82 = .ok (.aload_n 0, 1) := by decide +kernel
theorem dX11_judgeObject_83 : decode cX11_judgeObject 83 = .ok (.iconst 1, 1) := by decide +kernel
theorem dX11_judgeObject_84 : decode cX11_judgeObject 84 = .ok (.sipush 255, 3) := by decide +kernel
theorem dX11_judgeObject_87 : decode cX11_judgeObject 87 = .ok (.invokevirtual 92, 3) := by decide +kernel
theorem dX11_judgeObject_90 : decode cX11_judgeObject 90 = .ok (.istore_n 1, 1) := by decide +kernel
theorem dX11_judgeObject_91 : decode cX11_judgeObject 91 = .ok (.aload_n 0, 1) := by decide +kernel
theorem dX11_judgeObject_92 : decode cX11_judgeObject 92 = .ok (.getfield 76, 3) := by decide +kernel
theorem dX11_judgeObject_95 : decode cX11_judgeObject 95 = .ok (.ifCond .ne 18, 3) := by decide +kernel
theorem dX11_judgeObject_98 : decode cX11_judgeObject 98 = .ok (.aload_n 0, 1) := by decide +kernel
theorem dX11_judgeObject_99 : decode cX11_judgeObject 99 = .ok (.getfield 54, 3) := by decide +kernel
theorem dX11_judgeObject_102 : decode cX11_judgeObject 102 = .ok (.iload_n 1, 1) := by decide +kernel
theorem dX11_judgeObject_103 : decode cX11_judgeObject 103 = .ok (.baload, 1) := by decide +kernel
theorem dX11_judgeObject_104 : decode cX11_judgeObject 104 = .ok (.ifCond .eq 9, 3) := by decide +kernel
theorem dX11_judgeObject_107 : decode cX11_judgeObject 107 = .ok (.aload_n 0, 1) := by decide +kernel
theorem dX11_judgeObject_108 : decode cX11_judgeObject 108 = .ok (.iconst 4, 1) := by decide +kernel
theorem dX11_judgeObject_109 : decode cX11_judgeObject 109 = .ok (.iload_n 2, 1) := by decide +kernel
theorem dX11_judgeObject_110 : decode cX11_judgeObject 110 = .ok (.invokevirtual 88, 3) := by decide +kernel
theorem dX11_judgeObject_113 : decode cX11_judgeObject 113 = .ok (.aload_n 0, 1) := by decide +kernel
theorem dX11_judgeObject_114 : decode cX11_judgeObject 114 = .ok (.getfield 54, 3) := by decide +kernel
theorem dX11_judgeObject_117 : decode cX11_judgeObject 117 = .ok (.iload_n 1, 1) := by decide +kernel
theorem dX11_judgeObject_118 : decode cX11_judgeObject 118 = .ok (.iconst 1, 1) := by decide +kernel
theorem dX11_judgeObject_119 : decode cX11_judgeObject 119 = .ok (.bastore, 1) := by decide +kernel
theorem dX11_judgeObject_120 : decode cX11_judgeObject 120 = .ok (.aload_n 0, 1) := by decide +kernel
theorem dX11_judgeObject_121 : decode cX11_judgeObject 121 = .ok (.iconst 1, 1) := by decide +kernel
theorem dX11_judgeObject_122 : decode cX11_judgeObject 122 = .ok (.bipush 60, 2) := by decide +kernel
theorem dX11_judgeObject_124 : decode cX11_judgeObject 124 = .ok (.invokevirtual 92, 3) := by decide +kernel
theorem dX11_judgeObject_127 : decode cX11_judgeObject 127 = .ok (.istore_n 1, 1) := by decide +kernel
theorem dX11_judgeObject_128 : decode cX11_judgeObject 128 = .ok (.goto (-69), 3) := by decide +kernel
theorem dX11_judgeObject_131 : decode cX11_judgeObject 131 = .ok (.return_, 1) := by decide +kernel
theorem dX11_judge_0 : decode cX11_judge 0 = .ok (.aload_n 0, 1) := by decide +kernel
theorem dX11_judge_1 : decode cX11_judge 1 = .ok (.iconst 0, 1) := by decide +kernel
theorem dX11_judge_2 : decode cX11_judge 2 = .ok (.putfield 76, 3) := by decide +kernel
theorem dX11_judge_5 : decode cX11_judge 5 = .ok (.iconst 0, 1) := by decide +kernel
theorem dX11_judge_6 : decode cX11_judge 6 = .ok (.istore_n 2, 1) := by decide +kernel
theorem dX11_judge_7 : decode cX11_judge 7 = .ok (.iload_n 2, 1) := by decide +kernel
theorem dX11_judge_8 : decode cX11_judge 8 = .ok (.sipush 256, 3) := by decide +kernel
theorem dX11_judge_11 : decode cX11_judge 11 = .ok (.if_icmp .ge 16, 3) := by decide +kernel
theorem dX11_judge_14 : decode cX11_judge 14 = .ok (.aload_n 0, 1) := by decide +kernel
theorem dX11_judge_15 : decode cX11_judge 15 = .ok (.getfield 51, 3) := by decide +kernel
theorem dX11_judge_18 : decode cX11_judge 18 = .ok (.iload_n 2, 1) := by decide +kernel
theorem dX11_judge_19 : decode cX11_judge 19 = .ok (.iconst 0, 1) := by decide +kernel
theorem dX11_judge_20 : decode cX11_judge 20 = .ok (.bastore, 1) := by decide +kernel
theorem dX11_judge_21 : decode cX11_judge 21 = .ok (.iinc 2 1, 3) := by decide +kernel
theorem dX11_judge_24 : decode cX11_judge 24 = .ok (.goto (-17), 3) := by decide +kernel
theorem dX11_judge_27 : decode cX11_judge 27 = .ok (.iconst 4, 1) := by decide +kernel
theorem dX11_judge_28 : decode cX11_judge 28 = .ok (.newarray .int, 2) := by decide +kernel
theorem dX11_judge_30 : decode cX11_judge 30 = .ok (.dup, 1) := by decide +kernel
theorem dX11_judge_31 : decode cX11_judge 31 = .ok (.iconst 0, 1) := by decide +kernel
theorem dX11_judge_32 : decode cX11_judge 32 = .ok (.bipush 80, 2) := by decide +kernel
theorem dX11_judge_34 : decode cX11_judge 34 = .ok (.iastore, 1) := by decide +kernel
theorem dX11_judge_35 : decode cX11_judge 35 = .ok (.dup, 1) := by decide +kernel
theorem dX11_judge_36 : decode cX11_judge 36 = .ok (.iconst 1, 1) := by decide +kernel
theorem dX11_judge_37 : decode cX11_judge 37 = .ok (.bipush 76, 2) := by decide +kernel
theorem dX11_judge_39 : decode cX11_judge 39 = .ok (.iastore, 1) := by decide +kernel
theorem dX11_judge_40 : decode cX11_judge 40 = .ok (.dup, 1) := by decide +kernel
theorem dX11_judge_41 : decode cX11_judge 41 = .ok (.iconst 2, 1) := by decide +kernel
theorem dX11_judge_42 : decode cX11_judge 42 = .ok (.bipush 65, 2) := by decide +kernel
theorem dX11_judge_44 : decode cX11_judge 44 = .ok (.iastore, 1) := by decide +kernel
theorem dX11_judge_45 : decode cX11_judge 45 = .ok (.dup, 1) := by decide +kernel
theorem dX11_judge_46 : decode cX11_judge 46 = .ok (.iconst 3, 1) := by decide +kernel
theorem dX11_judge_47 : decode cX11_judge 47 = .ok (.bipush 89, 2) := by decide +kernel
theorem dX11_judge_49 : decode cX11_judge 49 = .ok (.iastore, 1) := by decide +kernel
theorem dX11_judge_50 : decode cX11_judge 50 = .ok (.astore_n 2, 1) := by decide +kernel
theorem dX11_judge_51 : decode cX11_judge 51 = .ok (.iconst 0, 1) := by decide +kernel
theorem dX11_judge_52 : decode cX11_judge 52 = .ok (.istore_n 3, 1) := by decide +kernel
theorem dX11_judge_53 : decode cX11_judge 53 = .ok (.iload_n 3, 1) := by decide +kernel
theorem dX11_judge_54 : decode cX11_judge 54 = .ok (.iconst 4, 1) := by decide +kernel
theorem dX11_judge_55 : decode cX11_judge 55 = .ok (.if_icmp .ge 32, 3) := by decide +kernel
theorem dX11_judge_58 : decode cX11_judge 58 = .ok (.iload_n 3, 1) := by decide +kernel
theorem dX11_judge_59 : decode cX11_judge 59 = .ok (.iload_n 1, 1) := by decide +kernel
theorem dX11_judge_60 : decode cX11_judge 60 = .ok (.if_icmp .ge 15, 3) := by decide +kernel
theorem dX11_judge_63 : decode cX11_judge 63 = .ok (.aload_n 0, 1) := by decide +kernel
theorem dX11_judge_64 : decode cX11_judge 64 = .ok (.getfield 13, 3) := by decide +kernel
theorem dX11_judge_67 : decode cX11_judge 67 = .ok (.iload_n 3, 1) := by decide +kernel
theorem dX11_judge_68 : decode cX11_judge 68 = .ok (.iaload, 1) := by decide +kernel
theorem dX11_judge_69 : decode cX11_judge 69 = .ok (.aload_n 2, 1) := by decide +kernel
theorem dX11_judge_70 : decode cX11_judge 70 = .ok (.iload_n 3, 1) := by decide +kernel
theorem dX11_judge_71 : decode cX11_judge 71 = .ok (.iaload, 1) := by decide +kernel
theorem dX11_judge_72 : decode cX11_judge 72 = .ok (.if_icmp .eq 9, 3) := by decide +kernel
theorem dX11_judge_75 : decode cX11_judge 75 = .ok (.aload_n 0, 1) := by decide +kernel
theorem dX11_judge_76 : decode cX11_judge 76 = .ok (.iconst 1, 1) := by decide +kernel
theorem dX11_judge_77 : decode cX11_judge 77 = .ok (.iload_n 3, 1) := by decide +kernel
theorem dX11_judge_78 : decode cX11_judge 78 = .ok (.invokevirtual 88, 3) := by decide +kernel
theorem dX11_judge_81 : decode cX11_judge 81 = .ok (.iinc 3 1, 3) := by decide +kernel
theorem dX11_judge_84 : decode cX11_judge 84 = .ok (.goto (-31), 3) := by decide +kernel
theorem dX11_judge_87 : decode cX11_judge 87 = .ok (.iconst 0, 1) := by decide +kernel
theorem dX11_judge_88 : decode cX11_judge 88 = .ok (.istore_n 3, 1) := by decide +kernel
theorem dX11_judge_89 : decode cX11_judge 89 = .ok (.iconst 4, 1) := by decide +kernel
theorem dX11_judge_90 : decode cX11_judge 90 = .ok (.istore 4, 2) := by decide +kernel
theorem dX11_judge_92 : decode cX11_judge 92 = .ok (.aload_n 0, 1) := by decide +kernel
theorem dX11_judge_93 : decode cX11_judge 93 = .ok (.getfield 76, 3) := by decide +kernel
theorem dX11_judge_96 : decode cX11_judge 96 = .ok (.ifCond .ne 182, 3) := by decide +kernel
theorem dX11_judge_99 : decode cX11_judge 99 = .ok (.iload 4, 2) := by decide +kernel
theorem dX11_judge_101 : decode cX11_judge 101 = .ok (.iload_n 1, 1) := by decide +kernel
theorem dX11_judge_102 : decode cX11_judge 102 = .ok (.if_icmp .ge 176, 3) := by decide +kernel
theorem dX11_judge_105 : decode cX11_judge 105 = .ok (.aload_n 0, 1) := by decide +kernel
theorem dX11_judge_106 : decode cX11_judge 106 = .ok (.getfield 13, 3) := by decide +kernel
theorem dX11_judge_109 : decode cX11_judge 109 = .ok (.iload 4, 2) := by decide +kernel
theorem dX11_judge_111 : decode cX11_judge 111 = .ok (.iaload, 1) := by decide +kernel
theorem dX11_judge_112 : decode cX11_judge 112 = .ok (.istore 5, 2) := by decide +kernel
theorem dX11_judge_114 : decode cX11_judge 114 = .ok (.iload 5, 2) := by decide +kernel
theorem dX11_judge_116 : decode cX11_judge 116 = .ok (.bipush 82, 2) := by decide +kernel
theorem dX11_judge_118 : decode cX11_judge 118 = .ok (.if_icmp .eq 34, 3) := by decide +kernel
theorem dX11_judge_121 : decode cX11_judge 121 = .ok (.iload 5, 2) := by decide +kernel
theorem dX11_judge_123 : decode cX11_judge 123 = .ok (.bipush 83, 2) := by decide +kernel
theorem dX11_judge_125 : decode cX11_judge 125 = .ok (.if_icmp .eq 27, 3) := by decide +kernel
theorem dX11_judge_128 : decode cX11_judge 128 = .ok (.iload 5, 2) := by decide +kernel
theorem dX11_judge_130 : decode cX11_judge 130 = .ok (.bipush 79, 2) := by decide +kernel
theorem dX11_judge_132 : decode cX11_judge 132 = .ok (.if_icmp .eq 20, 3) := by decide +kernel
theorem dX11_judge_135 : decode cX11_judge 135 = .ok (.iload 5, 2) := by decide +kernel
theorem dX11_judge_137 : decode cX11_judge 137 = .ok (.bipush 65, 2) := by decide +kernel
theorem dX11_judge_139 : decode cX11_judge 139 = .ok (.if_icmp .eq 13, 3) := by decide +kernel
theorem dX11_judge_142 : decode cX11_judge 142 = .ok (.aload_n 0, 1) := by decide +kernel
theorem dX11_judge_143 : decode cX11_judge 143 = .ok (.iconst 2, 1) := by decide +kernel
theorem dX11_judge_144 : decode cX11_judge 144 = .ok (.iload 4, 2) := by decide +kernel
theorem dX11_judge_146 : decode cX11_judge 146 = .ok (.invokevirtual 88, 3) := by decide +kernel
theorem dX11_judge_149 : decode cX11_judge 149 = .ok (.goto 126, 3) := by decide +kernel
theorem dX11_judge_152 : decode cX11_judge 152 = .ok (.iload 4, 2) := by decide +kernel
theorem dX11_judge_154 : decode cX11_judge 154 = .ok (.iconst 3, 1) := by decide +kernel
theorem dX11_judge_155 : decode cX11_judge 155 = .ok (.iadd, 1) := by decide +kernel
theorem dX11_judge_156 : decode cX11_judge 156 = .ok (.iload_n 1, 1) := by decide +kernel
theorem dX11_judge_157 : decode cX11_judge 157 = .ok (.if_icmp .gt 34, 3) := by decide +kernel
theorem dX11_judge_160 : decode cX11_judge 160 = .ok (.iload 4, 2) := by decide +kernel
theorem dX11_judge_162 : decode cX11_judge 162 = .ok (.iconst 3, 1) := by decide +kernel
theorem dX11_judge_163 : decode cX11_judge 163 = .ok (.iadd, 1) := by decide +kernel
theorem dX11_judge_164 : decode cX11_judge 164 = .ok (.aload_n 0, 1) := by decide +kernel
theorem dX11_judge_165 : decode cX11_judge 165 = .ok (.getfield 13, 3) := by decide +kernel
theorem dX11_judge_168 : decode cX11_judge 168 = .ok (.iload 4, 2) := by decide +kernel
theorem dX11_judge_170 : decode cX11_judge 170 = .ok (.iconst 1, 1) := by decide +kernel
theorem dX11_judge_171 : decode cX11_judge 171 = .ok (.iadd, 1) := by decide +kernel
theorem dX11_judge_172 : decode cX11_judge 172 = .ok (.iaload, 1) := by decide +kernel
theorem dX11_judge_173 : decode cX11_judge 173 = .ok (.bipush 8, 2) := by decide +kernel
theorem dX11_judge_175 : decode cX11_judge 175 = .ok (.ishl, 1) := by decide +kernel
theorem dX11_judge_176 : decode cX11_judge 176 = .ok (.aload_n 0, 1) := by decide +kernel
theorem dX11_judge_177 : decode cX11_judge 177 = .ok (.getfield 13, 3) := by decide +kernel
theorem dX11_judge_180 : decode cX11_judge 180 = .ok (.iload 4, 2) := by decide +kernel
theorem dX11_judge_182 : decode cX11_judge 182 = .ok (.iconst 2, 1) := by decide +kernel
theorem dX11_judge_183 : decode cX11_judge 183 = .ok (.iadd, 1) := by decide +kernel
theorem dX11_judge_184 : decode cX11_judge 184 = .ok (.iaload, 1) := by decide +kernel
theorem dX11_judge_185 : decode cX11_judge 185 = .ok (.ior, 1) := by decide +kernel
theorem dX11_judge_186 : decode cX11_judge 186 = .ok (.iadd, 1) := by decide +kernel
theorem dX11_judge_187 : decode cX11_judge 187 = .ok (.iload_n 1, 1) := by decide +kernel
theorem dX11_judge_188 : decode cX11_judge 188 = .ok (.if_icmp .le 13, 3) := by decide +kernel
theorem dX11_judge_191 : decode cX11_judge 191 = .ok (.aload_n 0, 1) := by decide +kernel
theorem dX11_judge_192 : decode cX11_judge 192 = .ok (.iconst 3, 1) := by decide +kernel
theorem dX11_judge_193 : decode cX11_judge 193 = .ok (.iload 4, 2) := by decide +kernel
theorem dX11_judge_195 : decode cX11_judge 195 = .ok (.invokevirtual 88, 3) := by decide +kernel
theorem dX11_judge_198 : decode cX11_judge 198 = .ok (.goto 77, 3) := by decide +kernel
theorem dX11_judge_201 : decode cX11_judge 201 = .ok (.aload_n 0, 1) := by decide +kernel
theorem dX11_judge_202 : decode cX11_judge 202 = .ok (.iload 4, 2) := by decide +kernel
theorem dX11_judge_204 : decode cX11_judge 204 = .ok (.iconst 3, 1) := by decide +kernel
theorem dX11_judge_205 : decode cX11_judge 205 = .ok (.iadd, 1) := by decide +kernel
theorem dX11_judge_206 : decode cX11_judge 206 = .ok (.putfield 82, 3) := by decide +kernel
theorem dX11_judge_209 : decode cX11_judge 209 = .ok (.aload_n 0, 1) := by decide +kernel
theorem dX11_judge_210 : decode cX11_judge 210 = .ok (.aload_n 0, 1) := by decide +kernel
theorem dX11_judge_211 : decode cX11_judge 211 = .ok (.getfield 82, 3) := by decide +kernel
theorem dX11_judge_214 : decode cX11_judge 214 = .ok (.aload_n 0, 1) := by decide +kernel
theorem dX11_judge_215 : decode cX11_judge 215 = .ok (.getfield 13, 3) := by decide +kernel
theorem dX11_judge_218 : decode cX11_judge 218 = .ok (.iload 4, 2) := by decide +kernel
theorem dX11_judge_220 : decode cX11_judge 220 = .ok (.iconst 1, 1) := by decide +kernel
theorem dX11_judge_221 : decode cX11_judge 221 = .ok (.iadd, 1) := by decide +kernel
theorem dX11_judge_222 : decode cX11_judge 222 = .ok (.iaload, 1) := by decide +kernel
theorem dX11_judge_223 : decode cX11_judge 223 = .ok (.bipush 8, 2) := by decide +kernel
theorem dX11_judge_225 : decode cX11_judge 225 = .ok (.ishl, 1) := by decide +kernel
theorem dX11_judge_226 : decode cX11_judge 226 = .ok (.aload_n 0, 1) := by decide +kernel
theorem dX11_judge_227 : decode cX11_judge 227 = .ok (.getfield 13, 3) := by decide +kernel
theorem dX11_judge_230 : decode cX11_judge 230 = .ok (.iload 4, 2) := by decide +kernel
theorem dX11_judge_232 : decode cX11_judge 232 = .ok (.iconst 2, 1) := by decide +kernel
theorem dX11_judge_233 : decode cX11_judge 233 = .ok (.iadd, 1) := by decide +kernel
theorem dX11_judge_234 : decode cX11_judge 234 = .ok (.iaload, 1) := by decide +kernel
theorem dX11_judge_235 : decode cX11_judge 235 = .ok (.ior, 1) := by decide +kernel
theorem dX11_judge_236 : decode cX11_judge 236 = .ok (.iadd, 1) := by decide +kernel
theorem dX11_judge_237 : decode cX11_judge 237 = .ok (.putfield 85, 3) := by decide +kernel
theorem dX11_judge_240 : decode cX11_judge 240 = .ok (.aload_n 0, 1) := by decide +kernel
theorem dX11_judge_241 : decode cX11_judge 241 = .ok (.iload 5, 2) := by decide +kernel
theorem dX11_judge_243 : decode cX11_judge 243 = .ok (.invokevirtual 99, 3) := by decide +kernel
theorem dX11_judge_246 : decode cX11_judge 246 = .ok (.aload_n 0, 1) := by decide +kernel
theorem dX11_judge_247 : decode cX11_judge 247 = .ok (.getfield 82, 3) := by decide +kernel
theorem dX11_judge_250 : decode cX11_judge 250 = .ok (.aload_n 0, 1) := by decide +kernel
theorem dX11_judge_251 : decode cX11_judge 251 = .ok (.getfield 85, 3) := by decide +kernel
theorem dX11_judge_254 : decode cX11_judge 254 = .ok (.if_icmp .ge 12, 3) := by decide +kernel
theorem dX11_judge_257 : decode cX11_judge 257 = .ok (.aload_n 0, 1) := by decide +kernel
theorem dX11_judge_258 : decode cX11_judge 258 = .ok (.iconst 4, 1) := by decide +kernel
theorem dX11_judge_259 : decode cX11_judge 259 = .ok (.aload_n 0, 1) := by decide +kernel
theorem dX11_judge_260 : decode cX11_judge 260 = .ok (.getfield 82, 3) := by decide +kernel
theorem dX11_judge_263 : decode cX11_judge 263 = .ok (.invokevirtual 88, 3) := by decide +kernel
theorem dX11_judge_266 : decode cX11_judge 266 = .ok (.aload_n 0, 1) := by decide +kernel
theorem dX11_judge_267 : decode cX11_judge 267 = .ok (.getfield 85, 3) := by decide +kernel
theorem dX11_judge_270 : decode cX11_judge 270 = .ok (.istore 4, 2) := by decide +kernel
theorem dX11_judge_272 : decode cX11_judge 272 = .ok (.iinc 3 1, 3) := by decide +kernel
theorem dX11_judge_275 : decode cX11_judge 275 = .ok (.goto (-183), 3) := by decide +kernel
theorem dX11_judge_278 : decode cX11_judge 278 = .ok (.iload_n 3, 1) := by decide +kernel
theorem dX11_judge_279 : decode cX11_judge 279 = .ok (.ireturn, 1) := by decide +kernel
theorem dX11_judgeBlock_0 : decode cX11_judgeBlock 0 = .ok (.iload_n 1, 1) := by decide +kernel
theorem dX11_judgeBlock_1 : decode cX11_judgeBlock 1 = .ok (.bipush 82, 2) := by decide +kernel
theorem dX11_judgeBlock_3 : decode cX11_judgeBlock 3 = .ok (.if_icmp .ne 10, 3) := by decide +kernel
theorem dX11_judgeBlock_6 : decode cX11_judgeBlock 6 = .ok (.aload_n 0, 1) := by decide +kernel
theorem dX11_judgeBlock_7 : decode cX11_judgeBlock 7 = .ok (.invokevirtual 103, 3) := by decide +kernel
theorem dX11_judgeBlock_10 : decode cX11_judgeBlock 10 = .ok (.goto 104, 3) := by decide +kernel
theorem dX11_judgeBlock_13 : decode cX11_judgeBlock 13 = .ok (.iload_n 1, 1) := by decide +kernel
theorem dX11_judgeBlock_14 : decode cX11_judgeBlock 14 = .ok (.bipush 83, 2) := by decide +kernel
theorem dX11_judgeBlock_16 : decode cX11_judgeBlock 16 = .ok (.if_icmp .ne 44, 3) := by decide +kernel
theorem dX11_judgeBlock_19 : decode cX11_judgeBlock 19 = .ok (.aload_n 0, 1) := by decide +kernel
theorem dX11_judgeBlock_20 : decode cX11_judgeBlock 20 = .ok (.iconst 1, 1) := by decide +kernel
theorem dX11_judgeBlock_21 : decode cX11_judgeBlock 21 = .ok (.bipush 60, 2) := by decide +kernel
theorem dX11_judgeBlock_23 : decode cX11_judgeBlock 23 = .ok (.invokevirtual 96, 3) := by decide +kernel
theorem dX11_judgeBlock_26 : decode cX11_judgeBlock 26 = .ok (.aload_n 0, 1) := by decide +kernel
theorem dX11_judgeBlock_27 : decode cX11_judgeBlock 27 = .ok (.iconst 0, 1) := by decide +kernel
theorem dX11_judgeBlock_28 : decode cX11_judgeBlock 28 = .ok (.sipush 255, 3) := by decide +kernel
theorem dX11_judgeBlock_31 : decode cX11_judgeBlock 31 = .ok (.invokevirtual 92, 3) := by decide +kernel
theorem dX11_judgeBlock_34 : decode cX11_judgeBlock 34 = .ok (.istore_n 2, 1) := by decide +kernel
theorem dX11_judgeBlock_35 : decode cX11_judgeBlock 35 = .ok (.aload_n 0, 1) := by decide +kernel
theorem dX11_judgeBlock_36 : decode cX11_judgeBlock 36 = .ok (.aload_n 0, 1) := by decide +kernel
theorem dX11_judgeBlock_37 : decode cX11_judgeBlock 37 = .ok (.getfield 76, 3) := by decide +kernel
theorem dX11_judgeBlock_40 : decode cX11_judgeBlock 40 = .ok (.ifCond .ne 10, 3) := by decide +kernel
theorem dX11_judgeBlock_43 : decode cX11_judgeBlock 43 = .ok (.aload_n 0, 1) := by decide +kernel
theorem dX11_judgeBlock_44 : decode cX11_judgeBlock 44 = .ok (.getfield 85, 3) := by decide +kernel
theorem dX11_judgeBlock_47 : decode cX11_judgeBlock 47 = .ok (.goto 7, 3) := by decide +kernel
theorem dX11_judgeBlock_50 : decode cX11_judgeBlock 50 = .ok (.aload_n 0, 1) := by decide +kernel
theorem dX11_judgeBlock_51 : decode cX11_judgeBlock 51 = .ok (.getfield 82, 3) := by decide +kernel
theorem dX11_judgeBlock_54 : decode cX11_judgeBlock 54 = .ok (.putfield 82, 3) := by decide +kernel
theorem dX11_judgeBlock_57 : decode cX11_judgeBlock 57 = .ok (.goto 57, 3) := by decide +kernel
theorem dX11_judgeBlock_60 : decode cX11_judgeBlock 60 = .ok (.iload_n 1, 1) := by decide +kernel
theorem dX11_judgeBlock_61 : decode cX11_judgeBlock 61 = .ok (.bipush 79, 2) := by decide +kernel
theorem dX11_judgeBlock_63 : decode cX11_judgeBlock 63 = .ok (.if_icmp .ne 10, 3) := by decide +kernel
theorem dX11_judgeBlock_66 : decode cX11_judgeBlock 66 = .ok (.aload_n 0, 1) := by decide +kernel
theorem dX11_judgeBlock_67 : decode cX11_judgeBlock 67 = .ok (.invokevirtual 106, 3) := by decide +kernel
theorem dX11_judgeBlock_70 : decode cX11_judgeBlock 70 = .ok (.goto 44, 3) := by decide +kernel
theorem dX11_judgeBlock_73 : decode cX11_judgeBlock 73 = .ok (.aload_n 0, 1) := by decide +kernel
theorem dX11_judgeBlock_74 : decode cX11_judgeBlock 74 = .ok (.iconst 3, 1) := by decide +kernel
theorem dX11_judgeBlock_75 : decode cX11_judgeBlock 75 = .ok (.bipush 12, 2) := by decide +kernel
theorem dX11_judgeBlock_77 : decode cX11_judgeBlock 77 = .ok (.invokevirtual 96, 3) := by decide +kernel
theorem dX11_judgeBlock_80 : decode cX11_judgeBlock 80 = .ok (.aload_n 0, 1) := by decide +kernel
theorem dX11_judgeBlock_81 : decode cX11_judgeBlock 81 = .ok (.iconst 0, 1) := by decide +kernel
theorem dX11_judgeBlock_82 : decode cX11_judgeBlock 82 = .ok (.bipush 20, 2) := by decide +kernel
theorem dX11_judgeBlock_84 : decode cX11_judgeBlock 84 = .ok (.invokevirtual 92, 3) := by decide +kernel
theorem dX11_judgeBlock_87 : decode cX11_judgeBlock 87 = .ok (.istore_n 2, 1) := by decide +kernel
theorem dX11_judgeBlock_88 : decode cX11_judgeBlock 88 = .ok (.aload_n 0, 1) := by decide +kernel
theorem dX11_judgeBlock_89 : decode cX11_judgeBlock 89 = .ok (.iconst 0, 1) := by decide +kernel
theorem dX11_judgeBlock_90 : decode cX11_judgeBlock 90 = .ok (.sipush 255, 3) := by decide +kernel
theorem dX11_judgeBlock_93 : decode cX11_judgeBlock 93 = .ok (.invokevirtual 92, 3) := by decide +kernel
theorem dX11_judgeBlock_96 : decode cX11_judgeBlock 96 = .ok (.istore_n 2, 1) := by decide +kernel
theorem dX11_judgeBlock_97 : decode cX11_judgeBlock 97 = .ok (.aload_n 0, 1) := by decide +kernel
theorem dX11_judgeBlock_98 : decode cX11_judgeBlock 98 = .ok (.iconst 0, 1) := by decide +kernel
theorem dX11_judgeBlock_99 : decode cX11_judgeBlock 99 = .ok (.sipush 255, 3) := by decide +kernel
theorem dX11_judgeBlock_102 : decode cX11_judgeBlock 102 = .ok (.invokevirtual 92, 3) := by decide +kernel
theorem dX11_judgeBlock_105 : decode cX11_judgeBlock 105 = .ok (.istore_n 2, 1) := by decide +kernel
theorem dX11_judgeBlock_106 : decode cX11_judgeBlock 106 = .ok (.aload_n 0, 1) := by decide +kernel
theorem dX11_judgeBlock_107 : decode cX11_judgeBlock 107 = .ok (.iconst 0, 1) := by decide +kernel
theorem dX11_judgeBlock_108 : decode cX11_judgeBlock 108 = .ok (.bipush 8, 2) := by decide +kernel
theorem dX11_judgeBlock_110 : decode cX11_judgeBlock 110 = .ok (.invokevirtual 92, 3) := by decide +kernel
theorem dX11_judgeBlock_113 : decode cX11_judgeBlock 113 = .ok (.istore_n 2, 1) := by decide +kernel
theorem dX11_judgeBlock_114 : decode cX11_judgeBlock 114 = .ok (.return_, 1) := by decide +kernel
theorem dX11_forget_0 : decode cX11_forget 0 = .ok (.iconst 0, 1) := by decide +kernel
theorem dX11_forget_1 : decode cX11_forget 1 = .ok (.istore_n 1, 1) := by decide +kernel
theorem dX11_forget_2 : decode cX11_forget 2 = .ok (.iload_n 1, 1) := by decide +kernel
theorem dX11_forget_3 : decode cX11_forget 3 = .ok (.bipush 21, 2) := by decide +kernel
theorem dX11_forget_5 : decode cX11_forget 5 = .ok (.if_icmp .ge 23, 3) := by decide +kernel
theorem dX11_forget_8 : decode cX11_forget 8 = .ok (.aload_n 0, 1) := by decide +kernel
theorem dX11_forget_9 : decode cX11_forget 9 = .ok (.getfield 20, 3) := by decide +kernel
theorem dX11_forget_12 : decode cX11_forget 12 = .ok (.iload_n 1, 1) := by decide +kernel
theorem dX11_forget_13 : decode cX11_forget 13 = .ok (.iconst 0, 1) := by decide +kernel
theorem dX11_forget_14 : decode cX11_forget 14 = .ok (.bastore, 1) := by decide +kernel
theorem dX11_forget_15 : decode cX11_forget 15 = .ok (.aload_n 0, 1) := by decide +kernel
theorem dX11_forget_16 : decode cX11_forget 16 = .ok (.getfield 24, 3) := by decide +kernel
theorem dX11_forget_19 : decode cX11_forget 19 = .ok (.iload_n 1, 1) := by decide +kernel
theorem dX11_forget_20 : decode cX11_forget 20 = .ok (.iconst 0, 1) := by decide +kernel
theorem dX11_forget_21 : decode cX11_forget 21 = .ok (.iastore, 1) := by decide +kernel
theorem dX11_forget_22 : decode cX11_forget 22 = .ok (.iinc 1 1, 3) := by decide +kernel
theorem dX11_forget_25 : decode cX11_forget 25 = .ok (.goto (-23), 3) := by decide +kernel
theorem dX11_forget_28 : decode cX11_forget 28 = .ok (.iconst 0, 1) := by decide +kernel
theorem dX11_forget_29 : decode cX11_forget 29 = .ok (.istore_n 1, 1) := by decide +kernel
theorem dX11_forget_30 : decode cX11_forget 30 = .ok (.iload_n 1, 1) := by decide +kernel
theorem dX11_forget_31 : decode cX11_forget 31 = .ok (.bipush 61, 2) := by decide +kernel
theorem dX11_forget_33 : decode cX11_forget 33 = .ok (.if_icmp .ge 16, 3) := by decide +kernel
theorem dX11_forget_36 : decode cX11_forget 36 = .ok (.aload_n 0, 1) := by decide +kernel
theorem dX11_forget_37 : decode cX11_forget 37 = .ok (.getfield 33, 3) := by decide +kernel
theorem dX11_forget_40 : decode cX11_forget 40 = .ok (.iload_n 1, 1) := by decide +kernel
theorem dX11_forget_41 : decode cX11_forget 41 = .ok (.iconst 0, 1) := by decide +kernel
theorem dX11_forget_42 : decode cX11_forget 42 = .ok (.iastore, 1) := by decide +kernel
theorem dX11_forget_43 : decode cX11_forget 43 = .ok (.iinc 1 1, 3) := by decide +kernel
theorem dX11_forget_46 : decode cX11_forget 46 = .ok (.goto (-16), 3) := by decide +kernel
theorem dX11_forget_49 : decode cX11_forget 49 = .ok (.iconst 0, 1) := by decide +kernel
theorem dX11_forget_50 : decode cX11_forget 50 = .ok (.istore_n 1, 1) := by decide +kernel
theorem dX11_forget_51 : decode cX11_forget 51 = .ok (.iload_n 1, 1) := by decide +kernel
theorem dX11_forget_52 : decode cX11_forget 52 = .ok (.bipush 61, 2) := by decide +kernel
theorem dX11_forget_54 : decode cX11_forget 54 = .ok (.if_icmp .ge 16, 3) := by decide +kernel
theorem dX11_forget_57 : decode cX11_forget 57 = .ok (.aload_n 0, 1) := by decide +kernel
theorem dX11_forget_58 : decode cX11_forget 58 = .ok (.getfield 36, 3) := by decide +kernel
theorem dX11_forget_61 : decode cX11_forget 61 = .ok (.iload_n 1, 1) := by decide +kernel
theorem dX11_forget_62 : decode cX11_forget 62 = .ok (.iconst 0, 1) := by decide +kernel
theorem dX11_forget_63 : decode cX11_forget 63 = .ok (.bastore, 1) := by decide +kernel
theorem dX11_forget_64 : decode cX11_forget 64 = .ok (.iinc 1 1, 3) := by decide +kernel
theorem dX11_forget_67 : decode cX11_forget 67 = .ok (.goto (-16), 3) := by decide +kernel
theorem dX11_forget_70 : decode cX11_forget 70 = .ok (.iconst 0, 1) := by decide +kernel
theorem dX11_forget_71 : decode cX11_forget 71 = .ok (.istore_n 1, 1) := by decide +kernel
theorem dX11_forget_72 : decode cX11_forget 72 = .ok (.iload_n 1, 1) := by decide +kernel
theorem dX11_forget_73 : decode cX11_forget 73 = .ok (.bipush 13, 2) := by decide +kernel
theorem dX11_forget_75 : decode cX11_forget 75 = .ok (.if_icmp .ge 16, 3) := by decide +kernel
theorem dX11_forget_78 : decode cX11_forget 78 = .ok (.aload_n 0, 1) := by decide +kernel
theorem dX11_forget_79 : decode cX11_forget 79 = .ok (.getfield 48, 3) := by decide +kernel
theorem dX11_forget_82 : decode cX11_forget 82 = .ok (.iload_n 1, 1) := by decide +kernel
theorem dX11_forget_83 : decode cX11_forget 83 = .ok (.iconst 0, 1) := by decide +kernel
theorem dX11_forget_84 : decode cX11_forget 84 = .ok (.bastore, 1) := by decide +kernel
theorem dX11_forget_85 : decode cX11_forget 85 = .ok (.iinc 1 1, 3) := by decide +kernel
theorem dX11_forget_88 : decode cX11_forget 88 = .ok (.goto (-16), 3) := by decide +kernel
theorem dX11_forget_91 : decode cX11_forget 91 = .ok (.aload_n 0, 1) := by decide +kernel
theorem dX11_forget_92 : decode cX11_forget 92 = .ok (.iconst 0, 1) := by decide +kernel
theorem dX11_forget_93 : decode cX11_forget 93 = .ok (.putfield 109, 3) := by decide +kernel
theorem dX11_forget_96 : decode cX11_forget 96 = .ok (.aload_n 0, 1) := by decide +kernel
theorem dX11_forget_97 : decode cX11_forget 97 = .ok (.iconst 0, 1) := by decide +kernel
theorem dX11_forget_98 : decode cX11_forget 98 = .ok (.putfield 112, 3) := by decide +kernel
theorem dX11_forget_101 : decode cX11_forget 101 = .ok (.aload_n 0, 1) := by decide +kernel
theorem dX11_forget_102 : decode cX11_forget 102 = .ok (.iconst 0, 1) := by decide +kernel
theorem dX11_forget_103 : decode cX11_forget 103 = .ok (.putfield 115, 3) := by decide +kernel
theorem dX11_forget_106 : decode cX11_forget 106 = .ok (.aload_n 0, 1) := by decide +kernel
theorem dX11_forget_107 : decode cX11_forget 107 = .ok (.iconst 0, 1) := by decide +kernel
theorem dX11_forget_108 : decode cX11_forget 108 = .ok (.putfield 118, 3) := by decide +kernel
theorem dX11_forget_111 : decode cX11_forget 111 = .ok (.iconst 0, 1) := by decide +kernel
theorem dX11_forget_112 : decode cX11_forget 112 = .ok (.istore_n 1, 1) := by decide +kernel
theorem dX11_forget_113 : decode cX11_forget 113 = .ok (.iload_n 1, 1) := by decide +kernel
theorem dX11_forget_114 : decode cX11_forget 114 = .ok (.sipush 781, 3) := by decide +kernel
theorem dX11_forget_117 : decode cX11_forget 117 = .ok (.if_icmp .ge 16, 3) := by decide +kernel
theorem dX11_forget_120 : decode cX11_forget 120 = .ok (.aload_n 0, 1) := by decide +kernel
theorem dX11_forget_121 : decode cX11_forget 121 = .ok (.getfield 57, 3) := by decide +kernel
theorem dX11_forget_124 : decode cX11_forget 124 = .ok (.iload_n 1, 1) := by decide +kernel
theorem dX11_forget_125 : decode cX11_forget 125 = .ok (.iconst 0, 1) := by decide +kernel
theorem dX11_forget_126 : decode cX11_forget 126 = .ok (.iastore, 1) := by decide +kernel
theorem dX11_forget_127 : decode cX11_forget 127 = .ok (.iinc 1 1, 3) := by decide +kernel
theorem dX11_forget_130 : decode cX11_forget 130 = .ok (.goto (-17), 3) := by decide +kernel
theorem dX11_forget_133 : decode cX11_forget 133 = .ok (.aload_n 0, 1) := by decide +kernel
theorem dX11_forget_134 : decode cX11_forget 134 = .ok (.getfield 57, 3) := by decide +kernel
theorem dX11_forget_137 : decode cX11_forget 137 = .ok (.iconst 1, 1) := by decide +kernel
theorem dX11_forget_138 : decode cX11_forget 138 = .ok (.iconst 1, 1) := by decide +kernel
theorem dX11_forget_139 : decode cX11_forget 139 = .ok (.iastore, 1) := by decide +kernel
theorem dX11_forget_140 : decode cX11_forget 140 = .ok (.aload_n 0, 1) := by decide +kernel
theorem dX11_forget_141 : decode cX11_forget 141 = .ok (.iconst 0, 1) := by decide +kernel
theorem dX11_forget_142 : decode cX11_forget 142 = .ok (.putfield 121, 3) := by decide +kernel
theorem dX11_forget_145 : decode cX11_forget 145 = .ok (.return_, 1) := by decide +kernel
theorem dX11_load_0 : decode cX11_load 0 = .ok (.iload_n 1, 1) := by decide +kernel
theorem dX11_load_1 : decode cX11_load 1 = .ok (.iconst 3, 1) := by decide +kernel
theorem dX11_load_2 : decode cX11_load 2 = .ok (.iadd, 1) := by decide +kernel
theorem dX11_load_3 : decode cX11_load 3 = .ok (.istore_n 2, 1) := by decide +kernel
theorem dX11_load_4 : decode cX11_load 4 = .ok (.aload_n 0, 1) := by decide +kernel
theorem dX11_load_5 : decode cX11_load 5 = .ok (.getfield 17, 3) := by decide +kernel
theorem dX11_load_8 : decode cX11_load 8 = .ok (.iload_n 1, 1) := by decide +kernel
theorem dX11_load_9 : decode cX11_load 9 = .ok (.iconst 1, 1) := by decide +kernel
theorem dX11_load_10 : decode cX11_load 10 = .ok (.iadd, 1) := by decide +kernel
theorem dX11_load_11 : decode cX11_load 11 = .ok (.iaload, 1) := by decide +kernel
theorem dX11_load_12 : decode cX11_load 12 = .ok (.bipush 8, 2) := by decide +kernel
theorem dX11_load_14 : decode cX11_load 14 = .ok (.ishl, 1) := by decide +kernel
theorem dX11_load_15 : decode cX11_load 15 = .ok (.aload_n 0, 1) := by decide +kernel
theorem dX11_load_16 : decode cX11_load 16 = .ok (.getfield 17, 3) := by decide +kernel
theorem dX11_load_19 : decode cX11_load 19 = .ok (.iload_n 1, 1) := by decide +kernel
theorem dX11_load_20 : decode cX11_load 20 = .ok (.iconst 2, 1) := by decide +kernel
theorem dX11_load_21 : decode cX11_load 21 = .ok (.iadd, 1) := by decide +kernel
theorem dX11_load_22 : decode cX11_load 22 = .ok (.iaload, 1) := by decide +kernel
theorem dX11_load_23 : decode cX11_load 23 = .ok (.ior, 1) := by decide +kernel
theorem dX11_load_24 : decode cX11_load 24 = .ok (.istore_n 3, 1) := by decide +kernel
theorem dX11_load_25 : decode cX11_load 25 = .ok (.aload_n 0, 1) := by decide +kernel
theorem dX11_load_26 : decode cX11_load 26 = .ok (.getfield 17, 3) := by decide +kernel
theorem dX11_load_29 : decode cX11_load 29 = .ok (.iload_n 2, 1) := by decide +kernel
theorem dX11_load_30 : decode cX11_load 30 = .ok (.iaload, 1) := by decide +kernel
theorem dX11_load_31 : decode cX11_load 31 = .ok (.istore 4, 2) := by decide +kernel
theorem dX11_load_33 : decode cX11_load 33 = .ok (.aload_n 0, 1) := by decide +kernel
theorem dX11_load_34 : decode cX11_load 34 = .ok (.getfield 17, 3) := by decide +kernel
theorem dX11_load_37 : decode cX11_load 37 = .ok (.iload_n 1, 1) := by decide +kernel
theorem dX11_load_38 : decode cX11_load 38 = .ok (.iaload, 1) := by decide +kernel
theorem dX11_load_39 : decode cX11_load 39 = .ok (.tableswitch 303 79 83 #[203, 303, 303, 33, 170], 33) := by decide +kernel
theorem dX11_load_72 : decode cX11_load 72 = .ok (.aload_n 0, 1) := by decide +kernel
theorem dX11_load_73 : decode cX11_load 73 = .ok (.dup, 1) := by decide +kernel
theorem dX11_load_74 : decode cX11_load 74 = .ok (.getfield 109, 3) := by decide +kernel
theorem dX11_load_77 : decode cX11_load 77 = .ok (.iconst 1, 1) := by decide +kernel
theorem dX11_load_78 : decode cX11_load 78 = .ok (.iadd, 1) := by decide +kernel
theorem dX11_load_79 : decode cX11_load 79 = .ok (.putfield 109, 3) := by decide +kernel
theorem dX11_load_82 : decode cX11_load 82 = .ok (.aload_n 0, 1) := by decide +kernel
theorem dX11_load_83 : decode cX11_load 83 = .ok (.getfield 20, 3) := by decide +kernel
theorem dX11_load_86 : decode cX11_load 86 = .ok (.iload 4, 2) := by decide +kernel
theorem dX11_load_88 : decode cX11_load 88 = .ok (.iconst 1, 1) := by decide +kernel
theorem dX11_load_89 : decode cX11_load 89 = .ok (.bastore, 1) := by decide +kernel
theorem dX11_load_90 : decode cX11_load 90 = .ok (.aload_n 0, 1) := by decide +kernel
theorem dX11_load_91 : decode cX11_load 91 = .ok (.getfield 24, 3) := by decide +kernel
theorem dX11_load_94 : decode cX11_load 94 = .ok (.iload 4, 2) := by decide +kernel
theorem dX11_load_96 : decode cX11_load 96 = .ok (.aload_n 0, 1) := by decide +kernel
theorem dX11_load_97 : decode cX11_load 97 = .ok (.getfield 17, 3) := by decide +kernel
theorem dX11_load_100 : decode cX11_load 100 = .ok (.iload_n 2, 1) := by decide +kernel
theorem dX11_load_101 : decode cX11_load 101 = .ok (.iconst 1, 1) := by decide +kernel
theorem dX11_load_102 : decode cX11_load 102 = .ok (.iadd, 1) := by decide +kernel
theorem dX11_load_103 : decode cX11_load 103 = .ok (.iaload, 1) := by decide +kernel
theorem dX11_load_104 : decode cX11_load 104 = .ok (.iastore, 1) := by decide +kernel
theorem dX11_load_105 : decode cX11_load 105 = .ok (.iconst 0, 1) := by decide +kernel
theorem dX11_load_106 : decode cX11_load 106 = .ok (.istore 5, 2) := by decide +kernel
theorem dX11_load_108 : decode cX11_load 108 = .ok (.iload 5, 2) := by decide +kernel
theorem dX11_load_110 : decode cX11_load 110 = .ok (.aload_n 0, 1) := by decide +kernel
theorem dX11_load_111 : decode cX11_load 111 = .ok (.getfield 24, 3) := by decide +kernel
theorem dX11_load_114 : decode cX11_load 114 = .ok (.iload 4, 2) := by decide +kernel
theorem dX11_load_116 : decode cX11_load 116 = .ok (.iaload, 1) := by decide +kernel
theorem dX11_load_117 : decode cX11_load 117 = .ok (.if_icmp .ge 89, 3) := by decide +kernel
theorem dX11_load_120 : decode cX11_load 120 = .ok (.iconst 0, 1) := by decide +kernel
theorem dX11_load_121 : decode cX11_load 121 = .ok (.istore 6, 2) := by decide +kernel
theorem dX11_load_123 : decode cX11_load 123 = .ok (.iload 6, 2) := by decide +kernel
theorem dX11_load_125 : decode cX11_load 125 = .ok (.iconst 4, 1) := by decide +kernel
theorem dX11_load_126 : decode cX11_load 126 = .ok (.if_icmp .ge 43, 3) := by decide +kernel
theorem dX11_load_129 : decode cX11_load 129 = .ok (.aload_n 0, 1) := by decide +kernel
theorem dX11_load_130 : decode cX11_load 130 = .ok (.getfield 27, 3) := by decide +kernel
theorem dX11_load_133 : decode cX11_load 133 = .ok (.iload 4, 2) := by decide +kernel
theorem dX11_load_135 : decode cX11_load 135 = .ok (.bipush 16, 2) := by decide +kernel
theorem dX11_load_137 : decode cX11_load 137 = .ok (.imul, 1) := by decide +kernel
theorem dX11_load_138 : decode cX11_load 138 = .ok (.iload 5, 2) := by decide +kernel
theorem dX11_load_140 : decode cX11_load 140 = .ok (.iadd, 1) := by decide +kernel
theorem dX11_load_141 : decode cX11_load 141 = .ok (.iconst 4, 1) := by decide +kernel
theorem dX11_load_142 : decode cX11_load 142 = .ok (.imul, 1) := by decide +kernel
theorem dX11_load_143 : decode cX11_load 143 = .ok (.iload 6, 2) := by decide +kernel
theorem dX11_load_145 : decode cX11_load 145 = .ok (.iadd, 1) := by decide +kernel
theorem dX11_load_146 : decode cX11_load 146 = .ok (.aload_n 0, 1) := by decide +kernel
theorem dX11_load_147 : decode cX11_load 147 = .ok (.getfield 17, 3) := by decide +kernel
theorem dX11_load_150 : decode cX11_load 150 = .ok (.iload_n 2, 1) := by decide +kernel
theorem dX11_load_151 : decode cX11_load 151 = .ok (.iconst 2, 1) := by decide +kernel
theorem dX11_load_152 : decode cX11_load 152 = .ok (.iadd, 1) := by decide +kernel
theorem dX11_load_153 : decode cX11_load 153 = .ok (.iconst 5, 1) := by decide +kernel
theorem dX11_load_154 : decode cX11_load 154 = .ok (.iload 5, 2) := by decide +kernel
theorem dX11_load_156 : decode cX11_load 156 = .ok (.imul, 1) := by decide +kernel
theorem dX11_load_157 : decode cX11_load 157 = .ok (.iadd, 1) := by decide +kernel
theorem dX11_load_158 : decode cX11_load 158 = .ok (.iload 6, 2) := by decide +kernel
theorem dX11_load_160 : decode cX11_load 160 = .ok (.iadd, 1) := by decide +kernel
theorem dX11_load_161 : decode cX11_load 161 = .ok (.iaload, 1) := by decide +kernel
theorem dX11_load_162 : decode cX11_load 162 = .ok (.iastore, 1) := by decide +kernel
theorem dX11_load_163 : decode cX11_load 163 = .ok (.iinc 6 1, 3) := by decide +kernel
theorem dX11_load_166 : decode cX11_load 166 = .ok (.goto (-43), 3) := by decide +kernel
theorem dX11_load_169 : decode cX11_load 169 = .ok (.aload_n 0, 1) := by decide +kernel
theorem dX11_load_170 : decode cX11_load 170 = .ok (.getfield 57, 3) := by decide +kernel
theorem dX11_load_173 : decode cX11_load 173 = .ok (.sipush 445, 3) := by decide +kernel
theorem dX11_load_176 : decode cX11_load 176 = .ok (.iload 4, 2) := by decide +kernel
theorem dX11_load_178 : decode cX11_load 178 = .ok (.bipush 16, 2) := by decide +kernel
theorem dX11_load_180 : decode cX11_load 180 = .ok (.imul, 1) := by decide +kernel
theorem dX11_load_181 : decode cX11_load 181 = .ok (.iadd, 1) := by decide +kernel
theorem dX11_load_182 : decode cX11_load 182 = .ok (.iload 5, 2) := by decide +kernel
theorem dX11_load_184 : decode cX11_load 184 = .ok (.iadd, 1) := by decide +kernel
theorem dX11_load_185 : decode cX11_load 185 = .ok (.aload_n 0, 1) := by decide +kernel
theorem dX11_load_186 : decode cX11_load 186 = .ok (.getfield 17, 3) := by decide +kernel
theorem dX11_load_189 : decode cX11_load 189 = .ok (.iload_n 2, 1) := by decide +kernel
theorem dX11_load_190 : decode cX11_load 190 = .ok (.bipush 6, 2) := by decide +kernel
theorem dX11_load_192 : decode cX11_load 192 = .ok (.iadd, 1) := by decide +kernel
theorem dX11_load_193 : decode cX11_load 193 = .ok (.iconst 5, 1) := by decide +kernel
theorem dX11_load_194 : decode cX11_load 194 = .ok (.iload 5, 2) := by decide +kernel
theorem dX11_load_196 : decode cX11_load 196 = .ok (.imul, 1) := by decide +kernel
theorem dX11_load_197 : decode cX11_load 197 = .ok (.iadd, 1) := by decide +kernel
theorem dX11_load_198 : decode cX11_load 198 = .ok (.iaload, 1) := by decide +kernel
theorem dX11_load_199 : decode cX11_load 199 = .ok (.iastore, 1) := by decide +kernel
theorem dX11_load_200 : decode cX11_load 200 = .ok (.iinc 5 1, 3) := by decide +kernel
theorem dX11_load_203 : decode cX11_load 203 = .ok (.goto (-95), 3) := by decide +kernel
theorem dX11_load_206 : decode cX11_load 206 = .ok (.goto 197, 3) := by decide +kernel
theorem dX11_load_209 : decode cX11_load 209 = .ok (.aload_n 0, 1) := by decide +kernel
theorem dX11_load_210 : decode cX11_load 210 = .ok (.dup, 1) := by decide +kernel
theorem dX11_load_211 : decode cX11_load 211 = .ok (.getfield 112, 3) := by decide +kernel
theorem dX11_load_214 : decode cX11_load 214 = .ok (.iconst 1, 1) := by decide +kernel
theorem dX11_load_215 : decode cX11_load 215 = .ok (.iadd, 1) := by decide +kernel
theorem dX11_load_216 : decode cX11_load 216 = .ok (.putfield 112, 3) := by decide +kernel
theorem dX11_load_219 : decode cX11_load 219 = .ok (.aload_n 0, 1) := by decide +kernel
theorem dX11_load_220 : decode cX11_load 220 = .ok (.getfield 30, 3) := by decide +kernel
theorem dX11_load_223 : decode cX11_load 223 = .ok (.iload 4, 2) := by decide +kernel
theorem dX11_load_225 : decode cX11_load 225 = .ok (.iload_n 2, 1) := by decide +kernel
theorem dX11_load_226 : decode cX11_load 226 = .ok (.iconst 1, 1) := by decide +kernel
theorem dX11_load_227 : decode cX11_load 227 = .ok (.iadd, 1) := by decide +kernel
theorem dX11_load_228 : decode cX11_load 228 = .ok (.iastore, 1) := by decide +kernel
theorem dX11_load_229 : decode cX11_load 229 = .ok (.aload_n 0, 1) := by decide +kernel
theorem dX11_load_230 : decode cX11_load 230 = .ok (.getfield 33, 3) := by decide +kernel
theorem dX11_load_233 : decode cX11_load 233 = .ok (.iload 4, 2) := by decide +kernel
theorem dX11_load_235 : decode cX11_load 235 = .ok (.iload_n 3, 1) := by decide +kernel
theorem dX11_load_236 : decode cX11_load 236 = .ok (.iconst 1, 1) := by decide +kernel
theorem dX11_load_237 : decode cX11_load 237 = .ok (.isub, 1) := by decide +kernel
theorem dX11_load_238 : decode cX11_load 238 = .ok (.iastore, 1) := by decide +kernel
theorem dX11_load_239 : decode cX11_load 239 = .ok (.goto 164, 3) := by decide +kernel
theorem dX11_load_242 : decode cX11_load 242 = .ok (.aload_n 0, 1) := by decide +kernel
theorem dX11_load_243 : decode cX11_load 243 = .ok (.dup, 1) := by decide +kernel
theorem dX11_load_244 : decode cX11_load 244 = .ok (.getfield 115, 3) := by decide +kernel
theorem dX11_load_247 : decode cX11_load 247 = .ok (.iconst 1, 1) := by decide +kernel
theorem dX11_load_248 : decode cX11_load 248 = .ok (.iadd, 1) := by decide +kernel
theorem dX11_load_249 : decode cX11_load 249 = .ok (.putfield 115, 3) := by decide +kernel
theorem dX11_load_252 : decode cX11_load 252 = .ok (.aload_n 0, 1) := by decide +kernel
theorem dX11_load_253 : decode cX11_load 253 = .ok (.getfield 36, 3) := by decide +kernel
theorem dX11_load_256 : decode cX11_load 256 = .ok (.iload 4, 2) := by decide +kernel
theorem dX11_load_258 : decode cX11_load 258 = .ok (.iconst 1, 1) := by decide +kernel
theorem dX11_load_259 : decode cX11_load 259 = .ok (.bastore, 1) := by decide +kernel
theorem dX11_load_260 : decode cX11_load 260 = .ok (.iconst 0, 1) := by decide +kernel
theorem dX11_load_261 : decode cX11_load 261 = .ok (.istore 5, 2) := by decide +kernel
theorem dX11_load_263 : decode cX11_load 263 = .ok (.iload 5, 2) := by decide +kernel
theorem dX11_load_265 : decode cX11_load 265 = .ok (.iconst 3, 1) := by decide +kernel
theorem dX11_load_266 : decode cX11_load 266 = .ok (.if_icmp .ge 32, 3) := by decide +kernel
theorem dX11_load_269 : decode cX11_load 269 = .ok (.aload_n 0, 1) := by decide +kernel
theorem dX11_load_270 : decode cX11_load 270 = .ok (.getfield 39, 3) := by decide +kernel
theorem dX11_load_273 : decode cX11_load 273 = .ok (.iconst 3, 1) := by decide +kernel
theorem dX11_load_274 : decode cX11_load 274 = .ok (.iload 4, 2) := by decide +kernel
theorem dX11_load_276 : decode cX11_load 276 = .ok (.imul, 1) := by decide +kernel
theorem dX11_load_277 : decode cX11_load 277 = .ok (.iload 5, 2) := by decide +kernel
theorem dX11_load_279 : decode cX11_load 279 = .ok (.iadd, 1) := by decide +kernel
theorem dX11_load_280 : decode cX11_load 280 = .ok (.aload_n 0, 1) := by decide +kernel
theorem dX11_load_281 : decode cX11_load 281 = .ok (.getfield 17, 3) := by decide +kernel
theorem dX11_load_284 : decode cX11_load 284 = .ok (.iload_n 2, 1) := by decide +kernel
theorem dX11_load_285 : decode cX11_load 285 = .ok (.iconst 1, 1) := by decide +kernel
theorem dX11_load_286 : decode cX11_load 286 = .ok (.iadd, 1) := by decide +kernel
theorem dX11_load_287 : decode cX11_load 287 = .ok (.iload 5, 2) := by decide +kernel
theorem dX11_load_289 : decode cX11_load 289 = .ok (.iadd, 1) := by decide +kernel
theorem dX11_load_290 : decode cX11_load 290 = .ok (.iaload, 1) := by decide +kernel
theorem dX11_load_291 : decode cX11_load 291 = .ok (.iastore, 1) := by decide +kernel
theorem dX11_load_292 : decode cX11_load 292 = .ok (.iinc 5 1, 3) := by decide +kernel
theorem dX11_load_295 : decode cX11_load 295 = .ok (.goto (-32), 3) := by decide +kernel
theorem dX11_load_298 : decode cX11_load 298 = .ok (.aload_n 0, 1) := by decide +kernel
theorem dX11_load_299 : decode cX11_load 299 = .ok (.getfield 57, 3) := by decide +kernel
theorem dX11_load_302 : decode cX11_load 302 = .ok (.sipush 323, 3) := by decide +kernel
theorem dX11_load_305 : decode cX11_load 305 = .ok (.iload 4, 2) := by decide +kernel
theorem dX11_load_307 : decode cX11_load 307 = .ok (.iadd, 1) := by decide +kernel
theorem dX11_load_308 : decode cX11_load 308 = .ok (.aload_n 0, 1) := by decide +kernel
theorem dX11_load_309 : decode cX11_load 309 = .ok (.getfield 17, 3) := by decide +kernel
theorem dX11_load_312 : decode cX11_load 312 = .ok (.iload_n 2, 1) := by decide +kernel
theorem dX11_load_313 : decode cX11_load 313 = .ok (.iconst 4, 1) := by decide +kernel
theorem dX11_load_314 : decode cX11_load 314 = .ok (.iadd, 1) := by decide +kernel
theorem dX11_load_315 : decode cX11_load 315 = .ok (.iaload, 1) := by decide +kernel
theorem dX11_load_316 : decode cX11_load 316 = .ok (.iastore, 1) := by decide +kernel
theorem dX11_load_317 : decode cX11_load 317 = .ok (.aload_n 0, 1) := by decide +kernel
theorem dX11_load_318 : decode cX11_load 318 = .ok (.getfield 42, 3) := by decide +kernel
theorem dX11_load_321 : decode cX11_load 321 = .ok (.iload 4, 2) := by decide +kernel
theorem dX11_load_323 : decode cX11_load 323 = .ok (.iload_n 2, 1) := by decide +kernel
theorem dX11_load_324 : decode cX11_load 324 = .ok (.iconst 5, 1) := by decide +kernel
theorem dX11_load_325 : decode cX11_load 325 = .ok (.iadd, 1) := by decide +kernel
theorem dX11_load_326 : decode cX11_load 326 = .ok (.iastore, 1) := by decide +kernel
theorem dX11_load_327 : decode cX11_load 327 = .ok (.aload_n 0, 1) := by decide +kernel
theorem dX11_load_328 : decode cX11_load 328 = .ok (.getfield 45, 3) := by decide +kernel
theorem dX11_load_331 : decode cX11_load 331 = .ok (.iload 4, 2) := by decide +kernel
theorem dX11_load_333 : decode cX11_load 333 = .ok (.iload_n 3, 1) := by decide +kernel
theorem dX11_load_334 : decode cX11_load 334 = .ok (.iconst 5, 1) := by decide +kernel
theorem dX11_load_335 : decode cX11_load 335 = .ok (.isub, 1) := by decide +kernel
theorem dX11_load_336 : decode cX11_load 336 = .ok (.iconst 2, 1) := by decide +kernel
theorem dX11_load_337 : decode cX11_load 337 = .ok (.idiv, 1) := by decide +kernel
theorem dX11_load_338 : decode cX11_load 338 = .ok (.iastore, 1) := by decide +kernel
theorem dX11_load_339 : decode cX11_load 339 = .ok (.goto 64, 3) := by decide +kernel
theorem dX11_load_342 : decode cX11_load 342 = .ok (.aload_n 0, 1) := by decide +kernel
theorem dX11_load_343 : decode cX11_load 343 = .ok (.dup, 1) := by decide +kernel
theorem dX11_load_344 : decode cX11_load 344 = .ok (.getfield 118, 3) := by decide +kernel
theorem dX11_load_347 : decode cX11_load 347 = .ok (.iconst 1, 1) := by decide +kernel
theorem dX11_load_348 : decode cX11_load 348 = .ok (.iadd, 1) := by decide +kernel
theorem dX11_load_349 : decode cX11_load 349 = .ok (.putfield 118, 3) := by decide +kernel
theorem dX11_load_352 : decode cX11_load 352 = .ok (.aload_n 0, 1) := by decide +kernel
theorem dX11_load_353 : decode cX11_load 353 = .ok (.getfield 48, 3) := by decide +kernel
theorem dX11_load_356 : decode cX11_load 356 = .ok (.iload 4, 2) := by decide +kernel
theorem dX11_load_358 : decode cX11_load 358 = .ok (.iconst 1, 1) := by decide +kernel
theorem dX11_load_359 : decode cX11_load 359 = .ok (.bastore, 1) := by decide +kernel
theorem dX11_load_360 : decode cX11_load 360 = .ok (.iconst 0, 1) := by decide +kernel
theorem dX11_load_361 : decode cX11_load 361 = .ok (.istore 5, 2) := by decide +kernel
theorem dX11_load_363 : decode cX11_load 363 = .ok (.iload 5, 2) := by decide +kernel
theorem dX11_load_365 : decode cX11_load 365 = .ok (.iconst 4, 1) := by decide +kernel
theorem dX11_load_366 : decode cX11_load 366 = .ok (.if_icmp .ge 37, 3) := by decide +kernel
theorem dX11_load_369 : decode cX11_load 369 = .ok (.aload_n 0, 1) := by decide +kernel
theorem dX11_load_370 : decode cX11_load 370 = .ok (.getfield 57, 3) := by decide +kernel
theorem dX11_load_373 : decode cX11_load 373 = .ok (.sipush 232, 3) := by decide +kernel
theorem dX11_load_376 : decode cX11_load 376 = .ok (.bipush 7, 2) := by decide +kernel
theorem dX11_load_378 : decode cX11_load 378 = .ok (.iload 4, 2) := by decide +kernel
theorem dX11_load_380 : decode cX11_load 380 = .ok (.imul, 1) := by decide +kernel
theorem dX11_load_381 : decode cX11_load 381 = .ok (.iadd, 1) := by decide +kernel
theorem dX11_load_382 : decode cX11_load 382 = .ok (.iload 5, 2) := by decide +kernel
theorem dX11_load_384 : decode cX11_load 384 = .ok (.iadd, 1) := by decide +kernel
theorem dX11_load_385 : decode cX11_load 385 = .ok (.aload_n 0, 1) := by decide +kernel
theorem dX11_load_386 : decode cX11_load 386 = .ok (.getfield 17, 3) := by decide +kernel
theorem dX11_load_389 : decode cX11_load 389 = .ok (.iload_n 2, 1) := by decide +kernel
theorem dX11_load_390 : decode cX11_load 390 = .ok (.iconst 1, 1) := by decide +kernel
theorem dX11_load_391 : decode cX11_load 391 = .ok (.iadd, 1) := by decide +kernel
theorem dX11_load_392 : decode cX11_load 392 = .ok (.iload 5, 2) := by decide +kernel
theorem dX11_load_394 : decode cX11_load 394 = .ok (.iadd, 1) := by decide +kernel
theorem dX11_load_395 : decode cX11_load 395 = .ok (.iaload, 1) := by decide +kernel
theorem dX11_load_396 : decode cX11_load 396 = .ok (.iastore, 1) := by decide +kernel
theorem dX11_load_397 : decode cX11_load 397 = .ok (.iinc 5 1, 3) := by decide +kernel
theorem dX11_load_400 : decode cX11_load 400 = .ok (.goto (-37), 3) := by decide +kernel
theorem dX11_load_403 : decode cX11_load 403 = .ok (.return_, 1) := by decide +kernel
theorem dX11_play_0 : decode cX11_play 0 = .ok (.aload_n 0, 1) := by decide +kernel
theorem dX11_play_1 : decode cX11_play 1 = .ok (.iconst 0, 1) := by decide +kernel
theorem dX11_play_2 : decode cX11_play 2 = .ok (.putfield 3, 3) := by decide +kernel
theorem dX11_play_5 : decode cX11_play 5 = .ok (.aload_n 0, 1) := by decide +kernel
theorem dX11_play_6 : decode cX11_play 6 = .ok (.getfield 69, 3) := by decide +kernel
theorem dX11_play_9 : decode cX11_play 9 = .ok (.istore_n 1, 1) := by decide +kernel
theorem dX11_play_10 : decode cX11_play 10 = .ok (.aload_n 0, 1) := by decide +kernel
theorem dX11_play_11 : decode cX11_play 11 = .ok (.iconst 0, 1) := by decide +kernel
theorem dX11_play_12 : decode cX11_play 12 = .ok (.putfield 69, 3) := by decide +kernel
theorem dX11_play_15 : decode cX11_play 15 = .ok (.aload_n 0, 1) := by decide +kernel
theorem dX11_play_16 : decode cX11_play 16 = .ok (.iload_n 1, 1) := by decide +kernel
theorem dX11_play_17 : decode cX11_play 17 = .ok (.invokevirtual 125, 3) := by decide +kernel
theorem dX11_play_20 : decode cX11_play 20 = .ok (.istore_n 2, 1) := by decide +kernel
theorem dX11_play_21 : decode cX11_play 21 = .ok (.aload_n 0, 1) := by decide +kernel
theorem dX11_play_22 : decode cX11_play 22 = .ok (.aload_n 0, 1) := by decide +kernel
theorem dX11_play_23 : decode cX11_play 23 = .ok (.getfield 76, 3) := by decide +kernel
theorem dX11_play_26 : decode cX11_play 26 = .ok (.putfield 129, 3) := by decide +kernel
theorem dX11_play_29 : decode cX11_play 29 = .ok (.aload_n 0, 1) := by decide +kernel
theorem dX11_play_30 : decode cX11_play 30 = .ok (.aload_n 0, 1) := by decide +kernel
theorem dX11_play_31 : decode cX11_play 31 = .ok (.getfield 76, 3) := by decide +kernel
theorem dX11_play_34 : decode cX11_play 34 = .ok (.ifCond .ne 7, 3) := by decide +kernel
theorem dX11_play_37 : decode cX11_play 37 = .ok (.iconst 0, 1) := by decide +kernel
theorem dX11_play_38 : decode cX11_play 38 = .ok (.goto 7, 3) := by decide +kernel
theorem dX11_play_41 : decode cX11_play 41 = .ok (.aload_n 0, 1) := by decide +kernel
theorem dX11_play_42 : decode cX11_play 42 = .ok (.getfield 79, 3) := by decide +kernel
theorem dX11_play_45 : decode cX11_play 45 = .ok (.putfield 132, 3) := by decide +kernel
theorem dX11_play_48 : decode cX11_play 48 = .ok (.aload_n 0, 1) := by decide +kernel
theorem dX11_play_49 : decode cX11_play 49 = .ok (.getfield 76, 3) := by decide +kernel
theorem dX11_play_52 : decode cX11_play 52 = .ok (.ifCond .eq 8, 3) := by decide +kernel
theorem dX11_play_55 : decode cX11_play 55 = .ok (.aload_n 0, 1) := by decide +kernel
theorem dX11_play_56 : decode cX11_play 56 = .ok (.invokevirtual 135, 3) := by decide +kernel
theorem dX11_play_59 : decode cX11_play 59 = .ok (.ireturn, 1) := by decide +kernel
theorem dX11_play_60 : decode cX11_play 60 = .ok (.iconst 0, 1) := by decide +kernel
theorem dX11_play_61 : decode cX11_play 61 = .ok (.istore_n 3, 1) := by decide +kernel
theorem dX11_play_62 : decode cX11_play 62 = .ok (.iload_n 3, 1) := by decide +kernel
theorem dX11_play_63 : decode cX11_play 63 = .ok (.iload_n 1, 1) := by decide +kernel
theorem dX11_play_64 : decode cX11_play 64 = .ok (.if_icmp .ge 21, 3) := by decide +kernel
theorem dX11_play_67 : decode cX11_play 67 = .ok (.aload_n 0, 1) := by decide +kernel
theorem dX11_play_68 : decode cX11_play 68 = .ok (.getfield 17, 3) := by decide +kernel
theorem dX11_play_71 : decode cX11_play 71 = .ok (.iload_n 3, 1) := by decide +kernel
theorem dX11_play_72 : decode cX11_play 72 = .ok (.aload_n 0, 1) := by decide +kernel
theorem dX11_play_73 : decode cX11_play 73 = .ok (.getfield 13, 3) := by decide +kernel
theorem dX11_play_76 : decode cX11_play 76 = .ok (.iload_n 3, 1) := by decide +kernel
theorem dX11_play_77 : decode cX11_play 77 = .ok (.iaload, 1) := by decide +kernel
theorem dX11_play_78 : decode cX11_play 78 = .ok (.iastore, 1) := by decide +kernel
theorem dX11_play_79 : decode cX11_play 79 = .ok (.iinc 3 1, 3) := by decide +kernel
theorem dX11_play_82 : decode cX11_play 82 = .ok (.goto (-20), 3) := by decide +kernel
theorem dX11_play_85 : decode cX11_play 85 = .ok (.aload_n 0, 1) := by decide +kernel
theorem dX11_play_86 : decode cX11_play 86 = .ok (.iload_n 1, 1) := by decide +kernel
theorem dX11_play_87 : decode cX11_play 87 = .ok (.putfield 139, 3) := by decide +kernel
theorem dX11_play_90 : decode cX11_play 90 = .ok (.aload_n 0, 1) := by decide +kernel
theorem dX11_play_91 : decode cX11_play 91 = .ok (.invokevirtual 142, 3) := by decide +kernel
theorem dX11_play_94 : decode cX11_play 94 = .ok (.iconst 4, 1) := by decide +kernel
theorem dX11_play_95 : decode cX11_play 95 = .ok (.istore_n 3, 1) := by decide +kernel
theorem dX11_play_96 : decode cX11_play 96 = .ok (.iload_n 3, 1) := by decide +kernel
theorem dX11_play_97 : decode cX11_play 97 = .ok (.aload_n 0, 1) := by decide +kernel
theorem dX11_play_98 : decode cX11_play 98 = .ok (.getfield 139, 3) := by decide +kernel
theorem dX11_play_101 : decode cX11_play 101 = .ok (.if_icmp .ge 36, 3) := by decide +kernel
theorem dX11_play_104 : decode cX11_play 104 = .ok (.aload_n 0, 1) := by decide +kernel
theorem dX11_play_105 : decode cX11_play 105 = .ok (.iload_n 3, 1) := by decide +kernel
theorem dX11_play_106 : decode cX11_play 106 = .ok (.invokevirtual 145, 3) := by decide +kernel
theorem dX11_play_109 : decode cX11_play 109 = .ok (.iload_n 3, 1) := by decide +kernel
theorem dX11_play_110 : decode cX11_play 110 = .ok (.iconst 3, 1) := by decide +kernel
theorem dX11_play_111 : decode cX11_play 111 = .ok (.aload_n 0, 1) := by decide +kernel
theorem dX11_play_112 : decode cX11_play 112 = .ok (.getfield 17, 3) := by decide +kernel
theorem dX11_play_115 : decode cX11_play 115 = .ok (.iload_n 3, 1) := by decide +kernel
theorem dX11_play_116 : decode cX11_play 116 = .ok (.iconst 1, 1) := by decide +kernel
theorem dX11_play_117 : decode cX11_play 117 = .ok (.iadd, 1) := by decide +kernel
theorem dX11_play_118 : decode cX11_play 118 = .ok (.iaload, 1) := by decide +kernel
theorem dX11_play_119 : decode cX11_play 119 = .ok (.bipush 8, 2) := by decide +kernel
theorem dX11_play_121 : decode cX11_play 121 = .ok (.ishl, 1) := by decide +kernel
theorem dX11_play_122 : decode cX11_play 122 = .ok (.aload_n 0, 1) := by decide +kernel
theorem dX11_play_123 : decode cX11_play 123 = .ok (.getfield 17, 3) := by decide +kernel
theorem dX11_play_126 : decode cX11_play 126 = .ok (.iload_n 3, 1) := by decide +kernel
theorem dX11_play_127 : decode cX11_play 127 = .ok (.iconst 2, 1) := by decide +kernel
theorem dX11_play_128 : decode cX11_play 128 = .ok (.iadd, 1) := by decide +kernel
theorem dX11_play_129 : decode cX11_play 129 = .ok (.iaload, 1) := by decide +kernel
theorem dX11_play_130 : decode cX11_play 130 = .ok (.ior, 1) := by decide +kernel
theorem dX11_play_131 : decode cX11_play 131 = .ok (.iadd, 1) := by decide +kernel
theorem dX11_play_132 : decode cX11_play 132 = .ok (.iadd, 1) := by decide +kernel
theorem dX11_play_133 : decode cX11_play 133 = .ok (.istore_n 3, 1) := by decide +kernel
theorem dX11_play_134 : decode cX11_play 134 = .ok (.goto (-38), 3) := by decide +kernel
theorem dX11_play_137 : decode cX11_play 137 = .ok (.iload_n 2, 1) := by decide +kernel
theorem dX11_play_138 : decode cX11_play 138 = .ok (.ireturn, 1) := by decide +kernel
theorem dX11_fault_0 : decode cX11_fault 0 = .ok (.aload_n 0, 1) := by decide +kernel
theorem dX11_fault_1 : decode cX11_fault 1 = .ok (.iconst 0, 1) := by decide +kernel
theorem dX11_fault_2 : decode cX11_fault 2 = .ok (.putfield 3, 3) := by decide +kernel
theorem dX11_fault_5 : decode cX11_fault 5 = .ok (.iload_n 1, 1) := by decide +kernel
theorem dX11_fault_6 : decode cX11_fault 6 = .ok (.ifCond .ne 10, 3) := by decide +kernel
theorem dX11_fault_9 : decode cX11_fault 9 = .ok (.aload_n 0, 1) := by decide +kernel
theorem dX11_fault_10 : decode cX11_fault 10 = .ok (.getfield 129, 3) := by decide +kernel
theorem dX11_fault_13 : decode cX11_fault 13 = .ok (.goto 16, 3) := by decide +kernel
theorem dX11_fault_16 : decode cX11_fault 16 = .ok (.iload_n 1, 1) := by decide +kernel
theorem dX11_fault_17 : decode cX11_fault 17 = .ok (.iconst 1, 1) := by decide +kernel
theorem dX11_fault_18 : decode cX11_fault 18 = .ok (.if_icmp .ne 10, 3) := by decide +kernel
theorem dX11_fault_21 : decode cX11_fault 21 = .ok (.aload_n 0, 1) := by decide +kernel
theorem dX11_fault_22 : decode cX11_fault 22 = .ok (.getfield 132, 3) := by decide +kernel
theorem dX11_fault_25 : decode cX11_fault 25 = .ok (.goto 4, 3) := by decide +kernel
theorem dX11_fault_28 : decode cX11_fault 28 = .ok (.iconst (-1), 1) := by decide +kernel
theorem dX11_fault_29 : decode cX11_fault 29 = .ok (.ireturn, 1) := by decide +kernel
theorem dX11_of_0 : decode cX11_of 0 = .ok (.aload_n 0, 1) := by decide +kernel
theorem dX11_of_1 : decode cX11_of 1 = .ok (.getfield 57, 3) := by decide +kernel
theorem dX11_of_4 : decode cX11_of 4 = .ok (.bipush 70, 2) := by decide +kernel
theorem dX11_of_6 : decode cX11_of 6 = .ok (.bipush 10, 2) := by decide +kernel
theorem dX11_of_8 : decode cX11_of 8 = .ok (.iload_n 1, 1) := by decide +kernel
theorem dX11_of_9 : decode cX11_of 9 = .ok (.imul, 1) := by decide +kernel
theorem dX11_of_10 : decode cX11_of 10 = .ok (.iadd, 1) := by decide +kernel
theorem dX11_of_11 : decode cX11_of 11 = .ok (.iload_n 2, 1) := by decide +kernel
theorem dX11_of_12 : decode cX11_of 12 = .ok (.iadd, 1) := by decide +kernel
theorem dX11_of_13 : decode cX11_of 13 = .ok (.iaload, 1) := by decide +kernel
theorem dX11_of_14 : decode cX11_of 14 = .ok (.ireturn, 1) := by decide +kernel
theorem dX11_to_0 : decode cX11_to 0 = .ok (.aload_n 0, 1) := by decide +kernel
theorem dX11_to_1 : decode cX11_to 1 = .ok (.getfield 57, 3) := by decide +kernel
theorem dX11_to_4 : decode cX11_to 4 = .ok (.bipush 70, 2) := by decide +kernel
theorem dX11_to_6 : decode cX11_to 6 = .ok (.bipush 10, 2) := by decide +kernel
theorem dX11_to_8 : decode cX11_to 8 = .ok (.iload_n 1, 1) := by decide +kernel
theorem dX11_to_9 : decode cX11_to 9 = .ok (.imul, 1) := by decide +kernel
theorem dX11_to_10 : decode cX11_to 10 = .ok (.iadd, 1) := by decide +kernel
theorem dX11_to_11 : decode cX11_to 11 = .ok (.iload_n 2, 1) := by decide +kernel
theorem dX11_to_12 : decode cX11_to 12 = .ok (.iadd, 1) := by decide +kernel
theorem dX11_to_13 : decode cX11_to 13 = .ok (.iload_n 3, 1) := by decide +kernel
theorem dX11_to_14 : decode cX11_to 14 = .ok (.iastore, 1) := by decide +kernel
theorem dX11_to_15 : decode cX11_to 15 = .ok (.return_, 1) := by decide +kernel
theorem dX11_frees_0 : decode cX11_frees 0 = .ok (.iconst 0, 1) := by decide +kernel
theorem dX11_frees_1 : decode cX11_frees 1 = .ok (.istore_n 2, 1) := by decide +kernel
theorem dX11_frees_2 : decode cX11_frees 2 = .ok (.iload_n 2, 1) := by decide +kernel
theorem dX11_frees_3 : decode cX11_frees 3 = .ok (.bipush 10, 2) := by decide +kernel
theorem dX11_frees_5 : decode cX11_frees 5 = .ok (.if_icmp .ge 16, 3) := by decide +kernel
theorem dX11_frees_8 : decode cX11_frees 8 = .ok (.aload_n 0, 1) := by decide +kernel
theorem dX11_frees_9 : decode cX11_frees 9 = .ok (.iload_n 1, 1) := by decide +kernel
theorem dX11_frees_10 : decode cX11_frees 10 = .ok (.iload_n 2, 1) := by decide +kernel
theorem dX11_frees_11 : decode cX11_frees 11 = .ok (.iconst 0, 1) := by decide +kernel
theorem dX11_frees_12 : decode cX11_frees 12 = .ok (.invokevirtual 148, 3) := by decide +kernel
theorem dX11_frees_15 : decode cX11_frees 15 = .ok (.iinc 2 1, 3) := by decide +kernel
theorem dX11_frees_18 : decode cX11_frees 18 = .ok (.goto (-16), 3) := by decide +kernel
theorem dX11_frees_21 : decode cX11_frees 21 = .ok (.return_, 1) := by decide +kernel
theorem dX11_isScript_0 : decode cX11_isScript 0 = .ok (.iload_n 1, 1) := by decide +kernel
theorem dX11_isScript_1 : decode cX11_isScript 1 = .ok (.i2l, 1) := by decide +kernel
theorem dX11_isScript_2 : decode cX11_isScript 2 = .ok (.lconst 1, 1) := by decide +kernel
theorem dX11_isScript_3 : decode cX11_isScript 3 = .ok (.ldc2_w 152, 3) := by decide +kernel
theorem dX11_isScript_6 : decode cX11_isScript 6 = .ok (.invokestatic 72, 3) := by decide +kernel
theorem dX11_isScript_9 : decode cX11_isScript 9 = .ok (.ifCond .eq 16, 3) := by decide +kernel
theorem dX11_isScript_12 : decode cX11_isScript 12 = .ok (.aload_n 0, 1) := by decide +kernel
theorem dX11_isScript_13 : decode cX11_isScript 13 = .ok (.getfield 33, 3) := by decide +kernel
theorem dX11_isScript_16 : decode cX11_isScript 16 = .ok (.iload_n 1, 1) := by decide +kernel
theorem dX11_isScript_17 : decode cX11_isScript 17 = .ok (.iaload, 1) := by decide +kernel
theorem dX11_isScript_18 : decode cX11_isScript 18 = .ok (.ifCond .le 7, 3) := by decide +kernel
theorem dX11_isScript_21 : decode cX11_isScript 21 = .ok (.iconst 1, 1) := by decide +kernel
theorem dX11_isScript_22 : decode cX11_isScript 22 = .ok (.goto 4, 3) := by decide +kernel
theorem dX11_isScript_25 : decode cX11_isScript 25 = .ok (.iconst 0, 1) := by decide +kernel
theorem dX11_isScript_26 : decode cX11_isScript 26 = .ok (.ireturn, 1) := by decide +kernel
theorem dX11_started_0 : decode cX11_started 0 = .ok (.aload_n 0, 1) := by decide +kernel
theorem dX11_started_1 : decode cX11_started 1 = .ok (.iload_n 1, 1) := by decide +kernel
theorem dX11_started_2 : decode cX11_started 2 = .ok (.invokevirtual 154, 3) := by decide +kernel
theorem dX11_started_5 : decode cX11_started 5 = .ok (.ifCond .ne 5, 3) := by decide +kernel
theorem dX11_started_8 : decode cX11_started 8 = .ok (.iconst (-1), 1) := by decide +kernel
theorem dX11_started_9 : decode cX11_started 9 = .ok (.ireturn, 1) := by decide +kernel
theorem dX11_started_10 : decode cX11_started 10 = .ok (.iconst 0, 1) := by decide +kernel
theorem dX11_started_11 : decode cX11_started 11 = .ok (.istore_n 2, 1) := by decide +kernel
theorem dX11_started_12 : decode cX11_started 12 = .ok (.iload_n 2, 1) := by decide +kernel
theorem dX11_started_13 : decode cX11_started 13 = .ok (.bipush 8, 2) := by decide +kernel
theorem dX11_started_15 : decode cX11_started 15 = .ok (.if_icmp .ge 32, 3) := by decide +kernel
theorem dX11_started_18 : decode cX11_started 18 = .ok (.aload_n 0, 1) := by decide +kernel
theorem dX11_started_19 : decode cX11_started 19 = .ok (.iload_n 2, 1) := by decide +kernel
theorem dX11_started_20 : decode cX11_started 20 = .ok (.iconst 0, 1) := by decide +kernel
theorem dX11_started_21 : decode cX11_started 21 = .ok (.invokevirtual 158, 3) := by decide +kernel
theorem dX11_started_24 : decode cX11_started 24 = .ok (.ifCond .ne 17, 3) := by decide +kernel
theorem dX11_started_27 : decode cX11_started 27 = .ok (.aload_n 0, 1) := by decide +kernel
theorem dX11_started_28 : decode cX11_started 28 = .ok (.iload_n 2, 1) := by decide +kernel
theorem dX11_started_29 : decode cX11_started 29 = .ok (.invokevirtual 161, 3) := by decide +kernel
theorem dX11_started_32 : decode cX11_started 32 = .ok (.aload_n 0, 1) := by decide +kernel
theorem dX11_started_33 : decode cX11_started 33 = .ok (.iload_n 2, 1) := by decide +kernel
theorem dX11_started_34 : decode cX11_started 34 = .ok (.iconst 0, 1) := by decide +kernel
theorem dX11_started_35 : decode cX11_started 35 = .ok (.iload_n 1, 1) := by decide +kernel
theorem dX11_started_36 : decode cX11_started 36 = .ok (.invokevirtual 148, 3) := by decide +kernel
theorem dX11_started_39 : decode cX11_started 39 = .ok (.iload_n 2, 1) := by decide +kernel
theorem dX11_started_40 : decode cX11_started 40 = .ok (.ireturn, 1) := by decide +kernel
theorem dX11_started_41 : decode cX11_started 41 = .ok (.iinc 2 1, 3) := by decide +kernel
theorem dX11_started_44 : decode cX11_started 44 = .ok (.goto (-32), 3) := by decide +kernel
theorem dX11_started_47 : decode cX11_started 47 = .ok (.aload_n 0, 1) := by decide +kernel
theorem dX11_started_48 : decode cX11_started 48 = .ok (.getfield 57, 3) := by decide +kernel
theorem dX11_started_51 : decode cX11_started 51 = .ok (.iconst 4, 1) := by decide +kernel
theorem dX11_started_52 : decode cX11_started 52 = .ok (.dup2, 1) := by decide +kernel
theorem dX11_started_53 : decode cX11_started 53 = .ok (.iaload, 1) := by decide +kernel
theorem dX11_started_54 : decode cX11_started 54 = .ok (.iconst 1, 1) := by decide +kernel
theorem dX11_started_55 : decode cX11_started 55 = .ok (.iadd, 1) := by decide +kernel
theorem dX11_started_56 : decode cX11_started 56 = .ok (.iastore, 1) := by decide +kernel
theorem dX11_started_57 : decode cX11_started 57 = .ok (.iconst (-1), 1) := by decide +kernel
theorem dX11_started_58 : decode cX11_started 58 = .ok (.ireturn, 1) := by decide +kernel
theorem dX11_says_0 : decode cX11_says 0 = .ok (.aload_n 0, 1) := by decide +kernel
theorem dX11_says_1 : decode cX11_says 1 = .ok (.getfield 57, 3) := by decide +kernel
theorem dX11_says_4 : decode cX11_says 4 = .ok (.iconst 5, 1) := by decide +kernel
theorem dX11_says_5 : decode cX11_says 5 = .ok (.iaload, 1) := by decide +kernel
theorem dX11_says_6 : decode cX11_says 6 = .ok (.bipush 6, 2) := by decide +kernel
theorem dX11_says_8 : decode cX11_says 8 = .ok (.if_icmp .ne 15, 3) := by decide +kernel
theorem dX11_says_11 : decode cX11_says 11 = .ok (.aload_n 0, 1) := by decide +kernel
theorem dX11_says_12 : decode cX11_says 12 = .ok (.getfield 57, 3) := by decide +kernel
theorem dX11_says_15 : decode cX11_says 15 = .ok (.iconst 4, 1) := by decide +kernel
theorem dX11_says_16 : decode cX11_says 16 = .ok (.dup2, 1) := by decide +kernel
theorem dX11_says_17 : decode cX11_says 17 = .ok (.iaload, 1) := by decide +kernel
theorem dX11_says_18 : decode cX11_says 18 = .ok (.iconst 1, 1) := by decide +kernel
theorem dX11_says_19 : decode cX11_says 19 = .ok (.iadd, 1) := by decide +kernel
theorem dX11_says_20 : decode cX11_says 20 = .ok (.iastore, 1) := by decide +kernel
theorem dX11_says_21 : decode cX11_says 21 = .ok (.iconst (-1), 1) := by decide +kernel
theorem dX11_says_22 : decode cX11_says 22 = .ok (.ireturn, 1) := by decide +kernel
theorem dX11_says_23 : decode cX11_says 23 = .ok (.sipush 150, 3) := by decide +kernel
theorem dX11_says_26 : decode cX11_says 26 = .ok (.iconst 3, 1) := by decide +kernel
theorem dX11_says_27 : decode cX11_says 27 = .ok (.aload_n 0, 1) := by decide +kernel
theorem dX11_says_28 : decode cX11_says 28 = .ok (.getfield 57, 3) := by decide +kernel
theorem dX11_says_31 : decode cX11_says 31 = .ok (.iconst 5, 1) := by decide +kernel
theorem dX11_says_32 : decode cX11_says 32 = .ok (.iaload, 1) := by decide +kernel
theorem dX11_says_33 : decode cX11_says 33 = .ok (.imul, 1) := by decide +kernel
theorem dX11_says_34 : decode cX11_says 34 = .ok (.iadd, 1) := by decide +kernel
theorem dX11_says_35 : decode cX11_says 35 = .ok (.istore 4, 2) := by decide +kernel
theorem dX11_says_37 : decode cX11_says 37 = .ok (.aload_n 0, 1) := by decide +kernel
theorem dX11_says_38 : decode cX11_says 38 = .ok (.getfield 57, 3) := by decide +kernel
theorem dX11_says_41 : decode cX11_says 41 = .ok (.iload 4, 2) := by decide +kernel
theorem dX11_says_43 : decode cX11_says 43 = .ok (.iload_n 1, 1) := by decide +kernel
theorem dX11_says_44 : decode cX11_says 44 = .ok (.iastore, 1) := by decide +kernel
theorem dX11_says_45 : decode cX11_says 45 = .ok (.aload_n 0, 1) := by decide +kernel
theorem dX11_says_46 : decode cX11_says 46 = .ok (.getfield 57, 3) := by decide +kernel
theorem dX11_says_49 : decode cX11_says 49 = .ok (.iload 4, 2) := by decide +kernel
theorem dX11_says_51 : decode cX11_says 51 = .ok (.iconst 1, 1) := by decide +kernel
theorem dX11_says_52 : decode cX11_says 52 = .ok (.iadd, 1) := by decide +kernel
theorem dX11_says_53 : decode cX11_says 53 = .ok (.iload_n 2, 1) := by decide +kernel
theorem dX11_says_54 : decode cX11_says 54 = .ok (.iastore, 1) := by decide +kernel
theorem dX11_says_55 : decode cX11_says 55 = .ok (.aload_n 0, 1) := by decide +kernel
theorem dX11_says_56 : decode cX11_says 56 = .ok (.getfield 57, 3) := by decide +kernel
theorem dX11_says_59 : decode cX11_says 59 = .ok (.iload 4, 2) := by decide +kernel
theorem dX11_says_61 : decode cX11_says 61 = .ok (.iconst 2, 1) := by decide +kernel
theorem dX11_says_62 : decode cX11_says 62 = .ok (.iadd, 1) := by decide +kernel
theorem dX11_says_63 : decode cX11_says 63 = .ok (.iload_n 3, 1) := by decide +kernel
theorem dX11_says_64 : decode cX11_says 64 = .ok (.iastore, 1) := by decide +kernel
theorem dX11_says_65 : decode cX11_says 65 = .ok (.aload_n 0, 1) := by decide +kernel
theorem dX11_says_66 : decode cX11_says 66 = .ok (.getfield 57, 3) := by decide +kernel
theorem dX11_says_69 : decode cX11_says 69 = .ok (.iconst 5, 1) := by decide +kernel
theorem dX11_says_70 : decode cX11_says 70 = .ok (.dup2, 1) := by decide +kernel
theorem dX11_says_71 : decode cX11_says 71 = .ok (.iaload, 1) := by decide +kernel
theorem dX11_says_72 : decode cX11_says 72 = .ok (.iconst 1, 1) := by decide +kernel
theorem dX11_says_73 : decode cX11_says 73 = .ok (.iadd, 1) := by decide +kernel
theorem dX11_says_74 : decode cX11_says 74 = .ok (.iastore, 1) := by decide +kernel
theorem dX11_says_75 : decode cX11_says 75 = .ok (.aload_n 0, 1) := by decide +kernel
theorem dX11_says_76 : decode cX11_says 76 = .ok (.getfield 57, 3) := by decide +kernel
theorem dX11_says_79 : decode cX11_says 79 = .ok (.iconst 5, 1) := by decide +kernel
theorem dX11_says_80 : decode cX11_says 80 = .ok (.iaload, 1) := by decide +kernel
theorem dX11_says_81 : decode cX11_says 81 = .ok (.ireturn, 1) := by decide +kernel
theorem dX11_isActor_0 : decode cX11_isActor 0 = .ok (.iload_n 1, 1) := by decide +kernel
theorem dX11_isActor_1 : decode cX11_isActor 1 = .ok (.i2l, 1) := by decide +kernel
theorem dX11_isActor_2 : decode cX11_isActor 2 = .ok (.lconst 1, 1) := by decide +kernel
theorem dX11_isActor_3 : decode cX11_isActor 3 = .ok (.ldc2_w 164, 3) := by decide +kernel
theorem dX11_isActor_6 : decode cX11_isActor 6 = .ok (.invokestatic 72, 3) := by decide +kernel
theorem dX11_isActor_9 : decode cX11_isActor 9 = .ok (.ifCond .eq 16, 3) := by decide +kernel
theorem dX11_isActor_12 : decode cX11_isActor 12 = .ok (.aload_n 0, 1) := by decide +kernel
theorem dX11_isActor_13 : decode cX11_isActor 13 = .ok (.getfield 48, 3) := by decide +kernel
theorem dX11_isActor_16 : decode cX11_isActor 16 = .ok (.iload_n 1, 1) := by decide +kernel
theorem dX11_isActor_17 : decode cX11_isActor 17 = .ok (.baload, 1) := by decide +kernel
theorem dX11_isActor_18 : decode cX11_isActor 18 = .ok (.ifCond .eq 7, 3) := by decide +kernel
theorem dX11_isActor_21 : decode cX11_isActor 21 = .ok (.iconst 1, 1) := by decide +kernel
theorem dX11_isActor_22 : decode cX11_isActor 22 = .ok (.goto 4, 3) := by decide +kernel
theorem dX11_isActor_25 : decode cX11_isActor 25 = .ok (.iconst 0, 1) := by decide +kernel
theorem dX11_isActor_26 : decode cX11_isActor 26 = .ok (.ireturn, 1) := by decide +kernel
theorem dX11_isObject_0 : decode cX11_isObject 0 = .ok (.iload_n 1, 1) := by decide +kernel
theorem dX11_isObject_1 : decode cX11_isObject 1 = .ok (.i2l, 1) := by decide +kernel
theorem dX11_isObject_2 : decode cX11_isObject 2 = .ok (.lconst 1, 1) := by decide +kernel
theorem dX11_isObject_3 : decode cX11_isObject 3 = .ok (.ldc2_w 152, 3) := by decide +kernel
theorem dX11_isObject_6 : decode cX11_isObject 6 = .ok (.invokestatic 72, 3) := by decide +kernel
theorem dX11_isObject_9 : decode cX11_isObject 9 = .ok (.ifCond .eq 16, 3) := by decide +kernel
theorem dX11_isObject_12 : decode cX11_isObject 12 = .ok (.aload_n 0, 1) := by decide +kernel
theorem dX11_isObject_13 : decode cX11_isObject 13 = .ok (.getfield 36, 3) := by decide +kernel
theorem dX11_isObject_16 : decode cX11_isObject 16 = .ok (.iload_n 1, 1) := by decide +kernel
theorem dX11_isObject_17 : decode cX11_isObject 17 = .ok (.baload, 1) := by decide +kernel
theorem dX11_isObject_18 : decode cX11_isObject 18 = .ok (.ifCond .eq 7, 3) := by decide +kernel
theorem dX11_isObject_21 : decode cX11_isObject 21 = .ok (.iconst 1, 1) := by decide +kernel
theorem dX11_isObject_22 : decode cX11_isObject 22 = .ok (.goto 4, 3) := by decide +kernel
theorem dX11_isObject_25 : decode cX11_isObject 25 = .ok (.iconst 0, 1) := by decide +kernel
theorem dX11_isObject_26 : decode cX11_isObject 26 = .ok (.ireturn, 1) := by decide +kernel
theorem dX11_actorOf_0 : decode cX11_actorOf 0 = .ok (.aload_n 0, 1) := by decide +kernel
theorem dX11_actorOf_1 : decode cX11_actorOf 1 = .ok (.getfield 57, 3) := by decide +kernel
theorem dX11_actorOf_4 : decode cX11_actorOf 4 = .ok (.sipush 232, 3) := by decide +kernel
theorem dX11_actorOf_7 : decode cX11_actorOf 7 = .ok (.bipush 7, 2) := by decide +kernel
theorem dX11_actorOf_9 : decode cX11_actorOf 9 = .ok (.iload_n 1, 1) := by decide +kernel
theorem dX11_actorOf_10 : decode cX11_actorOf 10 = .ok (.imul, 1) := by decide +kernel
theorem dX11_actorOf_11 : decode cX11_actorOf 11 = .ok (.iadd, 1) := by decide +kernel
theorem dX11_actorOf_12 : decode cX11_actorOf 12 = .ok (.iload_n 2, 1) := by decide +kernel
theorem dX11_actorOf_13 : decode cX11_actorOf 13 = .ok (.iadd, 1) := by decide +kernel
theorem dX11_actorOf_14 : decode cX11_actorOf 14 = .ok (.iaload, 1) := by decide +kernel
theorem dX11_actorOf_15 : decode cX11_actorOf 15 = .ok (.ireturn, 1) := by decide +kernel
theorem dX11_actorTo_0 : decode cX11_actorTo 0 = .ok (.aload_n 0, 1) := by decide +kernel
theorem dX11_actorTo_1 : decode cX11_actorTo 1 = .ok (.getfield 57, 3) := by decide +kernel
theorem dX11_actorTo_4 : decode cX11_actorTo 4 = .ok (.sipush 232, 3) := by decide +kernel
theorem dX11_actorTo_7 : decode cX11_actorTo 7 = .ok (.bipush 7, 2) := by decide +kernel
theorem dX11_actorTo_9 : decode cX11_actorTo 9 = .ok (.iload_n 1, 1) := by decide +kernel
theorem dX11_actorTo_10 : decode cX11_actorTo 10 = .ok (.imul, 1) := by decide +kernel
theorem dX11_actorTo_11 : decode cX11_actorTo 11 = .ok (.iadd, 1) := by decide +kernel
theorem dX11_actorTo_12 : decode cX11_actorTo 12 = .ok (.iload_n 2, 1) := by decide +kernel
theorem dX11_actorTo_13 : decode cX11_actorTo 13 = .ok (.iadd, 1) := by decide +kernel
theorem dX11_actorTo_14 : decode cX11_actorTo 14 = .ok (.iload_n 3, 1) := by decide +kernel
theorem dX11_actorTo_15 : decode cX11_actorTo 15 = .ok (.iastore, 1) := by decide +kernel
theorem dX11_actorTo_16 : decode cX11_actorTo 16 = .ok (.return_, 1) := by decide +kernel
theorem dX11_scriptOf_0 : decode cX11_scriptOf 0 = .ok (.iconst 0, 1) := by decide +kernel
theorem dX11_scriptOf_1 : decode cX11_scriptOf 1 = .ok (.istore_n 3, 1) := by decide +kernel
theorem dX11_scriptOf_2 : decode cX11_scriptOf 2 = .ok (.iload_n 3, 1) := by decide +kernel
theorem dX11_scriptOf_3 : decode cX11_scriptOf 3 = .ok (.aload_n 0, 1) := by decide +kernel
theorem dX11_scriptOf_4 : decode cX11_scriptOf 4 = .ok (.getfield 45, 3) := by decide +kernel
theorem dX11_scriptOf_7 : decode cX11_scriptOf 7 = .ok (.iload_n 1, 1) := by decide +kernel
theorem dX11_scriptOf_8 : decode cX11_scriptOf 8 = .ok (.iaload, 1) := by decide +kernel
theorem dX11_scriptOf_9 : decode cX11_scriptOf 9 = .ok (.if_icmp .ge 46, 3) := by decide +kernel
theorem dX11_scriptOf_12 : decode cX11_scriptOf 12 = .ok (.aload_n 0, 1) := by decide +kernel
theorem dX11_scriptOf_13 : decode cX11_scriptOf 13 = .ok (.getfield 17, 3) := by decide +kernel
theorem dX11_scriptOf_16 : decode cX11_scriptOf 16 = .ok (.aload_n 0, 1) := by decide +kernel
theorem dX11_scriptOf_17 : decode cX11_scriptOf 17 = .ok (.getfield 42, 3) := by decide +kernel
theorem dX11_scriptOf_20 : decode cX11_scriptOf 20 = .ok (.iload_n 1, 1) := by decide +kernel
theorem dX11_scriptOf_21 : decode cX11_scriptOf 21 = .ok (.iaload, 1) := by decide +kernel
theorem dX11_scriptOf_22 : decode cX11_scriptOf 22 = .ok (.iconst 2, 1) := by decide +kernel
theorem dX11_scriptOf_23 : decode cX11_scriptOf 23 = .ok (.iload_n 3, 1) := by decide +kernel
theorem dX11_scriptOf_24 : decode cX11_scriptOf 24 = .ok (.imul, 1) := by decide +kernel
theorem dX11_scriptOf_25 : decode cX11_scriptOf 25 = .ok (.iadd, 1) := by decide +kernel
theorem dX11_scriptOf_26 : decode cX11_scriptOf 26 = .ok (.iaload, 1) := by decide +kernel
theorem dX11_scriptOf_27 : decode cX11_scriptOf 27 = .ok (.iload_n 2, 1) := by decide +kernel
theorem dX11_scriptOf_28 : decode cX11_scriptOf 28 = .ok (.if_icmp .ne 21, 3) := by decide +kernel
theorem dX11_scriptOf_31 : decode cX11_scriptOf 31 = .ok (.aload_n 0, 1) := by decide +kernel
theorem dX11_scriptOf_32 : decode cX11_scriptOf 32 = .ok (.getfield 17, 3) := by decide +kernel
theorem dX11_scriptOf_35 : decode cX11_scriptOf 35 = .ok (.aload_n 0, 1) := by decide +kernel
theorem dX11_scriptOf_36 : decode cX11_scriptOf 36 = .ok (.getfield 42, 3) := by decide +kernel
theorem dX11_scriptOf_39 : decode cX11_scriptOf 39 = .ok (.iload_n 1, 1) := by decide +kernel
theorem dX11_scriptOf_40 : decode cX11_scriptOf 40 = .ok (.iaload, 1) := by decide +kernel
theorem dX11_scriptOf_41 : decode cX11_scriptOf 41 = .ok (.iconst 2, 1) := by decide +kernel
theorem dX11_scriptOf_42 : decode cX11_scriptOf 42 = .ok (.iload_n 3, 1) := by decide +kernel
theorem dX11_scriptOf_43 : decode cX11_scriptOf 43 = .ok (.imul, 1) := by decide +kernel
theorem dX11_scriptOf_44 : decode cX11_scriptOf 44 = .ok (.iadd, 1) := by decide +kernel
theorem dX11_scriptOf_45 : decode cX11_scriptOf 45 = .ok (.iconst 1, 1) := by decide +kernel
theorem dX11_scriptOf_46 : decode cX11_scriptOf 46 = .ok (.iadd, 1) := by decide +kernel
theorem dX11_scriptOf_47 : decode cX11_scriptOf 47 = .ok (.iaload, 1) := by decide +kernel
theorem dX11_scriptOf_48 : decode cX11_scriptOf 48 = .ok (.ireturn, 1) := by decide +kernel
theorem dX11_scriptOf_49 : decode cX11_scriptOf 49 = .ok (.iinc 3 1, 3) := by decide +kernel
theorem dX11_scriptOf_52 : decode cX11_scriptOf 52 = .ok (.goto (-50), 3) := by decide +kernel
theorem dX11_scriptOf_55 : decode cX11_scriptOf 55 = .ok (.iconst 0, 1) := by decide +kernel
theorem dX11_scriptOf_56 : decode cX11_scriptOf 56 = .ok (.ireturn, 1) := by decide +kernel
theorem dX11_isBox_0 : decode cX11_isBox 0 = .ok (.iload_n 1, 1) := by decide +kernel
theorem dX11_isBox_1 : decode cX11_isBox 1 = .ok (.i2l, 1) := by decide +kernel
theorem dX11_isBox_2 : decode cX11_isBox 2 = .ok (.lconst 0, 1) := by decide +kernel
theorem dX11_isBox_3 : decode cX11_isBox 3 = .ok (.ldc2_w 166, 3) := by decide +kernel
theorem dX11_isBox_6 : decode cX11_isBox 6 = .ok (.invokestatic 72, 3) := by decide +kernel
theorem dX11_isBox_9 : decode cX11_isBox 9 = .ok (.ifCond .eq 25, 3) := by decide +kernel
theorem dX11_isBox_12 : decode cX11_isBox 12 = .ok (.iload_n 2, 1) := by decide +kernel
theorem dX11_isBox_13 : decode cX11_isBox 13 = .ok (.i2l, 1) := by decide +kernel
theorem dX11_isBox_14 : decode cX11_isBox 14 = .ok (.lconst 0, 1) := by decide +kernel
theorem dX11_isBox_15 : decode cX11_isBox 15 = .ok (.aload_n 0, 1) := by decide +kernel
theorem dX11_isBox_16 : decode cX11_isBox 16 = .ok (.getfield 24, 3) := by decide +kernel
theorem dX11_isBox_19 : decode cX11_isBox 19 = .ok (.iload_n 1, 1) := by decide +kernel
theorem dX11_isBox_20 : decode cX11_isBox 20 = .ok (.iaload, 1) := by decide +kernel
theorem dX11_isBox_21 : decode cX11_isBox 21 = .ok (.iconst 1, 1) := by decide +kernel
theorem dX11_isBox_22 : decode cX11_isBox 22 = .ok (.isub, 1) := by decide +kernel
theorem dX11_isBox_23 : decode cX11_isBox 23 = .ok (.i2l, 1) := by decide +kernel
theorem dX11_isBox_24 : decode cX11_isBox 24 = .ok (.invokestatic 72, 3) := by decide +kernel
theorem dX11_isBox_27 : decode cX11_isBox 27 = .ok (.ifCond .eq 7, 3) := by decide +kernel
theorem dX11_isBox_30 : decode cX11_isBox 30 = .ok (.iconst 1, 1) := by decide +kernel
theorem dX11_isBox_31 : decode cX11_isBox 31 = .ok (.goto 4, 3) := by decide +kernel
theorem dX11_isBox_34 : decode cX11_isBox 34 = .ok (.iconst 0, 1) := by decide +kernel
theorem dX11_isBox_35 : decode cX11_isBox 35 = .ok (.ireturn, 1) := by decide +kernel
theorem dX11_side_0 : decode cX11_side 0 = .ok (.aload_n 0, 1) := by decide +kernel
theorem dX11_side_1 : decode cX11_side 1 = .ok (.getfield 27, 3) := by decide +kernel
theorem dX11_side_4 : decode cX11_side 4 = .ok (.iload_n 1, 1) := by decide +kernel
theorem dX11_side_5 : decode cX11_side 5 = .ok (.bipush 16, 2) := by decide +kernel
theorem dX11_side_7 : decode cX11_side 7 = .ok (.imul, 1) := by decide +kernel
theorem dX11_side_8 : decode cX11_side 8 = .ok (.iload_n 2, 1) := by decide +kernel
theorem dX11_side_9 : decode cX11_side 9 = .ok (.iadd, 1) := by decide +kernel
theorem dX11_side_10 : decode cX11_side 10 = .ok (.iconst 4, 1) := by decide +kernel
theorem dX11_side_11 : decode cX11_side 11 = .ok (.imul, 1) := by decide +kernel
theorem dX11_side_12 : decode cX11_side 12 = .ok (.iload_n 3, 1) := by decide +kernel
theorem dX11_side_13 : decode cX11_side 13 = .ok (.iadd, 1) := by decide +kernel
theorem dX11_side_14 : decode cX11_side 14 = .ok (.iaload, 1) := by decide +kernel
theorem dX11_side_15 : decode cX11_side 15 = .ok (.ireturn, 1) := by decide +kernel
theorem dX11_isOpen_0 : decode cX11_isOpen 0 = .ok (.aload_n 0, 1) := by decide +kernel
theorem dX11_isOpen_1 : decode cX11_isOpen 1 = .ok (.getfield 57, 3) := by decide +kernel
theorem dX11_isOpen_4 : decode cX11_isOpen 4 = .ok (.sipush 445, 3) := by decide +kernel
theorem dX11_isOpen_7 : decode cX11_isOpen 7 = .ok (.iload_n 1, 1) := by decide +kernel
theorem dX11_isOpen_8 : decode cX11_isOpen 8 = .ok (.bipush 16, 2) := by decide +kernel
theorem dX11_isOpen_10 : decode cX11_isOpen 10 = .ok (.imul, 1) := by decide +kernel
theorem dX11_isOpen_11 : decode cX11_isOpen 11 = .ok (.iadd, 1) := by decide +kernel
theorem dX11_isOpen_12 : decode cX11_isOpen 12 = .ok (.iload_n 2, 1) := by decide +kernel
theorem dX11_isOpen_13 : decode cX11_isOpen 13 = .ok (.iadd, 1) := by decide +kernel
theorem dX11_isOpen_14 : decode cX11_isOpen 14 = .ok (.iaload, 1) := by decide +kernel
theorem dX11_isOpen_15 : decode cX11_isOpen 15 = .ok (.ifCond .ne 7, 3) := by decide +kernel
theorem dX11_isOpen_18 : decode cX11_isOpen 18 = .ok (.iconst 1, 1) := by decide +kernel
theorem dX11_isOpen_19 : decode cX11_isOpen 19 = .ok (.goto 4, 3) := by decide +kernel
theorem dX11_isOpen_22 : decode cX11_isOpen 22 = .ok (.iconst 0, 1) := by decide +kernel
theorem dX11_isOpen_23 : decode cX11_isOpen 23 = .ok (.ireturn, 1) := by decide +kernel
theorem dX11_has_0 : decode cX11_has 0 = .ok (.iload_n 3, 1) := by decide +kernel
theorem dX11_has_1 : decode cX11_has 1 = .ok (.aload_n 0, 1) := by decide +kernel
theorem dX11_has_2 : decode cX11_has 2 = .ok (.iload_n 1, 1) := by decide +kernel
theorem dX11_has_3 : decode cX11_has 3 = .ok (.iload_n 2, 1) := by decide +kernel
theorem dX11_has_4 : decode cX11_has 4 = .ok (.iconst 0, 1) := by decide +kernel
theorem dX11_has_5 : decode cX11_has 5 = .ok (.invokevirtual 168, 3) := by decide +kernel
theorem dX11_has_8 : decode cX11_has 8 = .ok (.if_icmp .lt 42, 3) := by decide +kernel
theorem dX11_has_11 : decode cX11_has 11 = .ok (.iload_n 3, 1) := by decide +kernel
theorem dX11_has_12 : decode cX11_has 12 = .ok (.aload_n 0, 1) := by decide +kernel
theorem dX11_has_13 : decode cX11_has 13 = .ok (.iload_n 1, 1) := by decide +kernel
theorem dX11_has_14 : decode cX11_has 14 = .ok (.iload_n 2, 1) := by decide +kernel
theorem dX11_has_15 : decode cX11_has 15 = .ok (.iconst 2, 1) := by decide +kernel
theorem dX11_has_16 : decode cX11_has 16 = .ok (.invokevirtual 168, 3) := by decide +kernel
theorem dX11_has_19 : decode cX11_has 19 = .ok (.if_icmp .gt 31, 3) := by decide +kernel
theorem dX11_has_22 : decode cX11_has 22 = .ok (.iload 4, 2) := by decide +kernel
theorem dX11_has_24 : decode cX11_has 24 = .ok (.aload_n 0, 1) := by decide +kernel
theorem dX11_has_25 : decode cX11_has 25 = .ok (.iload_n 1, 1) := by decide +kernel
theorem dX11_has_26 : decode cX11_has 26 = .ok (.iload_n 2, 1) := by decide +kernel
theorem dX11_has_27 : decode cX11_has 27 = .ok (.iconst 1, 1) := by decide +kernel
theorem dX11_has_28 : decode cX11_has 28 = .ok (.invokevirtual 168, 3) := by decide +kernel
theorem dX11_has_31 : decode cX11_has 31 = .ok (.if_icmp .lt 19, 3) := by decide +kernel
theorem dX11_has_34 : decode cX11_has 34 = .ok (.iload 4, 2) := by decide +kernel
theorem dX11_has_36 : decode cX11_has 36 = .ok (.aload_n 0, 1) := by decide +kernel
theorem dX11_has_37 : decode cX11_has 37 = .ok (.iload_n 1, 1) := by decide +kernel
theorem dX11_has_38 : decode cX11_has 38 = .ok (.iload_n 2, 1) := by decide +kernel
theorem dX11_has_39 : decode cX11_has 39 = .ok (.iconst 3, 1) := by decide +kernel
theorem dX11_has_40 : decode cX11_has 40 = .ok (.invokevirtual 168, 3) := by decide +kernel
theorem dX11_has_43 : decode cX11_has 43 = .ok (.if_icmp .gt 7, 3) := by decide +kernel
theorem dX11_has_46 : decode cX11_has 46 = .ok (.iconst 1, 1) := by decide +kernel
theorem dX11_has_47 : decode cX11_has 47 = .ok (.goto 4, 3) := by decide +kernel
theorem dX11_has_50 : decode cX11_has 50 = .ok (.iconst 0, 1) := by decide +kernel
theorem dX11_has_51 : decode cX11_has 51 = .ok (.ireturn, 1) := by decide +kernel
theorem dX11_gap_0 : decode cX11_gap 0 = .ok (.iconst 0, 1) := by decide +kernel
theorem dX11_gap_1 : decode cX11_gap 1 = .ok (.iload_n 0, 1) := by decide +kernel
theorem dX11_gap_2 : decode cX11_gap 2 = .ok (.iload_n 2, 1) := by decide +kernel
theorem dX11_gap_3 : decode cX11_gap 3 = .ok (.invokestatic 172, 3) := by decide +kernel
theorem dX11_gap_6 : decode cX11_gap 6 = .ok (.iload_n 1, 1) := by decide +kernel
theorem dX11_gap_7 : decode cX11_gap 7 = .ok (.iload_n 3, 1) := by decide +kernel
theorem dX11_gap_8 : decode cX11_gap 8 = .ok (.invokestatic 177, 3) := by decide +kernel
theorem dX11_gap_11 : decode cX11_gap 11 = .ok (.isub, 1) := by decide +kernel
theorem dX11_gap_12 : decode cX11_gap 12 = .ok (.invokestatic 172, 3) := by decide +kernel
theorem dX11_gap_15 : decode cX11_gap 15 = .ok (.ireturn, 1) := by decide +kernel
theorem dX11_near_0 : decode cX11_near 0 = .ok (.aload_n 0, 1) := by decide +kernel
theorem dX11_near_1 : decode cX11_near 1 = .ok (.iload_n 1, 1) := by decide +kernel
theorem dX11_near_2 : decode cX11_near 2 = .ok (.iload_n 2, 1) := by decide +kernel
theorem dX11_near_3 : decode cX11_near 3 = .ok (.iconst 0, 1) := by decide +kernel
theorem dX11_near_4 : decode cX11_near 4 = .ok (.invokevirtual 168, 3) := by decide +kernel
theorem dX11_near_7 : decode cX11_near 7 = .ok (.aload_n 0, 1) := by decide +kernel
theorem dX11_near_8 : decode cX11_near 8 = .ok (.iload_n 1, 1) := by decide +kernel
theorem dX11_near_9 : decode cX11_near 9 = .ok (.iload_n 2, 1) := by decide +kernel
theorem dX11_near_10 : decode cX11_near 10 = .ok (.iconst 2, 1) := by decide +kernel
theorem dX11_near_11 : decode cX11_near 11 = .ok (.invokevirtual 168, 3) := by decide +kernel
theorem dX11_near_14 : decode cX11_near 14 = .ok (.aload_n 0, 1) := by decide +kernel
theorem dX11_near_15 : decode cX11_near 15 = .ok (.iload_n 1, 1) := by decide +kernel
theorem dX11_near_16 : decode cX11_near 16 = .ok (.iload_n 3, 1) := by decide +kernel
theorem dX11_near_17 : decode cX11_near 17 = .ok (.iconst 0, 1) := by decide +kernel
theorem dX11_near_18 : decode cX11_near 18 = .ok (.invokevirtual 168, 3) := by decide +kernel
theorem dX11_near_21 : decode cX11_near 21 = .ok (.aload_n 0, 1) := by decide +kernel
theorem dX11_near_22 : decode cX11_near 22 = .ok (.iload_n 1, 1) := by decide +kernel
theorem dX11_near_23 : decode cX11_near 23 = .ok (.iload_n 3, 1) := by decide +kernel
theorem dX11_near_24 : decode cX11_near 24 = .ok (.iconst 2, 1) := by decide +kernel
theorem dX11_near_25 : decode cX11_near 25 = .ok (.invokevirtual 168, 3) := by decide +kernel
theorem dX11_near_28 : decode cX11_near 28 = .ok (.invokestatic 180, 3) := by decide +kernel
theorem dX11_near_31 : decode cX11_near 31 = .ok (.istore 4, 2) := by decide +kernel
theorem dX11_near_33 : decode cX11_near 33 = .ok (.aload_n 0, 1) := by decide +kernel
theorem dX11_near_34 : decode cX11_near 34 = .ok (.iload_n 1, 1) := by decide +kernel
theorem dX11_near_35 : decode cX11_near 35 = .ok (.iload_n 2, 1) := by decide +kernel
theorem dX11_near_36 : decode cX11_near 36 = .ok (.iconst 1, 1) := by decide +kernel
theorem dX11_near_37 : decode cX11_near 37 = .ok (.invokevirtual 168, 3) := by decide +kernel
theorem dX11_near_40 : decode cX11_near 40 = .ok (.aload_n 0, 1) := by decide +kernel
theorem dX11_near_41 : decode cX11_near 41 = .ok (.iload_n 1, 1) := by decide +kernel
theorem dX11_near_42 : decode cX11_near 42 = .ok (.iload_n 2, 1) := by decide +kernel
theorem dX11_near_43 : decode cX11_near 43 = .ok (.iconst 3, 1) := by decide +kernel
theorem dX11_near_44 : decode cX11_near 44 = .ok (.invokevirtual 168, 3) := by decide +kernel
theorem dX11_near_47 : decode cX11_near 47 = .ok (.aload_n 0, 1) := by decide +kernel
theorem dX11_near_48 : decode cX11_near 48 = .ok (.iload_n 1, 1) := by decide +kernel
theorem dX11_near_49 : decode cX11_near 49 = .ok (.iload_n 3, 1) := by decide +kernel
theorem dX11_near_50 : decode cX11_near 50 = .ok (.iconst 1, 1) := by decide +kernel
theorem dX11_near_51 : decode cX11_near 51 = .ok (.invokevirtual 168, 3) := by decide +kernel
theorem dX11_near_54 : decode cX11_near 54 = .ok (.aload_n 0, 1) := by decide +kernel
theorem dX11_near_55 : decode cX11_near 55 = .ok (.iload_n 1, 1) := by decide +kernel
theorem dX11_near_56 : decode cX11_near 56 = .ok (.iload_n 3, 1) := by decide +kernel
theorem dX11_near_57 : decode cX11_near 57 = .ok (.iconst 3, 1) := by decide +kernel
theorem dX11_near_58 : decode cX11_near 58 = .ok (.invokevirtual 168, 3) := by decide +kernel
theorem dX11_near_61 : decode cX11_near 61 = .ok (.invokestatic 180, 3) := by decide +kernel
theorem dX11_near_64 : decode cX11_near 64 = .ok (.istore 5, 2) := by decide +kernel
theorem dX11_near_66 : decode cX11_near 66 = .ok (.iload 4, 2) := by decide +kernel
theorem dX11_near_68 : decode cX11_near 68 = .ok (.iload 5, 2) := by decide +kernel
theorem dX11_near_70 : decode cX11_near 70 = .ok (.iadd, 1) := by decide +kernel
theorem dX11_near_71 : decode cX11_near 71 = .ok (.iconst 1, 1) := by decide +kernel
theorem dX11_near_72 : decode cX11_near 72 = .ok (.if_icmp .gt 7, 3) := by decide +kernel
theorem dX11_near_75 : decode cX11_near 75 = .ok (.iconst 1, 1) := by decide +kernel
theorem dX11_near_76 : decode cX11_near 76 = .ok (.goto 4, 3) := by decide +kernel
theorem dX11_near_79 : decode cX11_near 79 = .ok (.iconst 0, 1) := by decide +kernel
theorem dX11_near_80 : decode cX11_near 80 = .ok (.ireturn, 1) := by decide +kernel
theorem dX11_boxAt_0 : decode cX11_boxAt 0 = .ok (.iconst 0, 1) := by decide +kernel
theorem dX11_boxAt_1 : decode cX11_boxAt 1 = .ok (.istore 4, 2) := by decide +kernel
theorem dX11_boxAt_3 : decode cX11_boxAt 3 = .ok (.iload 4, 2) := by decide +kernel
theorem dX11_boxAt_5 : decode cX11_boxAt 5 = .ok (.aload_n 0, 1) := by decide +kernel
theorem dX11_boxAt_6 : decode cX11_boxAt 6 = .ok (.getfield 24, 3) := by decide +kernel
theorem dX11_boxAt_9 : decode cX11_boxAt 9 = .ok (.iload_n 1, 1) := by decide +kernel
theorem dX11_boxAt_10 : decode cX11_boxAt 10 = .ok (.iaload, 1) := by decide +kernel
theorem dX11_boxAt_11 : decode cX11_boxAt 11 = .ok (.if_icmp .ge 34, 3) := by decide +kernel
theorem dX11_boxAt_14 : decode cX11_boxAt 14 = .ok (.aload_n 0, 1) := by decide +kernel
theorem dX11_boxAt_15 : decode cX11_boxAt 15 = .ok (.iload_n 1, 1) := by decide +kernel
theorem dX11_boxAt_16 : decode cX11_boxAt 16 = .ok (.iload 4, 2) := by decide +kernel
theorem dX11_boxAt_18 : decode cX11_boxAt 18 = .ok (.invokevirtual 184, 3) := by decide +kernel
theorem dX11_boxAt_21 : decode cX11_boxAt 21 = .ok (.ifCond .eq 18, 3) := by decide +kernel
theorem dX11_boxAt_24 : decode cX11_boxAt 24 = .ok (.aload_n 0, 1) := by decide +kernel
theorem dX11_boxAt_25 : decode cX11_boxAt 25 = .ok (.iload_n 1, 1) := by decide +kernel
theorem dX11_boxAt_26 : decode cX11_boxAt 26 = .ok (.iload 4, 2) := by decide +kernel
theorem dX11_boxAt_28 : decode cX11_boxAt 28 = .ok (.iload_n 2, 1) := by decide +kernel
theorem dX11_boxAt_29 : decode cX11_boxAt 29 = .ok (.iload_n 3, 1) := by decide +kernel
theorem dX11_boxAt_30 : decode cX11_boxAt 30 = .ok (.invokevirtual 188, 3) := by decide +kernel
theorem dX11_boxAt_33 : decode cX11_boxAt 33 = .ok (.ifCond .eq 6, 3) := by decide +kernel
theorem dX11_boxAt_36 : decode cX11_boxAt 36 = .ok (.iload 4, 2) := by decide +kernel
theorem dX11_boxAt_38 : decode cX11_boxAt 38 = .ok (.ireturn, 1) := by decide +kernel
theorem dX11_boxAt_39 : decode cX11_boxAt 39 = .ok (.iinc 4 1, 3) := by decide +kernel
theorem dX11_boxAt_42 : decode cX11_boxAt 42 = .ok (.goto (-39), 3) := by decide +kernel
theorem dX11_boxAt_45 : decode cX11_boxAt 45 = .ok (.iconst (-1), 1) := by decide +kernel
theorem dX11_boxAt_46 : decode cX11_boxAt 46 = .ok (.ireturn, 1) := by decide +kernel
theorem dX11_boxOf_0 : decode cX11_boxOf 0 = .ok (.aload_n 0, 1) := by decide +kernel
theorem dX11_boxOf_1 : decode cX11_boxOf 1 = .ok (.aload_n 0, 1) := by decide +kernel
theorem dX11_boxOf_2 : decode cX11_boxOf 2 = .ok (.iload_n 1, 1) := by decide +kernel
theorem dX11_boxOf_3 : decode cX11_boxOf 3 = .ok (.iconst 0, 1) := by decide +kernel
theorem dX11_boxOf_4 : decode cX11_boxOf 4 = .ok (.invokevirtual 192, 3) := by decide +kernel
theorem dX11_boxOf_7 : decode cX11_boxOf 7 = .ok (.aload_n 0, 1) := by decide +kernel
theorem dX11_boxOf_8 : decode cX11_boxOf 8 = .ok (.iload_n 1, 1) := by decide +kernel
theorem dX11_boxOf_9 : decode cX11_boxOf 9 = .ok (.iconst 1, 1) := by decide +kernel
theorem dX11_boxOf_10 : decode cX11_boxOf 10 = .ok (.invokevirtual 192, 3) := by decide +kernel
theorem dX11_boxOf_13 : decode cX11_boxOf 13 = .ok (.aload_n 0, 1) := by decide +kernel
theorem dX11_boxOf_14 : decode cX11_boxOf 14 = .ok (.iload_n 1, 1) := by decide +kernel
theorem dX11_boxOf_15 : decode cX11_boxOf 15 = .ok (.iconst 2, 1) := by decide +kernel
theorem dX11_boxOf_16 : decode cX11_boxOf 16 = .ok (.invokevirtual 192, 3) := by decide +kernel
theorem dX11_boxOf_19 : decode cX11_boxOf 19 = .ok (.invokevirtual 195, 3) := by decide +kernel
theorem dX11_boxOf_22 : decode cX11_boxOf 22 = .ok (.ireturn, 1) := by decide +kernel
theorem dX11_ways_0 : decode cX11_ways 0 = .ok (.iconst 0, 1) := by decide +kernel
theorem dX11_ways_1 : decode cX11_ways 1 = .ok (.istore_n 3, 1) := by decide +kernel
theorem dX11_ways_2 : decode cX11_ways 2 = .ok (.iload_n 3, 1) := by decide +kernel
theorem dX11_ways_3 : decode cX11_ways 3 = .ok (.bipush 16, 2) := by decide +kernel
theorem dX11_ways_5 : decode cX11_ways 5 = .ok (.if_icmp .ge 25, 3) := by decide +kernel
theorem dX11_ways_8 : decode cX11_ways 8 = .ok (.aload_n 0, 1) := by decide +kernel
theorem dX11_ways_9 : decode cX11_ways 9 = .ok (.getfield 63, 3) := by decide +kernel
theorem dX11_ways_12 : decode cX11_ways 12 = .ok (.iload_n 3, 1) := by decide +kernel
theorem dX11_ways_13 : decode cX11_ways 13 = .ok (.iload_n 3, 1) := by decide +kernel
theorem dX11_ways_14 : decode cX11_ways 14 = .ok (.iload_n 2, 1) := by decide +kernel
theorem dX11_ways_15 : decode cX11_ways 15 = .ok (.if_icmp .ne 7, 3) := by decide +kernel
theorem dX11_ways_18 : decode cX11_ways 18 = .ok (.iconst 1, 1) := by decide +kernel
theorem dX11_ways_19 : decode cX11_ways 19 = .ok (.goto 4, 3) := by decide +kernel
theorem dX11_ways_22 : decode cX11_ways 22 = .ok (.iconst 0, 1) := by decide +kernel
theorem dX11_ways_23 : decode cX11_ways 23 = .ok (.iastore, 1) := by decide +kernel
theorem dX11_ways_24 : decode cX11_ways 24 = .ok (.iinc 3 1, 3) := by decide +kernel
theorem dX11_ways_27 : decode cX11_ways 27 = .ok (.goto (-25), 3) := by decide +kernel
theorem dX11_ways_30 : decode cX11_ways 30 = .ok (.iconst 1, 1) := by decide +kernel
theorem dX11_ways_31 : decode cX11_ways 31 = .ok (.istore_n 3, 1) := by decide +kernel
theorem dX11_ways_32 : decode cX11_ways 32 = .ok (.iconst 1, 1) := by decide +kernel
theorem dX11_ways_33 : decode cX11_ways 33 = .ok (.istore 4, 2) := by decide +kernel
theorem dX11_ways_35 : decode cX11_ways 35 = .ok (.iload_n 3, 1) := by decide +kernel
theorem dX11_ways_36 : decode cX11_ways 36 = .ok (.ifCond .eq 108, 3) := by decide +kernel
theorem dX11_ways_39 : decode cX11_ways 39 = .ok (.iconst 0, 1) := by decide +kernel
theorem dX11_ways_40 : decode cX11_ways 40 = .ok (.istore_n 3, 1) := by decide +kernel
theorem dX11_ways_41 : decode cX11_ways 41 = .ok (.iconst 0, 1) := by decide +kernel
theorem dX11_ways_42 : decode cX11_ways 42 = .ok (.istore 5, 2) := by decide +kernel
theorem dX11_ways_44 : decode cX11_ways 44 = .ok (.iload 5, 2) := by decide +kernel
theorem dX11_ways_46 : decode cX11_ways 46 = .ok (.aload_n 0, 1) := by decide +kernel
theorem dX11_ways_47 : decode cX11_ways 47 = .ok (.getfield 24, 3) := by decide +kernel
theorem dX11_ways_50 : decode cX11_ways 50 = .ok (.iload_n 1, 1) := by decide +kernel
theorem dX11_ways_51 : decode cX11_ways 51 = .ok (.iaload, 1) := by decide +kernel
theorem dX11_ways_52 : decode cX11_ways 52 = .ok (.if_icmp .ge 86, 3) := by decide +kernel
theorem dX11_ways_55 : decode cX11_ways 55 = .ok (.iconst 0, 1) := by decide +kernel
theorem dX11_ways_56 : decode cX11_ways 56 = .ok (.istore 6, 2) := by decide +kernel
theorem dX11_ways_58 : decode cX11_ways 58 = .ok (.iload 6, 2) := by decide +kernel
theorem dX11_ways_60 : decode cX11_ways 60 = .ok (.aload_n 0, 1) := by decide +kernel
theorem dX11_ways_61 : decode cX11_ways 61 = .ok (.getfield 24, 3) := by decide +kernel
theorem dX11_ways_64 : decode cX11_ways 64 = .ok (.iload_n 1, 1) := by decide +kernel
theorem dX11_ways_65 : decode cX11_ways 65 = .ok (.iaload, 1) := by decide +kernel
theorem dX11_ways_66 : decode cX11_ways 66 = .ok (.if_icmp .ge 66, 3) := by decide +kernel
theorem dX11_ways_69 : decode cX11_ways 69 = .ok (.aload_n 0, 1) := by decide +kernel
theorem dX11_ways_70 : decode cX11_ways 70 = .ok (.getfield 63, 3) := by decide +kernel
theorem dX11_ways_73 : decode cX11_ways 73 = .ok (.iload 5, 2) := by decide +kernel
theorem dX11_ways_75 : decode cX11_ways 75 = .ok (.iaload, 1) := by decide +kernel
theorem dX11_ways_76 : decode cX11_ways 76 = .ok (.iload 4, 2) := by decide +kernel
theorem dX11_ways_78 : decode cX11_ways 78 = .ok (.if_icmp .ne 54, 3) := by decide +kernel
theorem dX11_ways_81 : decode cX11_ways 81 = .ok (.aload_n 0, 1) := by decide +kernel
theorem dX11_ways_82 : decode cX11_ways 82 = .ok (.getfield 63, 3) := by decide +kernel
theorem dX11_ways_85 : decode cX11_ways 85 = .ok (.iload 6, 2) := by decide +kernel
theorem dX11_ways_87 : decode cX11_ways 87 = .ok (.iaload, 1) := by decide +kernel
theorem dX11_ways_88 : decode cX11_ways 88 = .ok (.ifCond .ne 38, 3) := by decide +kernel
theorem dX11_ways_91 : decode cX11_ways 91 = .ok (.aload_n 0, 1) := by decide +kernel
theorem dX11_ways_92 : decode cX11_ways 92 = .ok (.iload_n 1, 1) := by decide +kernel
theorem dX11_ways_93 : decode cX11_ways 93 = .ok (.iload 6, 2) := by decide +kernel
theorem dX11_ways_95 : decode cX11_ways 95 = .ok (.invokevirtual 184, 3) := by decide +kernel
theorem dX11_ways_98 : decode cX11_ways 98 = .ok (.ifCond .eq 28, 3) := by decide +kernel
theorem dX11_ways_101 : decode cX11_ways 101 = .ok (.aload_n 0, 1) := by decide +kernel
theorem dX11_ways_102 : decode cX11_ways 102 = .ok (.iload_n 1, 1) := by decide +kernel
theorem dX11_ways_103 : decode cX11_ways 103 = .ok (.iload 5, 2) := by decide +kernel
theorem dX11_ways_105 : decode cX11_ways 105 = .ok (.iload 6, 2) := by decide +kernel
theorem dX11_ways_107 : decode cX11_ways 107 = .ok (.invokevirtual 198, 3) := by decide +kernel
theorem dX11_ways_110 : decode cX11_ways 110 = .ok (.ifCond .eq 16, 3) := by decide +kernel
theorem dX11_ways_113 : decode cX11_ways 113 = .ok (.aload_n 0, 1) := by decide +kernel
theorem dX11_ways_114 : decode cX11_ways 114 = .ok (.getfield 63, 3) := by decide +kernel
theorem dX11_ways_117 : decode cX11_ways 117 = .ok (.iload 6, 2) := by decide +kernel
theorem dX11_ways_119 : decode cX11_ways 119 = .ok (.iload 4, 2) := by decide +kernel
theorem dX11_ways_121 : decode cX11_ways 121 = .ok (.iconst 1, 1) := by decide +kernel
theorem dX11_ways_122 : decode cX11_ways 122 = .ok (.iadd, 1) := by decide +kernel
theorem dX11_ways_123 : decode cX11_ways 123 = .ok (.iastore, 1) := by decide +kernel
theorem dX11_ways_124 : decode cX11_ways 124 = .ok (.iconst 1, 1) := by decide +kernel
theorem dX11_ways_125 : decode cX11_ways 125 = .ok (.istore_n 3, 1) := by decide +kernel
theorem dX11_ways_126 : decode cX11_ways 126 = .ok (.iinc 6 1, 3) := by decide +kernel
theorem dX11_ways_129 : decode cX11_ways 129 = .ok (.goto (-71), 3) := by decide +kernel
theorem dX11_ways_132 : decode cX11_ways 132 = .ok (.iinc 5 1, 3) := by decide +kernel
theorem dX11_ways_135 : decode cX11_ways 135 = .ok (.goto (-91), 3) := by decide +kernel
theorem dX11_ways_138 : decode cX11_ways 138 = .ok (.iinc 4 1, 3) := by decide +kernel
theorem dX11_ways_141 : decode cX11_ways 141 = .ok (.goto (-106), 3) := by decide +kernel
theorem dX11_ways_144 : decode cX11_ways 144 = .ok (.return_, 1) := by decide +kernel
theorem dX11_within_0 : decode cX11_within 0 = .ok (.iload_n 1, 1) := by decide +kernel
theorem dX11_within_1 : decode cX11_within 1 = .ok (.iload_n 2, 1) := by decide +kernel
theorem dX11_within_2 : decode cX11_within 2 = .ok (.iload_n 0, 1) := by decide +kernel
theorem dX11_within_3 : decode cX11_within 3 = .ok (.invokestatic 177, 3) := by decide +kernel
theorem dX11_within_6 : decode cX11_within 6 = .ok (.invokestatic 172, 3) := by decide +kernel
theorem dX11_within_9 : decode cX11_within 9 = .ok (.ireturn, 1) := by decide +kernel
theorem dX11_goals_0 : decode cX11_goals 0 = .ok (.aload_n 0, 1) := by decide +kernel
theorem dX11_goals_1 : decode cX11_goals 1 = .ok (.iload_n 1, 1) := by decide +kernel
theorem dX11_goals_2 : decode cX11_goals 2 = .ok (.iload_n 2, 1) := by decide +kernel
theorem dX11_goals_3 : decode cX11_goals 3 = .ok (.invokevirtual 202, 3) := by decide +kernel
theorem dX11_goals_6 : decode cX11_goals 6 = .ok (.ldc 207, 2) := by decide +kernel
theorem dX11_goals_8 : decode cX11_goals 8 = .ok (.istore 5, 2) := by decide +kernel
theorem dX11_goals_10 : decode cX11_goals 10 = .ok (.iconst 0, 1) := by decide +kernel
theorem dX11_goals_11 : decode cX11_goals 11 = .ok (.istore 6, 2) := by decide +kernel
theorem dX11_goals_13 : decode cX11_goals 13 = .ok (.iload 6, 2) := by decide +kernel
theorem dX11_goals_15 : decode cX11_goals 15 = .ok (.aload_n 0, 1) := by decide +kernel
theorem dX11_goals_16 : decode cX11_goals 16 = .ok (.getfield 24, 3) := by decide +kernel
theorem dX11_goals_19 : decode cX11_goals 19 = .ok (.iload_n 1, 1) := by decide +kernel
theorem dX11_goals_20 : decode cX11_goals 20 = .ok (.iaload, 1) := by decide +kernel
theorem dX11_goals_21 : decode cX11_goals 21 = .ok (.if_icmp .ge 119, 3) := by decide +kernel
theorem dX11_goals_24 : decode cX11_goals 24 = .ok (.aload_n 0, 1) := by decide +kernel
theorem dX11_goals_25 : decode cX11_goals 25 = .ok (.getfield 63, 3) := by decide +kernel
theorem dX11_goals_28 : decode cX11_goals 28 = .ok (.iload 6, 2) := by decide +kernel
theorem dX11_goals_30 : decode cX11_goals 30 = .ok (.iaload, 1) := by decide +kernel
theorem dX11_goals_31 : decode cX11_goals 31 = .ok (.ifCond .ne 6, 3) := by decide +kernel
theorem dX11_goals_34 : decode cX11_goals 34 = .ok (.goto 100, 3) := by decide +kernel
theorem dX11_goals_37 : decode cX11_goals 37 = .ok (.iload_n 3, 1) := by decide +kernel
theorem dX11_goals_38 : decode cX11_goals 38 = .ok (.aload_n 0, 1) := by decide +kernel
theorem dX11_goals_39 : decode cX11_goals 39 = .ok (.iload_n 1, 1) := by decide +kernel
theorem dX11_goals_40 : decode cX11_goals 40 = .ok (.iload 6, 2) := by decide +kernel
theorem dX11_goals_42 : decode cX11_goals 42 = .ok (.iconst 0, 1) := by decide +kernel
theorem dX11_goals_43 : decode cX11_goals 43 = .ok (.invokevirtual 168, 3) := by decide +kernel
theorem dX11_goals_46 : decode cX11_goals 46 = .ok (.aload_n 0, 1) := by decide +kernel
theorem dX11_goals_47 : decode cX11_goals 47 = .ok (.iload_n 1, 1) := by decide +kernel
theorem dX11_goals_48 : decode cX11_goals 48 = .ok (.iload 6, 2) := by decide +kernel
theorem dX11_goals_50 : decode cX11_goals 50 = .ok (.iconst 2, 1) := by decide +kernel
theorem dX11_goals_51 : decode cX11_goals 51 = .ok (.invokevirtual 168, 3) := by decide +kernel
theorem dX11_goals_54 : decode cX11_goals 54 = .ok (.invokestatic 208, 3) := by decide +kernel
theorem dX11_goals_57 : decode cX11_goals 57 = .ok (.istore 7, 2) := by decide +kernel
theorem dX11_goals_59 : decode cX11_goals 59 = .ok (.iload 4, 2) := by decide +kernel
theorem dX11_goals_61 : decode cX11_goals 61 = .ok (.aload_n 0, 1) := by decide +kernel
theorem dX11_goals_62 : decode cX11_goals 62 = .ok (.iload_n 1, 1) := by decide +kernel
theorem dX11_goals_63 : decode cX11_goals 63 = .ok (.iload 6, 2) := by decide +kernel
theorem dX11_goals_65 : decode cX11_goals 65 = .ok (.iconst 1, 1) := by decide +kernel
theorem dX11_goals_66 : decode cX11_goals 66 = .ok (.invokevirtual 168, 3) := by decide +kernel
theorem dX11_goals_69 : decode cX11_goals 69 = .ok (.aload_n 0, 1) := by decide +kernel
theorem dX11_goals_70 : decode cX11_goals 70 = .ok (.iload_n 1, 1) := by decide +kernel
theorem dX11_goals_71 : decode cX11_goals 71 = .ok (.iload 6, 2) := by decide +kernel
theorem dX11_goals_73 : decode cX11_goals 73 = .ok (.iconst 3, 1) := by decide +kernel
theorem dX11_goals_74 : decode cX11_goals 74 = .ok (.invokevirtual 168, 3) := by decide +kernel
theorem dX11_goals_77 : decode cX11_goals 77 = .ok (.invokestatic 208, 3) := by decide +kernel
theorem dX11_goals_80 : decode cX11_goals 80 = .ok (.istore 8, 2) := by decide +kernel
theorem dX11_goals_82 : decode cX11_goals 82 = .ok (.iload_n 3, 1) := by decide +kernel
theorem dX11_goals_83 : decode cX11_goals 83 = .ok (.iload 7, 2) := by decide +kernel
theorem dX11_goals_85 : decode cX11_goals 85 = .ok (.isub, 1) := by decide +kernel
theorem dX11_goals_86 : decode cX11_goals 86 = .ok (.iload_n 3, 1) := by decide +kernel
theorem dX11_goals_87 : decode cX11_goals 87 = .ok (.iload 7, 2) := by decide +kernel
theorem dX11_goals_89 : decode cX11_goals 89 = .ok (.isub, 1) := by decide +kernel
theorem dX11_goals_90 : decode cX11_goals 90 = .ok (.imul, 1) := by decide +kernel
theorem dX11_goals_91 : decode cX11_goals 91 = .ok (.iload 4, 2) := by decide +kernel
theorem dX11_goals_93 : decode cX11_goals 93 = .ok (.iload 8, 2) := by decide +kernel
theorem dX11_goals_95 : decode cX11_goals 95 = .ok (.isub, 1) := by decide +kernel
theorem dX11_goals_96 : decode cX11_goals 96 = .ok (.iload 4, 2) := by decide +kernel
theorem dX11_goals_98 : decode cX11_goals 98 = .ok (.iload 8, 2) := by decide +kernel
theorem dX11_goals_100 : decode cX11_goals 100 = .ok (.isub, 1) := by decide +kernel
theorem dX11_goals_101 : decode cX11_goals 101 = .ok (.imul, 1) := by decide +kernel
theorem dX11_goals_102 : decode cX11_goals 102 = .ok (.iadd, 1) := by decide +kernel
theorem dX11_goals_103 : decode cX11_goals 103 = .ok (.istore 9, 2) := by decide +kernel
theorem dX11_goals_105 : decode cX11_goals 105 = .ok (.iload 9, 2) := by decide +kernel
theorem dX11_goals_107 : decode cX11_goals 107 = .ok (.iload 5, 2) := by decide +kernel
theorem dX11_goals_109 : decode cX11_goals 109 = .ok (.if_icmp .ge 25, 3) := by decide +kernel
theorem dX11_goals_112 : decode cX11_goals 112 = .ok (.iload 9, 2) := by decide +kernel
theorem dX11_goals_114 : decode cX11_goals 114 = .ok (.istore 5, 2) := by decide +kernel
theorem dX11_goals_116 : decode cX11_goals 116 = .ok (.aload_n 0, 1) := by decide +kernel
theorem dX11_goals_117 : decode cX11_goals 117 = .ok (.iload 6, 2) := by decide +kernel
theorem dX11_goals_119 : decode cX11_goals 119 = .ok (.putfield 211, 3) := by decide +kernel
theorem dX11_goals_122 : decode cX11_goals 122 = .ok (.aload_n 0, 1) := by decide +kernel
theorem dX11_goals_123 : decode cX11_goals 123 = .ok (.iload 7, 2) := by decide +kernel
theorem dX11_goals_125 : decode cX11_goals 125 = .ok (.putfield 214, 3) := by decide +kernel
theorem dX11_goals_128 : decode cX11_goals 128 = .ok (.aload_n 0, 1) := by decide +kernel
theorem dX11_goals_129 : decode cX11_goals 129 = .ok (.iload 8, 2) := by decide +kernel
theorem dX11_goals_131 : decode cX11_goals 131 = .ok (.putfield 217, 3) := by decide +kernel
theorem dX11_goals_134 : decode cX11_goals 134 = .ok (.iinc 6 1, 3) := by decide +kernel
theorem dX11_goals_137 : decode cX11_goals 137 = .ok (.goto (-124), 3) := by decide +kernel
theorem dX11_goals_140 : decode cX11_goals 140 = .ok (.return_, 1) := by decide +kernel
theorem dX11_step_0 : decode cX11_step 0 = .ok (.aload_n 0, 1) := by decide +kernel
theorem dX11_step_1 : decode cX11_step 1 = .ok (.iload_n 1, 1) := by decide +kernel
theorem dX11_step_2 : decode cX11_step 2 = .ok (.iconst 0, 1) := by decide +kernel
theorem dX11_step_3 : decode cX11_step 3 = .ok (.invokevirtual 192, 3) := by decide +kernel
theorem dX11_step_6 : decode cX11_step 6 = .ok (.istore_n 2, 1) := by decide +kernel
theorem dX11_step_7 : decode cX11_step 7 = .ok (.aload_n 0, 1) := by decide +kernel
theorem dX11_step_8 : decode cX11_step 8 = .ok (.iload_n 1, 1) := by decide +kernel
theorem dX11_step_9 : decode cX11_step 9 = .ok (.iconst 1, 1) := by decide +kernel
theorem dX11_step_10 : decode cX11_step 10 = .ok (.invokevirtual 192, 3) := by decide +kernel
theorem dX11_step_13 : decode cX11_step 13 = .ok (.istore_n 3, 1) := by decide +kernel
theorem dX11_step_14 : decode cX11_step 14 = .ok (.aload_n 0, 1) := by decide +kernel
theorem dX11_step_15 : decode cX11_step 15 = .ok (.iload_n 1, 1) := by decide +kernel
theorem dX11_step_16 : decode cX11_step 16 = .ok (.iconst 2, 1) := by decide +kernel
theorem dX11_step_17 : decode cX11_step 17 = .ok (.invokevirtual 192, 3) := by decide +kernel
theorem dX11_step_20 : decode cX11_step 20 = .ok (.istore 4, 2) := by decide +kernel
theorem dX11_step_22 : decode cX11_step 22 = .ok (.aload_n 0, 1) := by decide +kernel
theorem dX11_step_23 : decode cX11_step 23 = .ok (.iload_n 1, 1) := by decide +kernel
theorem dX11_step_24 : decode cX11_step 24 = .ok (.invokevirtual 220, 3) := by decide +kernel
theorem dX11_step_27 : decode cX11_step 27 = .ok (.istore 5, 2) := by decide +kernel
theorem dX11_step_29 : decode cX11_step 29 = .ok (.iload 5, 2) := by decide +kernel
theorem dX11_step_31 : decode cX11_step 31 = .ok (.ifCond .ge 11, 3) := by decide +kernel
theorem dX11_step_34 : decode cX11_step 34 = .ok (.aload_n 0, 1) := by decide +kernel
theorem dX11_step_35 : decode cX11_step 35 = .ok (.iload_n 1, 1) := by decide +kernel
theorem dX11_step_36 : decode cX11_step 36 = .ok (.iconst 4, 1) := by decide +kernel
theorem dX11_step_37 : decode cX11_step 37 = .ok (.iconst 0, 1) := by decide +kernel
theorem dX11_step_38 : decode cX11_step 38 = .ok (.invokevirtual 223, 3) := by decide +kernel
theorem dX11_step_41 : decode cX11_step 41 = .ok (.return_, 1) := by decide +kernel
theorem dX11_step_42 : decode cX11_step 42 = .ok (.aload_n 0, 1) := by decide +kernel
theorem dX11_step_43 : decode cX11_step 43 = .ok (.iload_n 2, 1) := by decide +kernel
theorem dX11_step_44 : decode cX11_step 44 = .ok (.iload 5, 2) := by decide +kernel
theorem dX11_step_46 : decode cX11_step 46 = .ok (.aload_n 0, 1) := by decide +kernel
theorem dX11_step_47 : decode cX11_step 47 = .ok (.iload_n 1, 1) := by decide +kernel
theorem dX11_step_48 : decode cX11_step 48 = .ok (.iconst 5, 1) := by decide +kernel
theorem dX11_step_49 : decode cX11_step 49 = .ok (.invokevirtual 192, 3) := by decide +kernel
theorem dX11_step_52 : decode cX11_step 52 = .ok (.aload_n 0, 1) := by decide +kernel
theorem dX11_step_53 : decode cX11_step 53 = .ok (.iload_n 1, 1) := by decide +kernel
theorem dX11_step_54 : decode cX11_step 54 = .ok (.bipush 6, 2) := by decide +kernel
theorem dX11_step_56 : decode cX11_step 56 = .ok (.invokevirtual 192, 3) := by decide +kernel
theorem dX11_step_59 : decode cX11_step 59 = .ok (.invokevirtual 226, 3) := by decide +kernel
theorem dX11_step_62 : decode cX11_step 62 = .ok (.iload_n 3, 1) := by decide +kernel
theorem dX11_step_63 : decode cX11_step 63 = .ok (.aload_n 0, 1) := by decide +kernel
theorem dX11_step_64 : decode cX11_step 64 = .ok (.getfield 214, 3) := by decide +kernel
theorem dX11_step_67 : decode cX11_step 67 = .ok (.if_icmp .ne 20, 3) := by decide +kernel
theorem dX11_step_70 : decode cX11_step 70 = .ok (.iload 4, 2) := by decide +kernel
theorem dX11_step_72 : decode cX11_step 72 = .ok (.aload_n 0, 1) := by decide +kernel
theorem dX11_step_73 : decode cX11_step 73 = .ok (.getfield 217, 3) := by decide +kernel
theorem dX11_step_76 : decode cX11_step 76 = .ok (.if_icmp .ne 11, 3) := by decide +kernel
theorem dX11_step_79 : decode cX11_step 79 = .ok (.aload_n 0, 1) := by decide +kernel
theorem dX11_step_80 : decode cX11_step 80 = .ok (.iload_n 1, 1) := by decide +kernel
theorem dX11_step_81 : decode cX11_step 81 = .ok (.iconst 4, 1) := by decide +kernel
theorem dX11_step_82 : decode cX11_step 82 = .ok (.iconst 0, 1) := by decide +kernel
theorem dX11_step_83 : decode cX11_step 83 = .ok (.invokevirtual 223, 3) := by decide +kernel
theorem dX11_step_86 : decode cX11_step 86 = .ok (.return_, 1) := by decide +kernel
theorem dX11_step_87 : decode cX11_step 87 = .ok (.aload_n 0, 1) := by decide +kernel
theorem dX11_step_88 : decode cX11_step 88 = .ok (.getfield 214, 3) := by decide +kernel
theorem dX11_step_91 : decode cX11_step 91 = .ok (.istore 6, 2) := by decide +kernel
theorem dX11_step_93 : decode cX11_step 93 = .ok (.aload_n 0, 1) := by decide +kernel
theorem dX11_step_94 : decode cX11_step 94 = .ok (.getfield 217, 3) := by decide +kernel
theorem dX11_step_97 : decode cX11_step 97 = .ok (.istore 7, 2) := by decide +kernel
theorem dX11_step_99 : decode cX11_step 99 = .ok (.iload 5, 2) := by decide +kernel
theorem dX11_step_101 : decode cX11_step 101 = .ok (.istore 8, 2) := by decide +kernel
theorem dX11_step_103 : decode cX11_step 103 = .ok (.aload_n 0, 1) := by decide +kernel
theorem dX11_step_104 : decode cX11_step 104 = .ok (.iload_n 2, 1) := by decide +kernel
theorem dX11_step_105 : decode cX11_step 105 = .ok (.iload 5, 2) := by decide +kernel
theorem dX11_step_107 : decode cX11_step 107 = .ok (.aload_n 0, 1) := by decide +kernel
theorem dX11_step_108 : decode cX11_step 108 = .ok (.getfield 214, 3) := by decide +kernel
theorem dX11_step_111 : decode cX11_step 111 = .ok (.aload_n 0, 1) := by decide +kernel
theorem dX11_step_112 : decode cX11_step 112 = .ok (.getfield 217, 3) := by decide +kernel
theorem dX11_step_115 : decode cX11_step 115 = .ok (.invokevirtual 188, 3) := by decide +kernel
theorem dX11_step_118 : decode cX11_step 118 = .ok (.ifCond .ne 117, 3) := by decide +kernel
theorem dX11_step_121 : decode cX11_step 121 = .ok (.aload_n 0, 1) := by decide +kernel
theorem dX11_step_122 : decode cX11_step 122 = .ok (.iload_n 2, 1) := by decide +kernel
theorem dX11_step_123 : decode cX11_step 123 = .ok (.aload_n 0, 1) := by decide +kernel
theorem dX11_step_124 : decode cX11_step 124 = .ok (.getfield 211, 3) := by decide +kernel
theorem dX11_step_127 : decode cX11_step 127 = .ok (.invokevirtual 202, 3) := by decide +kernel
theorem dX11_step_130 : decode cX11_step 130 = .ok (.iconst 0, 1) := by decide +kernel
theorem dX11_step_131 : decode cX11_step 131 = .ok (.istore 8, 2) := by decide +kernel
theorem dX11_step_133 : decode cX11_step 133 = .ok (.aload_n 0, 1) := by decide +kernel
theorem dX11_step_134 : decode cX11_step 134 = .ok (.getfield 63, 3) := by decide +kernel
theorem dX11_step_137 : decode cX11_step 137 = .ok (.iload 8, 2) := by decide +kernel
theorem dX11_step_139 : decode cX11_step 139 = .ok (.iaload, 1) := by decide +kernel
theorem dX11_step_140 : decode cX11_step 140 = .ok (.ifCond .le 44, 3) := by decide +kernel
theorem dX11_step_143 : decode cX11_step 143 = .ok (.aload_n 0, 1) := by decide +kernel
theorem dX11_step_144 : decode cX11_step 144 = .ok (.getfield 63, 3) := by decide +kernel
theorem dX11_step_147 : decode cX11_step 147 = .ok (.iload 8, 2) := by decide +kernel
theorem dX11_step_149 : decode cX11_step 149 = .ok (.iaload, 1) := by decide +kernel
theorem dX11_step_150 : decode cX11_step 150 = .ok (.aload_n 0, 1) := by decide +kernel
theorem dX11_step_151 : decode cX11_step 151 = .ok (.getfield 63, 3) := by decide +kernel
theorem dX11_step_154 : decode cX11_step 154 = .ok (.iload 5, 2) := by decide +kernel
theorem dX11_step_156 : decode cX11_step 156 = .ok (.iaload, 1) := by decide +kernel
theorem dX11_step_157 : decode cX11_step 157 = .ok (.iconst 1, 1) := by decide +kernel
theorem dX11_step_158 : decode cX11_step 158 = .ok (.isub, 1) := by decide +kernel
theorem dX11_step_159 : decode cX11_step 159 = .ok (.if_icmp .ne 25, 3) := by decide +kernel
theorem dX11_step_162 : decode cX11_step 162 = .ok (.aload_n 0, 1) := by decide +kernel
theorem dX11_step_163 : decode cX11_step 163 = .ok (.iload_n 2, 1) := by decide +kernel
theorem dX11_step_164 : decode cX11_step 164 = .ok (.iload 8, 2) := by decide +kernel
theorem dX11_step_166 : decode cX11_step 166 = .ok (.invokevirtual 184, 3) := by decide +kernel
theorem dX11_step_169 : decode cX11_step 169 = .ok (.ifCond .eq 15, 3) := by decide +kernel
theorem dX11_step_172 : decode cX11_step 172 = .ok (.aload_n 0, 1) := by decide +kernel
theorem dX11_step_173 : decode cX11_step 173 = .ok (.iload_n 2, 1) := by decide +kernel
theorem dX11_step_174 : decode cX11_step 174 = .ok (.iload 5, 2) := by decide +kernel
theorem dX11_step_176 : decode cX11_step 176 = .ok (.iload 8, 2) := by decide +kernel
theorem dX11_step_178 : decode cX11_step 178 = .ok (.invokevirtual 198, 3) := by decide +kernel
theorem dX11_step_181 : decode cX11_step 181 = .ok (.ifCond .ne 9, 3) := by decide +kernel
theorem dX11_step_184 : decode cX11_step 184 = .ok (.iinc 8 1, 3) := by decide +kernel
theorem dX11_step_187 : decode cX11_step 187 = .ok (.goto (-54), 3) := by decide +kernel
theorem dX11_step_190 : decode cX11_step 190 = .ok (.iload_n 3, 1) := by decide +kernel
theorem dX11_step_191 : decode cX11_step 191 = .ok (.aload_n 0, 1) := by decide +kernel
theorem dX11_step_192 : decode cX11_step 192 = .ok (.iload_n 2, 1) := by decide +kernel
theorem dX11_step_193 : decode cX11_step 193 = .ok (.iload 8, 2) := by decide +kernel
theorem dX11_step_195 : decode cX11_step 195 = .ok (.iconst 0, 1) := by decide +kernel
theorem dX11_step_196 : decode cX11_step 196 = .ok (.invokevirtual 168, 3) := by decide +kernel
theorem dX11_step_199 : decode cX11_step 199 = .ok (.aload_n 0, 1) := by decide +kernel
theorem dX11_step_200 : decode cX11_step 200 = .ok (.iload_n 2, 1) := by decide +kernel
theorem dX11_step_201 : decode cX11_step 201 = .ok (.iload 8, 2) := by decide +kernel
theorem dX11_step_203 : decode cX11_step 203 = .ok (.iconst 2, 1) := by decide +kernel
theorem dX11_step_204 : decode cX11_step 204 = .ok (.invokevirtual 168, 3) := by decide +kernel
theorem dX11_step_207 : decode cX11_step 207 = .ok (.invokestatic 208, 3) := by decide +kernel
theorem dX11_step_210 : decode cX11_step 210 = .ok (.istore 6, 2) := by decide +kernel
theorem dX11_step_212 : decode cX11_step 212 = .ok (.iload 4, 2) := by decide +kernel
theorem dX11_step_214 : decode cX11_step 214 = .ok (.aload_n 0, 1) := by decide +kernel
theorem dX11_step_215 : decode cX11_step 215 = .ok (.iload_n 2, 1) := by decide +kernel
theorem dX11_step_216 : decode cX11_step 216 = .ok (.iload 8, 2) := by decide +kernel
theorem dX11_step_218 : decode cX11_step 218 = .ok (.iconst 1, 1) := by decide +kernel
theorem dX11_step_219 : decode cX11_step 219 = .ok (.invokevirtual 168, 3) := by decide +kernel
theorem dX11_step_222 : decode cX11_step 222 = .ok (.aload_n 0, 1) := by decide +kernel
theorem dX11_step_223 : decode cX11_step 223 = .ok (.iload_n 2, 1) := by decide +kernel
theorem dX11_step_224 : decode cX11_step 224 = .ok (.iload 8, 2) := by decide +kernel
theorem dX11_step_226 : decode cX11_step 226 = .ok (.iconst 3, 1) := by decide +kernel
theorem dX11_step_227 : decode cX11_step 227 = .ok (.invokevirtual 168, 3) := by decide +kernel
theorem dX11_step_230 : decode cX11_step 230 = .ok (.invokestatic 208, 3) := by decide +kernel
theorem dX11_step_233 : decode cX11_step 233 = .ok (.istore 7, 2) := by decide +kernel
theorem dX11_step_235 : decode cX11_step 235 = .ok (.iload 6, 2) := by decide +kernel
theorem dX11_step_237 : decode cX11_step 237 = .ok (.iload_n 3, 1) := by decide +kernel
theorem dX11_step_238 : decode cX11_step 238 = .ok (.isub, 1) := by decide +kernel
theorem dX11_step_239 : decode cX11_step 239 = .ok (.invokestatic 230, 3) := by decide +kernel
theorem dX11_step_242 : decode cX11_step 242 = .ok (.istore 9, 2) := by decide +kernel
theorem dX11_step_244 : decode cX11_step 244 = .ok (.iload 9, 2) := by decide +kernel
theorem dX11_step_246 : decode cX11_step 246 = .ok (.ifCond .eq 48, 3) := by decide +kernel
theorem dX11_step_249 : decode cX11_step 249 = .ok (.aload_n 0, 1) := by decide +kernel
theorem dX11_step_250 : decode cX11_step 250 = .ok (.iload_n 2, 1) := by decide +kernel
theorem dX11_step_251 : decode cX11_step 251 = .ok (.iload 5, 2) := by decide +kernel
theorem dX11_step_253 : decode cX11_step 253 = .ok (.iload_n 3, 1) := by decide +kernel
theorem dX11_step_254 : decode cX11_step 254 = .ok (.iload 9, 2) := by decide +kernel
theorem dX11_step_256 : decode cX11_step 256 = .ok (.iadd, 1) := by decide +kernel
theorem dX11_step_257 : decode cX11_step 257 = .ok (.iload 4, 2) := by decide +kernel
theorem dX11_step_259 : decode cX11_step 259 = .ok (.invokevirtual 188, 3) := by decide +kernel
theorem dX11_step_262 : decode cX11_step 262 = .ok (.ifCond .ne 19, 3) := by decide +kernel
theorem dX11_step_265 : decode cX11_step 265 = .ok (.aload_n 0, 1) := by decide +kernel
theorem dX11_step_266 : decode cX11_step 266 = .ok (.iload_n 2, 1) := by decide +kernel
theorem dX11_step_267 : decode cX11_step 267 = .ok (.iload 8, 2) := by decide +kernel
theorem dX11_step_269 : decode cX11_step 269 = .ok (.iload_n 3, 1) := by decide +kernel
theorem dX11_step_270 : decode cX11_step 270 = .ok (.iload 9, 2) := by decide +kernel
theorem dX11_step_272 : decode cX11_step 272 = .ok (.iadd, 1) := by decide +kernel
theorem dX11_step_273 : decode cX11_step 273 = .ok (.iload 4, 2) := by decide +kernel
theorem dX11_step_275 : decode cX11_step 275 = .ok (.invokevirtual 188, 3) := by decide +kernel
theorem dX11_step_278 : decode cX11_step 278 = .ok (.ifCond .eq 16, 3) := by decide +kernel
theorem dX11_step_281 : decode cX11_step 281 = .ok (.aload_n 0, 1) := by decide +kernel
theorem dX11_step_282 : decode cX11_step 282 = .ok (.iload_n 1, 1) := by decide +kernel
theorem dX11_step_283 : decode cX11_step 283 = .ok (.iconst 1, 1) := by decide +kernel
theorem dX11_step_284 : decode cX11_step 284 = .ok (.iload_n 3, 1) := by decide +kernel
theorem dX11_step_285 : decode cX11_step 285 = .ok (.iload 9, 2) := by decide +kernel
theorem dX11_step_287 : decode cX11_step 287 = .ok (.iadd, 1) := by decide +kernel
theorem dX11_step_288 : decode cX11_step 288 = .ok (.invokevirtual 223, 3) := by decide +kernel
theorem dX11_step_291 : decode cX11_step 291 = .ok (.goto 20, 3) := by decide +kernel
theorem dX11_step_294 : decode cX11_step 294 = .ok (.aload_n 0, 1) := by decide +kernel
theorem dX11_step_295 : decode cX11_step 295 = .ok (.iload_n 1, 1) := by decide +kernel
theorem dX11_step_296 : decode cX11_step 296 = .ok (.iconst 2, 1) := by decide +kernel
theorem dX11_step_297 : decode cX11_step 297 = .ok (.iload 4, 2) := by decide +kernel
theorem dX11_step_299 : decode cX11_step 299 = .ok (.iload 7, 2) := by decide +kernel
theorem dX11_step_301 : decode cX11_step 301 = .ok (.iload 4, 2) := by decide +kernel
theorem dX11_step_303 : decode cX11_step 303 = .ok (.isub, 1) := by decide +kernel
theorem dX11_step_304 : decode cX11_step 304 = .ok (.invokestatic 230, 3) := by decide +kernel
theorem dX11_step_307 : decode cX11_step 307 = .ok (.iadd, 1) := by decide +kernel
theorem dX11_step_308 : decode cX11_step 308 = .ok (.invokevirtual 223, 3) := by decide +kernel
theorem dX11_step_311 : decode cX11_step 311 = .ok (.return_, 1) := by decide +kernel
theorem dX11_byteOf_0 : decode cX11_byteOf 0 = .ok (.aload_n 0, 1) := by decide +kernel
theorem dX11_byteOf_1 : decode cX11_byteOf 1 = .ok (.aload_n 0, 1) := by decide +kernel
theorem dX11_byteOf_2 : decode cX11_byteOf 2 = .ok (.getfield 233, 3) := by decide +kernel
theorem dX11_byteOf_5 : decode cX11_byteOf 5 = .ok (.iconst 0, 1) := by decide +kernel
theorem dX11_byteOf_6 : decode cX11_byteOf 6 = .ok (.invokevirtual 158, 3) := by decide +kernel
theorem dX11_byteOf_9 : decode cX11_byteOf 9 = .ok (.istore_n 1, 1) := by decide +kernel
theorem dX11_byteOf_10 : decode cX11_byteOf 10 = .ok (.aload_n 0, 1) := by decide +kernel
theorem dX11_byteOf_11 : decode cX11_byteOf 11 = .ok (.getfield 236, 3) := by decide +kernel
theorem dX11_byteOf_14 : decode cX11_byteOf 14 = .ok (.ifCond .ne 16, 3) := by decide +kernel
theorem dX11_byteOf_17 : decode cX11_byteOf 17 = .ok (.aload_n 0, 1) := by decide +kernel
theorem dX11_byteOf_18 : decode cX11_byteOf 18 = .ok (.getfield 239, 3) := by decide +kernel
theorem dX11_byteOf_21 : decode cX11_byteOf 21 = .ok (.aload_n 0, 1) := by decide +kernel
theorem dX11_byteOf_22 : decode cX11_byteOf 22 = .ok (.getfield 33, 3) := by decide +kernel
theorem dX11_byteOf_25 : decode cX11_byteOf 25 = .ok (.iload_n 1, 1) := by decide +kernel
theorem dX11_byteOf_26 : decode cX11_byteOf 26 = .ok (.iaload, 1) := by decide +kernel
theorem dX11_byteOf_27 : decode cX11_byteOf 27 = .ok (.if_icmp .lt 10, 3) := by decide +kernel
theorem dX11_byteOf_30 : decode cX11_byteOf 30 = .ok (.aload_n 0, 1) := by decide +kernel
theorem dX11_byteOf_31 : decode cX11_byteOf 31 = .ok (.iconst 1, 1) := by decide +kernel
theorem dX11_byteOf_32 : decode cX11_byteOf 32 = .ok (.putfield 236, 3) := by decide +kernel
theorem dX11_byteOf_35 : decode cX11_byteOf 35 = .ok (.iconst 0, 1) := by decide +kernel
theorem dX11_byteOf_36 : decode cX11_byteOf 36 = .ok (.ireturn, 1) := by decide +kernel
theorem dX11_byteOf_37 : decode cX11_byteOf 37 = .ok (.aload_n 0, 1) := by decide +kernel
theorem dX11_byteOf_38 : decode cX11_byteOf 38 = .ok (.dup, 1) := by decide +kernel
theorem dX11_byteOf_39 : decode cX11_byteOf 39 = .ok (.getfield 239, 3) := by decide +kernel
theorem dX11_byteOf_42 : decode cX11_byteOf 42 = .ok (.iconst 1, 1) := by decide +kernel
theorem dX11_byteOf_43 : decode cX11_byteOf 43 = .ok (.iadd, 1) := by decide +kernel
theorem dX11_byteOf_44 : decode cX11_byteOf 44 = .ok (.putfield 239, 3) := by decide +kernel
theorem dX11_byteOf_47 : decode cX11_byteOf 47 = .ok (.aload_n 0, 1) := by decide +kernel
theorem dX11_byteOf_48 : decode cX11_byteOf 48 = .ok (.getfield 17, 3) := by decide +kernel
theorem dX11_byteOf_51 : decode cX11_byteOf 51 = .ok (.aload_n 0, 1) := by decide +kernel
theorem dX11_byteOf_52 : decode cX11_byteOf 52 = .ok (.getfield 30, 3) := by decide +kernel
theorem dX11_byteOf_55 : decode cX11_byteOf 55 = .ok (.iload_n 1, 1) := by decide +kernel
theorem dX11_byteOf_56 : decode cX11_byteOf 56 = .ok (.iaload, 1) := by decide +kernel
theorem dX11_byteOf_57 : decode cX11_byteOf 57 = .ok (.aload_n 0, 1) := by decide +kernel
theorem dX11_byteOf_58 : decode cX11_byteOf 58 = .ok (.getfield 239, 3) := by decide +kernel
theorem dX11_byteOf_61 : decode cX11_byteOf 61 = .ok (.iadd, 1) := by decide +kernel
theorem dX11_byteOf_62 : decode cX11_byteOf 62 = .ok (.iconst 1, 1) := by decide +kernel
theorem dX11_byteOf_63 : decode cX11_byteOf 63 = .ok (.isub, 1) := by decide +kernel
theorem dX11_byteOf_64 : decode cX11_byteOf 64 = .ok (.iaload, 1) := by decide +kernel
theorem dX11_byteOf_65 : decode cX11_byteOf 65 = .ok (.ireturn, 1) := by decide +kernel
theorem dX11_count2_0 : decode cX11_count2 0 = .ok (.aload_n 0, 1) := by decide +kernel
theorem dX11_count2_1 : decode cX11_count2 1 = .ok (.invokevirtual 242, 3) := by decide +kernel
theorem dX11_count2_4 : decode cX11_count2 4 = .ok (.istore_n 1, 1) := by decide +kernel
theorem dX11_count2_5 : decode cX11_count2 5 = .ok (.iload_n 1, 1) := by decide +kernel
theorem dX11_count2_6 : decode cX11_count2 6 = .ok (.bipush 8, 2) := by decide +kernel
theorem dX11_count2_8 : decode cX11_count2 8 = .ok (.ishl, 1) := by decide +kernel
theorem dX11_count2_9 : decode cX11_count2 9 = .ok (.aload_n 0, 1) := by decide +kernel
theorem dX11_count2_10 : decode cX11_count2 10 = .ok (.invokevirtual 242, 3) := by decide +kernel
theorem dX11_count2_13 : decode cX11_count2 13 = .ok (.ior, 1) := by decide +kernel
theorem dX11_count2_14 : decode cX11_count2 14 = .ok (.ireturn, 1) := by decide +kernel
theorem dX11_named_0 : decode cX11_named 0 = .ok (.aload_n 0, 1) := by decide +kernel
theorem dX11_named_1 : decode cX11_named 1 = .ok (.invokevirtual 242, 3) := by decide +kernel
theorem dX11_named_4 : decode cX11_named 4 = .ok (.istore_n 2, 1) := by decide +kernel
theorem dX11_named_5 : decode cX11_named 5 = .ok (.iload_n 1, 1) := by decide +kernel
theorem dX11_named_6 : decode cX11_named 6 = .ok (.iconst 1, 1) := by decide +kernel
theorem dX11_named_7 : decode cX11_named 7 = .ok (.if_icmp .ne 15, 3) := by decide +kernel
theorem dX11_named_10 : decode cX11_named 10 = .ok (.iload_n 2, 1) := by decide +kernel
theorem dX11_named_11 : decode cX11_named 11 = .ok (.i2l, 1) := by decide +kernel
theorem dX11_named_12 : decode cX11_named 12 = .ok (.lconst 0, 1) := by decide +kernel
theorem dX11_named_13 : decode cX11_named 13 = .ok (.ldc2_w 245, 3) := by decide +kernel
theorem dX11_named_16 : decode cX11_named 16 = .ok (.invokestatic 72, 3) := by decide +kernel
theorem dX11_named_19 : decode cX11_named 19 = .ok (.ifCond .eq 20, 3) := by decide +kernel
theorem dX11_named_22 : decode cX11_named 22 = .ok (.iload_n 1, 1) := by decide +kernel
theorem dX11_named_23 : decode cX11_named 23 = .ok (.iconst 2, 1) := by decide +kernel
theorem dX11_named_24 : decode cX11_named 24 = .ok (.if_icmp .ne 20, 3) := by decide +kernel
theorem dX11_named_27 : decode cX11_named 27 = .ok (.iload_n 2, 1) := by decide +kernel
theorem dX11_named_28 : decode cX11_named 28 = .ok (.i2l, 1) := by decide +kernel
theorem dX11_named_29 : decode cX11_named 29 = .ok (.lconst 0, 1) := by decide +kernel
theorem dX11_named_30 : decode cX11_named 30 = .ok (.ldc2_w 247, 3) := by decide +kernel
theorem dX11_named_33 : decode cX11_named 33 = .ok (.invokestatic 72, 3) := by decide +kernel
theorem dX11_named_36 : decode cX11_named 36 = .ok (.ifCond .ne 8, 3) := by decide +kernel
theorem dX11_named_39 : decode cX11_named 39 = .ok (.aload_n 0, 1) := by decide +kernel
