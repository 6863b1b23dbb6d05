theorem dX4_init_0 : decode cX4_init 0 = .ok (.aload_n 0, 1) := by decide +kernel
theorem dX4_init_1 : decode cX4_init 1 = .ok (.invokespecial 3, 3) := by decide +kernel
theorem dX4_init_4 : decode cX4_init 4 = .ok (.aload_n 0, 1) := by decide +kernel
theorem dX4_init_5 : decode cX4_init 5 = .ok (.sipush 256, 3) := by decide +kernel
theorem dX4_init_8 : decode cX4_init 8 = .ok (.newarray .int, 2) := by decide +kernel
theorem dX4_init_10 : decode cX4_init 10 = .ok (.putfield 9, 3) := by decide +kernel
theorem dX4_init_13 : decode cX4_init 13 = .ok (.aload_n 0, 1) := by decide +kernel
theorem dX4_init_14 : decode cX4_init 14 = .ok (.aload_n 1, 1) := by decide +kernel
theorem dX4_init_15 : decode cX4_init 15 = .ok (.putfield 15, 3) := by decide +kernel
theorem dX4_init_18 : decode cX4_init 18 = .ok (.return_, 1) := by decide +kernel
theorem dX4_read_0 : decode cX4_read 0 = .ok (.aload_n 0, 1) := by decide +kernel
theorem dX4_read_1 : decode cX4_read 1 = .ok (.iconst 0, 1) := by decide +kernel
theorem dX4_read_2 : decode cX4_read 2 = .ok (.putfield 19, 3) := by decide +kernel
theorem dX4_read_5 : decode cX4_read 5 = .ok (.aload_n 0, 1) := by decide +kernel
theorem dX4_read_6 : decode cX4_read 6 = .ok (.iconst 0, 1) := by decide +kernel
theorem dX4_read_7 : decode cX4_read 7 = .ok (.putfield 23, 3) := by decide +kernel
theorem dX4_read_10 : decode cX4_read 10 = .ok (.aload_n 0, 1) := by decide +kernel
theorem dX4_read_11 : decode cX4_read 11 = .ok (.getfield 15, 3) := by decide +kernel
theorem dX4_read_14 : decode cX4_read 14 = .ok (.invokevirtual 26, 3) := by decide +kernel
theorem dX4_read_17 : decode cX4_read 17 = .ok (.aload_n 0, 1) := by decide +kernel
theorem dX4_read_18 : decode cX4_read 18 = .ok (.invokevirtual 31, 3) := by decide +kernel
theorem dX4_read_21 : decode cX4_read 21 = .ok (.iconst 0, 1) := by decide +kernel
theorem dX4_read_22 : decode cX4_read 22 = .ok (.istore_n 1, 1) := by decide +kernel
theorem dX4_read_23 : decode cX4_read 23 = .ok (.iload_n 1, 1) := by decide +kernel
theorem dX4_read_24 : decode cX4_read 24 = .ok (.sipush 6000, 3) := by decide +kernel
theorem dX4_read_27 : decode cX4_read 27 = .ok (.if_icmp .ge 37, 3) := by decide +kernel
theorem dX4_read_30 : decode cX4_read 30 = .ok (.aload_n 0, 1) := by decide +kernel
theorem dX4_read_31 : decode cX4_read 31 = .ok (.getfield 19, 3) := by decide +kernel
theorem dX4_read_34 : decode cX4_read 34 = .ok (.ifCond .ne 30, 3) := by decide +kernel
theorem dX4_read_37 : decode cX4_read 37 = .ok (.aload_n 0, 1) := by decide +kernel
theorem dX4_read_38 : decode cX4_read 38 = .ok (.getfield 34, 3) := by decide +kernel
theorem dX4_read_41 : decode cX4_read 41 = .ok (.aload_n 0, 1) := by decide +kernel
theorem dX4_read_42 : decode cX4_read 42 = .ok (.getfield 15, 3) := by decide +kernel
theorem dX4_read_45 : decode cX4_read 45 = .ok (.getfield 37, 3) := by decide +kernel
theorem dX4_read_48 : decode cX4_read 48 = .ok (.getfield 41, 3) := by decide +kernel
theorem dX4_read_51 : decode cX4_read 51 = .ok (.if_icmp .ge 13, 3) := by decide +kernel
theorem dX4_read_54 : decode cX4_read 54 = .ok (.aload_n 0, 1) := by decide +kernel
theorem dX4_read_55 : decode cX4_read 55 = .ok (.invokevirtual 46, 3) := by decide +kernel
theorem dX4_read_58 : decode cX4_read 58 = .ok (.iinc 1 1, 3) := by decide +kernel
theorem dX4_read_61 : decode cX4_read 61 = .ok (.goto (-38), 3) := by decide +kernel
theorem dX4_read_64 : decode cX4_read 64 = .ok (.aload_n 0, 1) := by decide +kernel
theorem dX4_read_65 : decode cX4_read 65 = .ok (.getfield 19, 3) := by decide +kernel
theorem dX4_read_68 : decode cX4_read 68 = .ok (.ifCond .ne 7, 3) := by decide +kernel
theorem dX4_read_71 : decode cX4_read 71 = .ok (.iload_n 1, 1) := by decide +kernel
theorem dX4_read_72 : decode cX4_read 72 = .ok (.goto 4, 3) := by decide +kernel
theorem dX4_read_75 : decode cX4_read 75 = .ok (.iconst (-1), 1) := by decide +kernel
theorem dX4_read_76 : decode cX4_read 76 = .ok (.ireturn, 1) := by decide +kernel
theorem dX4_readMark_0 : decode cX4_readMark 0 = .ok (.aload_n 0, 1) := by decide +kernel
theorem dX4_readMark_1 : decode cX4_readMark 1 = .ok (.iconst 0, 1) := by decide +kernel
theorem dX4_readMark_2 : decode cX4_readMark 2 = .ok (.putfield 34, 3) := by decide +kernel
theorem dX4_readMark_5 : decode cX4_readMark 5 = .ok (.iconst 0, 1) := by decide +kernel
theorem dX4_readMark_6 : decode cX4_readMark 6 = .ok (.istore_n 1, 1) := by decide +kernel
theorem dX4_readMark_7 : decode cX4_readMark 7 = .ok (.iload_n 1, 1) := by decide +kernel
theorem dX4_readMark_8 : decode cX4_readMark 8 = .ok (.getstatic 49, 3) := by decide +kernel
theorem dX4_readMark_11 : decode cX4_readMark 11 = .ok (.arraylength, 1) := by decide +kernel
theorem dX4_readMark_12 : decode cX4_readMark 12 = .ok (.if_icmp .ge 53, 3) := by decide +kernel
theorem dX4_readMark_15 : decode cX4_readMark 15 = .ok (.aload_n 0, 1) := by decide +kernel
theorem dX4_readMark_16 : decode cX4_readMark 16 = .ok (.getfield 19, 3) := by decide +kernel
theorem dX4_readMark_19 : decode cX4_readMark 19 = .ok (.ifCond .ne 46, 3) := by decide +kernel
theorem dX4_readMark_22 : decode cX4_readMark 22 = .ok (.aload_n 0, 1) := by decide +kernel
theorem dX4_readMark_23 : decode cX4_readMark 23 = .ok (.getfield 15, 3) := by decide +kernel
theorem dX4_readMark_26 : decode cX4_readMark 26 = .ok (.getfield 37, 3) := by decide +kernel
theorem dX4_readMark_29 : decode cX4_readMark 29 = .ok (.iload_n 1, 1) := by decide +kernel
theorem dX4_readMark_30 : decode cX4_readMark 30 = .ok (.invokevirtual 52, 3) := by decide +kernel
theorem dX4_readMark_33 : decode cX4_readMark 33 = .ok (.getstatic 49, 3) := by decide +kernel
theorem dX4_readMark_36 : decode cX4_readMark 36 = .ok (.iload_n 1, 1) := by decide +kernel
theorem dX4_readMark_37 : decode cX4_readMark 37 = .ok (.iaload, 1) := by decide +kernel
theorem dX4_readMark_38 : decode cX4_readMark 38 = .ok (.if_icmp .ne 16, 3) := by decide +kernel
theorem dX4_readMark_41 : decode cX4_readMark 41 = .ok (.aload_n 0, 1) := by decide +kernel
theorem dX4_readMark_42 : decode cX4_readMark 42 = .ok (.dup, 1) := by decide +kernel
theorem dX4_readMark_43 : decode cX4_readMark 43 = .ok (.getfield 34, 3) := by decide +kernel
theorem dX4_readMark_46 : decode cX4_readMark 46 = .ok (.iconst 1, 1) := by decide +kernel
theorem dX4_readMark_47 : decode cX4_readMark 47 = .ok (.iadd, 1) := by decide +kernel
theorem dX4_readMark_48 : decode cX4_readMark 48 = .ok (.putfield 34, 3) := by decide +kernel
theorem dX4_readMark_51 : decode cX4_readMark 51 = .ok (.goto 8, 3) := by decide +kernel
theorem dX4_readMark_54 : decode cX4_readMark 54 = .ok (.aload_n 0, 1) := by decide +kernel
theorem dX4_readMark_55 : decode cX4_readMark 55 = .ok (.iconst 1, 1) := by decide +kernel
theorem dX4_readMark_56 : decode cX4_readMark 56 = .ok (.invokevirtual 56, 3) := by decide +kernel
theorem dX4_readMark_59 : decode cX4_readMark 59 = .ok (.iinc 1 1, 3) := by decide +kernel
theorem dX4_readMark_62 : decode cX4_readMark 62 = .ok (.goto (-55), 3) := by decide +kernel
theorem dX4_readMark_65 : decode cX4_readMark 65 = .ok (.return_, 1) := by decide +kernel
theorem dX4_readBlock_0 : decode cX4_readBlock 0 = .ok (.aload_n 0, 1) := by decide +kernel
theorem dX4_readBlock_1 : decode cX4_readBlock 1 = .ok (.getfield 15, 3) := by decide +kernel
theorem dX4_readBlock_4 : decode cX4_readBlock 4 = .ok (.getfield 37, 3) := by decide +kernel
theorem dX4_readBlock_7 : decode cX4_readBlock 7 = .ok (.aload_n 0, 1) := by decide +kernel
theorem dX4_readBlock_8 : decode cX4_readBlock 8 = .ok (.getfield 34, 3) := by decide +kernel
theorem dX4_readBlock_11 : decode cX4_readBlock 11 = .ok (.invokevirtual 52, 3) := by decide +kernel
theorem dX4_readBlock_14 : decode cX4_readBlock 14 = .ok (.istore_n 1, 1) := by decide +kernel
theorem dX4_readBlock_15 : decode cX4_readBlock 15 = .ok (.aload_n 0, 1) := by decide +kernel
theorem dX4_readBlock_16 : decode cX4_readBlock 16 = .ok (.iload_n 1, 1) := by decide +kernel
theorem dX4_readBlock_17 : decode cX4_readBlock 17 = .ok (.invokevirtual 60, 3) := by decide +kernel
theorem dX4_readBlock_20 : decode cX4_readBlock 20 = .ok (.ifCond .ne 4, 3) := by decide +kernel
theorem dX4_readBlock_23 : decode cX4_readBlock 23 = .ok (.return_, 1) := by decide +kernel
theorem dX4_readBlock_24 : decode cX4_readBlock 24 = .ok (.iload_n 1, 1) := by decide +kernel
theorem dX4_readBlock_25 : decode cX4_readBlock 25 = .ok (.tableswitch 56 79 83 #[49, 56, 56, 35, 42], 35) := by decide +kernel
theorem dX4_readBlock_60 : decode cX4_readBlock 60 = .ok (.aload_n 0, 1) := by decide +kernel
theorem dX4_readBlock_61 : decode cX4_readBlock 61 = .ok (.invokevirtual 64, 3) := by decide +kernel
theorem dX4_readBlock_64 : decode cX4_readBlock 64 = .ok (.goto 21, 3) := by decide +kernel
theorem dX4_readBlock_67 : decode cX4_readBlock 67 = .ok (.aload_n 0, 1) := by decide +kernel
theorem dX4_readBlock_68 : decode cX4_readBlock 68 = .ok (.invokevirtual 67, 3) := by decide +kernel
theorem dX4_readBlock_71 : decode cX4_readBlock 71 = .ok (.goto 14, 3) := by decide +kernel
theorem dX4_readBlock_74 : decode cX4_readBlock 74 = .ok (.aload_n 0, 1) := by decide +kernel
theorem dX4_readBlock_75 : decode cX4_readBlock 75 = .ok (.invokevirtual 70, 3) := by decide +kernel
theorem dX4_readBlock_78 : decode cX4_readBlock 78 = .ok (.goto 7, 3) := by decide +kernel
theorem dX4_readBlock_81 : decode cX4_readBlock 81 = .ok (.aload_n 0, 1) := by decide +kernel
theorem dX4_readBlock_82 : decode cX4_readBlock 82 = .ok (.invokevirtual 73, 3) := by decide +kernel
theorem dX4_readBlock_85 : decode cX4_readBlock 85 = .ok (.aload_n 0, 1) := by decide +kernel
theorem dX4_readBlock_86 : decode cX4_readBlock 86 = .ok (.getfield 34, 3) := by decide +kernel
theorem dX4_readBlock_89 : decode cX4_readBlock 89 = .ok (.aload_n 0, 1) := by decide +kernel
theorem dX4_readBlock_90 : decode cX4_readBlock 90 = .ok (.getfield 76, 3) := by decide +kernel
theorem dX4_readBlock_93 : decode cX4_readBlock 93 = .ok (.if_icmp .ge 8, 3) := by decide +kernel
theorem dX4_readBlock_96 : decode cX4_readBlock 96 = .ok (.aload_n 0, 1) := by decide +kernel
theorem dX4_readBlock_97 : decode cX4_readBlock 97 = .ok (.iconst 4, 1) := by decide +kernel
theorem dX4_readBlock_98 : decode cX4_readBlock 98 = .ok (.invokevirtual 56, 3) := by decide +kernel
theorem dX4_readBlock_101 : decode cX4_readBlock 101 = .ok (.return_, 1) := by decide +kernel
theorem dX4_readHead_0 : decode cX4_readHead 0 = .ok (.iload_n 1, 1) := by decide +kernel
theorem dX4_readHead_1 : decode cX4_readHead 1 = .ok (.bipush 82, 2) := by decide +kernel
theorem dX4_readHead_3 : decode cX4_readHead 3 = .ok (.if_icmp .eq 28, 3) := by decide +kernel
theorem dX4_readHead_6 : decode cX4_readHead 6 = .ok (.iload_n 1, 1) := by decide +kernel
theorem dX4_readHead_7 : decode cX4_readHead 7 = .ok (.bipush 83, 2) := by decide +kernel
theorem dX4_readHead_9 : decode cX4_readHead 9 = .ok (.if_icmp .eq 22, 3) := by decide +kernel
theorem dX4_readHead_12 : decode cX4_readHead 12 = .ok (.iload_n 1, 1) := by decide +kernel
theorem dX4_readHead_13 : decode cX4_readHead 13 = .ok (.bipush 79, 2) := by decide +kernel
theorem dX4_readHead_15 : decode cX4_readHead 15 = .ok (.if_icmp .eq 16, 3) := by decide +kernel
theorem dX4_readHead_18 : decode cX4_readHead 18 = .ok (.iload_n 1, 1) := by decide +kernel
theorem dX4_readHead_19 : decode cX4_readHead 19 = .ok (.bipush 65, 2) := by decide +kernel
theorem dX4_readHead_21 : decode cX4_readHead 21 = .ok (.if_icmp .eq 10, 3) := by decide +kernel
theorem dX4_readHead_24 : decode cX4_readHead 24 = .ok (.aload_n 0, 1) := by decide +kernel
theorem dX4_readHead_25 : decode cX4_readHead 25 = .ok (.iconst 2, 1) := by decide +kernel
theorem dX4_readHead_26 : decode cX4_readHead 26 = .ok (.invokevirtual 56, 3) := by decide +kernel
theorem dX4_readHead_29 : decode cX4_readHead 29 = .ok (.iconst 0, 1) := by decide +kernel
theorem dX4_readHead_30 : decode cX4_readHead 30 = .ok (.ireturn, 1) := by decide +kernel
theorem dX4_readHead_31 : decode cX4_readHead 31 = .ok (.aload_n 0, 1) := by decide +kernel
theorem dX4_readHead_32 : decode cX4_readHead 32 = .ok (.getfield 34, 3) := by decide +kernel
theorem dX4_readHead_35 : decode cX4_readHead 35 = .ok (.iconst 3, 1) := by decide +kernel
theorem dX4_readHead_36 : decode cX4_readHead 36 = .ok (.iadd, 1) := by decide +kernel
theorem dX4_readHead_37 : decode cX4_readHead 37 = .ok (.istore_n 2, 1) := by decide +kernel
theorem dX4_readHead_38 : decode cX4_readHead 38 = .ok (.aload_n 0, 1) := by decide +kernel
theorem dX4_readHead_39 : decode cX4_readHead 39 = .ok (.getfield 15, 3) := by decide +kernel
theorem dX4_readHead_42 : decode cX4_readHead 42 = .ok (.getfield 37, 3) := by decide +kernel
theorem dX4_readHead_45 : decode cX4_readHead 45 = .ok (.aload_n 0, 1) := by decide +kernel
theorem dX4_readHead_46 : decode cX4_readHead 46 = .ok (.getfield 34, 3) := by decide +kernel
theorem dX4_readHead_49 : decode cX4_readHead 49 = .ok (.iconst 1, 1) := by decide +kernel
theorem dX4_readHead_50 : decode cX4_readHead 50 = .ok (.iadd, 1) := by decide +kernel
theorem dX4_readHead_51 : decode cX4_readHead 51 = .ok (.invokevirtual 52, 3) := by decide +kernel
theorem dX4_readHead_54 : decode cX4_readHead 54 = .ok (.bipush 8, 2) := by decide +kernel
theorem dX4_readHead_56 : decode cX4_readHead 56 = .ok (.ishl, 1) := by decide +kernel
theorem dX4_readHead_57 : decode cX4_readHead 57 = .ok (.aload_n 0, 1) := by decide +kernel
theorem dX4_readHead_58 : decode cX4_readHead 58 = .ok (.getfield 15, 3) := by decide +kernel
theorem dX4_readHead_61 : decode cX4_readHead 61 = .ok (.getfield 37, 3) := by decide +kernel
theorem dX4_readHead_64 : decode cX4_readHead 64 = .ok (.aload_n 0, 1) := by decide +kernel
theorem dX4_readHead_65 : decode cX4_readHead 65 = .ok (.getfield 34, 3) := by decide +kernel
theorem dX4_readHead_68 : decode cX4_readHead 68 = .ok (.iconst 2, 1) := by decide +kernel
theorem dX4_readHead_69 : decode cX4_readHead 69 = .ok (.iadd, 1) := by decide +kernel
theorem dX4_readHead_70 : decode cX4_readHead 70 = .ok (.invokevirtual 52, 3) := by decide +kernel
theorem dX4_readHead_73 : decode cX4_readHead 73 = .ok (.ior, 1) := by decide +kernel
theorem dX4_readHead_74 : decode cX4_readHead 74 = .ok (.istore_n 3, 1) := by decide +kernel
theorem dX4_readHead_75 : decode cX4_readHead 75 = .ok (.iload_n 2, 1) := by decide +kernel
theorem dX4_readHead_76 : decode cX4_readHead 76 = .ok (.aload_n 0, 1) := by decide +kernel
theorem dX4_readHead_77 : decode cX4_readHead 77 = .ok (.getfield 15, 3) := by decide +kernel
theorem dX4_readHead_80 : decode cX4_readHead 80 = .ok (.getfield 37, 3) := by decide +kernel
theorem dX4_readHead_83 : decode cX4_readHead 83 = .ok (.getfield 41, 3) := by decide +kernel
theorem dX4_readHead_86 : decode cX4_readHead 86 = .ok (.if_icmp .gt 19, 3) := by decide +kernel
theorem dX4_readHead_89 : decode cX4_readHead 89 = .ok (.iload_n 2, 1) := by decide +kernel
theorem dX4_readHead_90 : decode cX4_readHead 90 = .ok (.iload_n 3, 1) := by decide +kernel
theorem dX4_readHead_91 : decode cX4_readHead 91 = .ok (.iadd, 1) := by decide +kernel
theorem dX4_readHead_92 : decode cX4_readHead 92 = .ok (.aload_n 0, 1) := by decide +kernel
theorem dX4_readHead_93 : decode cX4_readHead 93 = .ok (.getfield 15, 3) := by decide +kernel
theorem dX4_readHead_96 : decode cX4_readHead 96 = .ok (.getfield 37, 3) := by decide +kernel
theorem dX4_readHead_99 : decode cX4_readHead 99 = .ok (.getfield 41, 3) := by decide +kernel
theorem dX4_readHead_102 : decode cX4_readHead 102 = .ok (.if_icmp .le 10, 3) := by decide +kernel
theorem dX4_readHead_105 : decode cX4_readHead 105 = .ok (.aload_n 0, 1) := by decide +kernel
theorem dX4_readHead_106 : decode cX4_readHead 106 = .ok (.iconst 3, 1) := by decide +kernel
theorem dX4_readHead_107 : decode cX4_readHead 107 = .ok (.invokevirtual 56, 3) := by decide +kernel
theorem dX4_readHead_110 : decode cX4_readHead 110 = .ok (.iconst 0, 1) := by decide +kernel
theorem dX4_readHead_111 : decode cX4_readHead 111 = .ok (.ireturn, 1) := by decide +kernel
theorem dX4_readHead_112 : decode cX4_readHead 112 = .ok (.aload_n 0, 1) := by decide +kernel
theorem dX4_readHead_113 : decode cX4_readHead 113 = .ok (.iload_n 2, 1) := by decide +kernel
theorem dX4_readHead_114 : decode cX4_readHead 114 = .ok (.putfield 34, 3) := by decide +kernel
theorem dX4_readHead_117 : decode cX4_readHead 117 = .ok (.aload_n 0, 1) := by decide +kernel
theorem dX4_readHead_118 : decode cX4_readHead 118 = .ok (.iload_n 2, 1) := by decide +kernel
theorem dX4_readHead_119 : decode cX4_readHead 119 = .ok (.iload_n 3, 1) := by decide +kernel
theorem dX4_readHead_120 : decode cX4_readHead 120 = .ok (.iadd, 1) := by decide +kernel
theorem dX4_readHead_121 : decode cX4_readHead 121 = .ok (.putfield 76, 3) := by decide +kernel
theorem dX4_readHead_124 : decode cX4_readHead 124 = .ok (.iconst 1, 1) := by decide +kernel
theorem dX4_readHead_125 : decode cX4_readHead 125 = .ok (.ireturn, 1) := by decide +kernel
theorem dX4_readRoom_0 : decode cX4_readRoom 0 = .ok (.aload_n 0, 1) := by decide +kernel
theorem dX4_readRoom_1 : decode cX4_readRoom 1 = .ok (.aload_n 0, 1) := by decide +kernel
theorem dX4_readRoom_2 : decode cX4_readRoom 2 = .ok (.getfield 15, 3) := by decide +kernel
theorem dX4_readRoom_5 : decode cX4_readRoom 5 = .ok (.getfield 79, 3) := by decide +kernel
theorem dX4_readRoom_8 : decode cX4_readRoom 8 = .ok (.invokevirtual 83, 3) := by decide +kernel
theorem dX4_readRoom_11 : decode cX4_readRoom 11 = .ok (.aload_n 0, 1) := by decide +kernel
theorem dX4_readRoom_12 : decode cX4_readRoom 12 = .ok (.iconst 0, 1) := by decide +kernel
theorem dX4_readRoom_13 : decode cX4_readRoom 13 = .ok (.bipush 16, 2) := by decide +kernel
theorem dX4_readRoom_15 : decode cX4_readRoom 15 = .ok (.invokevirtual 87, 3) := by decide +kernel
theorem dX4_readRoom_18 : decode cX4_readRoom 18 = .ok (.istore_n 1, 1) := by decide +kernel
theorem dX4_readRoom_19 : decode cX4_readRoom 19 = .ok (.iconst 0, 1) := by decide +kernel
theorem dX4_readRoom_20 : decode cX4_readRoom 20 = .ok (.istore_n 2, 1) := by decide +kernel
theorem dX4_readRoom_21 : decode cX4_readRoom 21 = .ok (.iload_n 2, 1) := by decide +kernel
theorem dX4_readRoom_22 : decode cX4_readRoom 22 = .ok (.iload_n 1, 1) := by decide +kernel
theorem dX4_readRoom_23 : decode cX4_readRoom 23 = .ok (.if_icmp .ge 54, 3) := by decide +kernel
theorem dX4_readRoom_26 : decode cX4_readRoom 26 = .ok (.aload_n 0, 1) := by decide +kernel
theorem dX4_readRoom_27 : decode cX4_readRoom 27 = .ok (.iconst 0, 1) := by decide +kernel
theorem dX4_readRoom_28 : decode cX4_readRoom 28 = .ok (.sipush 255, 3) := by decide +kernel
theorem dX4_readRoom_31 : decode cX4_readRoom 31 = .ok (.invokevirtual 87, 3) := by decide +kernel
theorem dX4_readRoom_34 : decode cX4_readRoom 34 = .ok (.istore_n 3, 1) := by decide +kernel
theorem dX4_readRoom_35 : decode cX4_readRoom 35 = .ok (.aload_n 0, 1) := by decide +kernel
theorem dX4_readRoom_36 : decode cX4_readRoom 36 = .ok (.iconst 0, 1) := by decide +kernel
theorem dX4_readRoom_37 : decode cX4_readRoom 37 = .ok (.sipush 255, 3) := by decide +kernel
theorem dX4_readRoom_40 : decode cX4_readRoom 40 = .ok (.invokevirtual 87, 3) := by decide +kernel
theorem dX4_readRoom_43 : decode cX4_readRoom 43 = .ok (.istore 4, 2) := by decide +kernel
theorem dX4_readRoom_45 : decode cX4_readRoom 45 = .ok (.aload_n 0, 1) := by decide +kernel
theorem dX4_readRoom_46 : decode cX4_readRoom 46 = .ok (.iload_n 3, 1) := by decide +kernel
theorem dX4_readRoom_47 : decode cX4_readRoom 47 = .ok (.sipush 255, 3) := by decide +kernel
theorem dX4_readRoom_50 : decode cX4_readRoom 50 = .ok (.invokevirtual 87, 3) := by decide +kernel
theorem dX4_readRoom_53 : decode cX4_readRoom 53 = .ok (.pop, 1) := by decide +kernel
theorem dX4_readRoom_54 : decode cX4_readRoom 54 = .ok (.aload_n 0, 1) := by decide +kernel
theorem dX4_readRoom_55 : decode cX4_readRoom 55 = .ok (.iload 4, 2) := by decide +kernel
theorem dX4_readRoom_57 : decode cX4_readRoom 57 = .ok (.sipush 255, 3) := by decide +kernel
theorem dX4_readRoom_60 : decode cX4_readRoom 60 = .ok (.invokevirtual 87, 3) := by decide +kernel
theorem dX4_readRoom_63 : decode cX4_readRoom 63 = .ok (.pop, 1) := by decide +kernel
theorem dX4_readRoom_64 : decode cX4_readRoom 64 = .ok (.aload_n 0, 1) := by decide +kernel
theorem dX4_readRoom_65 : decode cX4_readRoom 65 = .ok (.iconst 0, 1) := by decide +kernel
theorem dX4_readRoom_66 : decode cX4_readRoom 66 = .ok (.iconst 1, 1) := by decide +kernel
theorem dX4_readRoom_67 : decode cX4_readRoom 67 = .ok (.invokevirtual 87, 3) := by decide +kernel
theorem dX4_readRoom_70 : decode cX4_readRoom 70 = .ok (.pop, 1) := by decide +kernel
theorem dX4_readRoom_71 : decode cX4_readRoom 71 = .ok (.iinc 2 1, 3) := by decide +kernel
theorem dX4_readRoom_74 : decode cX4_readRoom 74 = .ok (.goto (-53), 3) := by decide +kernel
theorem dX4_readRoom_77 : decode cX4_readRoom 77 = .ok (.return_, 1) := by decide +kernel
theorem dX4_readScript_0 : decode cX4_readScript 0 = .ok (.aload_n 0, 1) := by decide +kernel
theorem dX4_readScript_1 : decode cX4_readScript 1 = .ok (.aload_n 0, 1) := by decide +kernel
theorem dX4_readScript_2 : decode cX4_readScript 2 = .ok (.getfield 15, 3) := by decide +kernel
theorem dX4_readScript_5 : decode cX4_readScript 5 = .ok (.getfield 91, 3) := by decide +kernel
theorem dX4_readScript_8 : decode cX4_readScript 8 = .ok (.invokevirtual 83, 3) := by decide +kernel
theorem dX4_readScript_11 : decode cX4_readScript 11 = .ok (.aload_n 0, 1) := by decide +kernel
theorem dX4_readScript_12 : decode cX4_readScript 12 = .ok (.iconst 0, 1) := by decide +kernel
theorem dX4_readScript_13 : decode cX4_readScript 13 = .ok (.sipush 255, 3) := by decide +kernel
theorem dX4_readScript_16 : decode cX4_readScript 16 = .ok (.invokevirtual 87, 3) := by decide +kernel
theorem dX4_readScript_19 : decode cX4_readScript 19 = .ok (.pop, 1) := by decide +kernel
theorem dX4_readScript_20 : decode cX4_readScript 20 = .ok (.aload_n 0, 1) := by decide +kernel
theorem dX4_readScript_21 : decode cX4_readScript 21 = .ok (.getfield 19, 3) := by decide +kernel
theorem dX4_readScript_24 : decode cX4_readScript 24 = .ok (.ifCond .ne 11, 3) := by decide +kernel
theorem dX4_readScript_27 : decode cX4_readScript 27 = .ok (.aload_n 0, 1) := by decide +kernel
theorem dX4_readScript_28 : decode cX4_readScript 28 = .ok (.aload_n 0, 1) := by decide +kernel
theorem dX4_readScript_29 : decode cX4_readScript 29 = .ok (.getfield 76, 3) := by decide +kernel
theorem dX4_readScript_32 : decode cX4_readScript 32 = .ok (.putfield 34, 3) := by decide +kernel
theorem dX4_readScript_35 : decode cX4_readScript 35 = .ok (.return_, 1) := by decide +kernel
theorem dX4_readObject_0 : decode cX4_readObject 0 = .ok (.aload_n 0, 1) := by decide +kernel
theorem dX4_readObject_1 : decode cX4_readObject 1 = .ok (.aload_n 0, 1) := by decide +kernel
theorem dX4_readObject_2 : decode cX4_readObject 2 = .ok (.getfield 15, 3) := by decide +kernel
theorem dX4_readObject_5 : decode cX4_readObject 5 = .ok (.getfield 94, 3) := by decide +kernel
theorem dX4_readObject_8 : decode cX4_readObject 8 = .ok (.invokevirtual 83, 3) := by decide +kernel
theorem dX4_readObject_11 : decode cX4_readObject 11 = .ok (.aload_n 0, 1) := by decide +kernel
theorem dX4_readObject_12 : decode cX4_readObject 12 = .ok (.iconst 0, 1) := by decide +kernel
theorem dX4_readObject_13 : decode cX4_readObject 13 = .ok (.bipush 20, 2) := by decide +kernel
theorem dX4_readObject_15 : decode cX4_readObject 15 = .ok (.invokevirtual 87, 3) := by decide +kernel
theorem dX4_readObject_18 : decode cX4_readObject 18 = .ok (.pop, 1) := by decide +kernel
theorem dX4_readObject_19 : decode cX4_readObject 19 = .ok (.aload_n 0, 1) := by decide +kernel
theorem dX4_readObject_20 : decode cX4_readObject 20 = .ok (.iconst 0, 1) := by decide +kernel
theorem dX4_readObject_21 : decode cX4_readObject 21 = .ok (.sipush 255, 3) := by decide +kernel
theorem dX4_readObject_24 : decode cX4_readObject 24 = .ok (.invokevirtual 87, 3) := by decide +kernel
theorem dX4_readObject_27 : decode cX4_readObject 27 = .ok (.pop, 1) := by decide +kernel
theorem dX4_readObject_28 : decode cX4_readObject 28 = .ok (.aload_n 0, 1) := by decide +kernel
theorem dX4_readObject_29 : decode cX4_readObject 29 = .ok (.iconst 0, 1) := by decide +kernel
theorem dX4_readObject_30 : decode cX4_readObject 30 = .ok (.sipush 255, 3) := by decide +kernel
theorem dX4_readObject_33 : decode cX4_readObject 33 = .ok (.invokevirtual 87, 3) := by decide +kernel
theorem dX4_readObject_36 : decode cX4_readObject 36 = .ok (.pop, 1) := by decide +kernel
theorem dX4_readObject_37 : decode cX4_readObject 37 = .ok (.aload_n 0, 1) := by decide +kernel
theorem dX4_readObject_38 : decode cX4_readObject 38 = .ok (.iconst 0, 1) := by decide +kernel
theorem dX4_readObject_39 : decode cX4_readObject 39 = .ok (.sipush 255, 3) := by decide +kernel
theorem dX4_readObject_42 : decode cX4_readObject 42 = .ok (.invokevirtual 87, 3) := by decide +kernel
theorem dX4_readObject_45 : decode cX4_readObject 45 = .ok (.pop, 1) := by decide +kernel
theorem dX4_readObject_46 : decode cX4_readObject 46 = .ok (.aload_n 0, 1) := by decide +kernel
theorem dX4_readObject_47 : decode cX4_readObject 47 = .ok (.getfield 9, 3) := by decide +kernel
theorem dX4_readObject_50 : decode cX4_readObject 50 = .ok (.iconst 0, 1) := by decide +kernel
theorem dX4_readObject_51 : decode cX4_readObject 51 = .ok (.invokestatic 97, 3) := by decide +kernel
theorem dX4_readObject_54 : decode cX4_readObject 54 = .ok (.iconst 0, 1) := by decide +kernel
theorem dX4_readObject_55 : decode cX4_readObject 55 = .ok (.istore_n 1, 1) := by decide +kernel
theorem dX4_readObject_56 : decode cX4_readObject 56 = .ok (.iload_n 1, 1) := by decide +kernel
theorem dX4_readObject_57 : decode cX4_readObject 57 = .ok (.sipush 6000, 3) := by decide +kernel
theorem dX4_readObject_60 : decode cX4_readObject 60 = .ok (.if_icmp .ge 39, 3) := by decide +kernel
theorem dX4_readObject_63 : decode cX4_readObject 63 = .ok (.aload_n 0, 1) := by decide +kernel
theorem dX4_readObject_64 : decode cX4_readObject 64 = .ok (.getfield 19, 3) := by decide +kernel
theorem dX4_readObject_67 : decode cX4_readObject 67 = .ok (.ifCond .ne 32, 3) := by decide +kernel
theorem dX4_readObject_70 : decode cX4_readObject 70 = .ok (.aload_n 0, 1) := by decide +kernel
theorem dX4_readObject_71 : decode cX4_readObject 71 = .ok (.getfield 34, 3) := by decide +kernel
theorem dX4_readObject_74 : decode cX4_readObject 74 = .ok (.aload_n 0, 1) := by decide +kernel
theorem dX4_readObject_75 : decode cX4_readObject 75 = .ok (.getfield 76, 3) := by decide +kernel
theorem dX4_readObject_78 : decode cX4_readObject 78 = .ok (.if_icmp .ge 21, 3) := by decide +kernel
theorem dX4_readObject_81 : decode cX4_readObject 81 = .ok (.aload_n 0, 1) := by decide +kernel
theorem dX4_readObject_82 : decode cX4_readObject 82 = .ok (.invokevirtual 103, 3) := by decide +kernel
theorem dX4_readObject_85 : decode cX4_readObject 85 = .ok (.aload_n 0, 1) := by decide +kernel
theorem dX4_readObject_86 : decode cX4_readObject 86 = .ok (.iconst 1, 1) := by decide +kernel
theorem dX4_readObject_87 : decode cX4_readObject 87 = .ok (.bipush 60, 2) := by decide +kernel
theorem dX4_readObject_89 : decode cX4_readObject 89 = .ok (.invokevirtual 87, 3) := by decide +kernel
theorem dX4_readObject_92 : decode cX4_readObject 92 = .ok (.pop, 1) := by decide +kernel
theorem dX4_readObject_93 : decode cX4_readObject 93 = .ok (.iinc 1 1, 3) := by decide +kernel
theorem dX4_readObject_96 : decode cX4_readObject 96 = .ok (.goto (-40), 3) := by decide +kernel
theorem dX4_readObject_99 : decode cX4_readObject 99 = .ok (.return_, 1) := by decide +kernel
theorem dX4_readActor_0 : decode cX4_readActor 0 = .ok (.aload_n 0, 1) := by decide +kernel
theorem dX4_readActor_1 : decode cX4_readActor 1 = .ok (.aload_n 0, 1) := by decide +kernel
theorem dX4_readActor_2 : decode cX4_readActor 2 = .ok (.getfield 15, 3) := by decide +kernel
theorem dX4_readActor_5 : decode cX4_readActor 5 = .ok (.getfield 106, 3) := by decide +kernel
theorem dX4_readActor_8 : decode cX4_readActor 8 = .ok (.invokevirtual 83, 3) := by decide +kernel
theorem dX4_readActor_11 : decode cX4_readActor 11 = .ok (.aload_n 0, 1) := by decide +kernel
theorem dX4_readActor_12 : decode cX4_readActor 12 = .ok (.iconst 0, 1) := by decide +kernel
theorem dX4_readActor_13 : decode cX4_readActor 13 = .ok (.bipush 20, 2) := by decide +kernel
theorem dX4_readActor_15 : decode cX4_readActor 15 = .ok (.invokevirtual 87, 3) := by decide +kernel
theorem dX4_readActor_18 : decode cX4_readActor 18 = .ok (.pop, 1) := by decide +kernel
theorem dX4_readActor_19 : decode cX4_readActor 19 = .ok (.aload_n 0, 1) := by decide +kernel
theorem dX4_readActor_20 : decode cX4_readActor 20 = .ok (.iconst 0, 1) := by decide +kernel
theorem dX4_readActor_21 : decode cX4_readActor 21 = .ok (.sipush 255, 3) := by decide +kernel
theorem dX4_readActor_24 : decode cX4_readActor 24 = .ok (.invokevirtual 87, 3) := by decide +kernel
theorem dX4_readActor_27 : decode cX4_readActor 27 = .ok (.pop, 1) := by decide +kernel
theorem dX4_readActor_28 : decode cX4_readActor 28 = .ok (.aload_n 0, 1) := by decide +kernel
theorem dX4_readActor_29 : decode cX4_readActor 29 = .ok (.iconst 0, 1) := by decide +kernel
theorem dX4_readActor_30 : decode cX4_readActor 30 = .ok (.sipush 255, 3) := by decide +kernel
theorem dX4_readActor_33 : decode cX4_readActor 33 = .ok (.invokevirtual 87, 3) := by decide +kernel
theorem dX4_readActor_36 : decode cX4_readActor 36 = .ok (.pop, 1) := by decide +kernel
theorem dX4_readActor_37 : decode cX4_readActor 37 = .ok (.aload_n 0, 1) := by decide +kernel
theorem dX4_readActor_38 : decode cX4_readActor 38 = .ok (.iconst 0, 1) := by decide +kernel
theorem dX4_readActor_39 : decode cX4_readActor 39 = .ok (.bipush 8, 2) := by decide +kernel
theorem dX4_readActor_41 : decode cX4_readActor 41 = .ok (.invokevirtual 87, 3) := by decide +kernel
theorem dX4_readActor_44 : decode cX4_readActor 44 = .ok (.pop, 1) := by decide +kernel
theorem dX4_readActor_45 : decode cX4_readActor 45 = .ok (.return_, 1) := by decide +kernel
theorem dX4_takeNumber_0 : decode cX4_takeNumber 0 = .ok (.aload_n 0, 1) := by decide +kernel
theorem dX4_takeNumber_1 : decode cX4_takeNumber 1 = .ok (.invokevirtual 109, 3) := by decide +kernel
theorem dX4_takeNumber_4 : decode cX4_takeNumber 4 = .ok (.istore_n 2, 1) := by decide +kernel
theorem dX4_takeNumber_5 : decode cX4_takeNumber 5 = .ok (.aload_n 1, 1) := by decide +kernel
theorem dX4_takeNumber_6 : decode cX4_takeNumber 6 = .ok (.iload_n 2, 1) := by decide +kernel
theorem dX4_takeNumber_7 : decode cX4_takeNumber 7 = .ok (.invokevirtual 113, 3) := by decide +kernel
theorem dX4_takeNumber_10 : decode cX4_takeNumber 10 = .ok (.ifCond .eq 11, 3) := by decide +kernel
theorem dX4_takeNumber_13 : decode cX4_takeNumber 13 = .ok (.aload_n 1, 1) := by decide +kernel
theorem dX4_takeNumber_14 : decode cX4_takeNumber 14 = .ok (.iload_n 2, 1) := by decide +kernel
theorem dX4_takeNumber_15 : decode cX4_takeNumber 15 = .ok (.invokevirtual 118, 3) := by decide +kernel
theorem dX4_takeNumber_18 : decode cX4_takeNumber 18 = .ok (.ifCond .eq 9, 3) := by decide +kernel
theorem dX4_takeNumber_21 : decode cX4_takeNumber 21 = .ok (.aload_n 0, 1) := by decide +kernel
theorem dX4_takeNumber_22 : decode cX4_takeNumber 22 = .ok (.iconst 4, 1) := by decide +kernel
theorem dX4_takeNumber_23 : decode cX4_takeNumber 23 = .ok (.invokevirtual 56, 3) := by decide +kernel
theorem dX4_takeNumber_26 : decode cX4_takeNumber 26 = .ok (.return_, 1) := by decide +kernel
theorem dX4_takeNumber_27 : decode cX4_takeNumber 27 = .ok (.aload_n 1, 1) := by decide +kernel
theorem dX4_takeNumber_28 : decode cX4_takeNumber 28 = .ok (.iload_n 2, 1) := by decide +kernel
theorem dX4_takeNumber_29 : decode cX4_takeNumber 29 = .ok (.aload_n 0, 1) := by decide +kernel
theorem dX4_takeNumber_30 : decode cX4_takeNumber 30 = .ok (.getfield 34, 3) := by decide +kernel
theorem dX4_takeNumber_33 : decode cX4_takeNumber 33 = .ok (.aload_n 0, 1) := by decide +kernel
theorem dX4_takeNumber_34 : decode cX4_takeNumber 34 = .ok (.getfield 76, 3) := by decide +kernel
theorem dX4_takeNumber_37 : decode cX4_takeNumber 37 = .ok (.invokevirtual 121, 3) := by decide +kernel
theorem dX4_takeNumber_40 : decode cX4_takeNumber 40 = .ok (.aload_n 0, 1) := by decide +kernel
theorem dX4_takeNumber_41 : decode cX4_takeNumber 41 = .ok (.dup, 1) := by decide +kernel
theorem dX4_takeNumber_42 : decode cX4_takeNumber 42 = .ok (.getfield 34, 3) := by decide +kernel
theorem dX4_takeNumber_45 : decode cX4_takeNumber 45 = .ok (.iconst 1, 1) := by decide +kernel
theorem dX4_takeNumber_46 : decode cX4_takeNumber 46 = .ok (.iadd, 1) := by decide +kernel
theorem dX4_takeNumber_47 : decode cX4_takeNumber 47 = .ok (.putfield 34, 3) := by decide +kernel
theorem dX4_takeNumber_50 : decode cX4_takeNumber 50 = .ok (.return_, 1) := by decide +kernel
theorem dX4_takeVerb_0 : decode cX4_takeVerb 0 = .ok (.aload_n 0, 1) := by decide +kernel
theorem dX4_takeVerb_1 : decode cX4_takeVerb 1 = .ok (.invokevirtual 109, 3) := by decide +kernel
theorem dX4_takeVerb_4 : decode cX4_takeVerb 4 = .ok (.istore_n 1, 1) := by decide +kernel
theorem dX4_takeVerb_5 : decode cX4_takeVerb 5 = .ok (.iload_n 1, 1) := by decide +kernel
theorem dX4_takeVerb_6 : decode cX4_takeVerb 6 = .ok (.iconst 1, 1) := by decide +kernel
theorem dX4_takeVerb_7 : decode cX4_takeVerb 7 = .ok (.if_icmp .lt 21, 3) := by decide +kernel
theorem dX4_takeVerb_10 : decode cX4_takeVerb 10 = .ok (.iload_n 1, 1) := by decide +kernel
theorem dX4_takeVerb_11 : decode cX4_takeVerb 11 = .ok (.aload_n 0, 1) := by decide +kernel
theorem dX4_takeVerb_12 : decode cX4_takeVerb 12 = .ok (.getfield 9, 3) := by decide +kernel
theorem dX4_takeVerb_15 : decode cX4_takeVerb 15 = .ok (.arraylength, 1) := by decide +kernel
theorem dX4_takeVerb_16 : decode cX4_takeVerb 16 = .ok (.if_icmp .ge 12, 3) := by decide +kernel
theorem dX4_takeVerb_19 : decode cX4_takeVerb 19 = .ok (.aload_n 0, 1) := by decide +kernel
theorem dX4_takeVerb_20 : decode cX4_takeVerb 20 = .ok (.getfield 9, 3) := by decide +kernel
theorem dX4_takeVerb_23 : decode cX4_takeVerb 23 = .ok (.iload_n 1, 1) := by decide +kernel
theorem dX4_takeVerb_24 : decode cX4_takeVerb 24 = .ok (.iaload, 1) := by decide +kernel
theorem dX4_takeVerb_25 : decode cX4_takeVerb 25 = .ok (.ifCond .eq 9, 3) := by decide +kernel
theorem dX4_takeVerb_28 : decode cX4_takeVerb 28 = .ok (.aload_n 0, 1) := by decide +kernel
theorem dX4_takeVerb_29 : decode cX4_takeVerb 29 = .ok (.iconst 4, 1) := by decide +kernel
theorem dX4_takeVerb_30 : decode cX4_takeVerb 30 = .ok (.invokevirtual 56, 3) := by decide +kernel
theorem dX4_takeVerb_33 : decode cX4_takeVerb 33 = .ok (.return_, 1) := by decide +kernel
theorem dX4_takeVerb_34 : decode cX4_takeVerb 34 = .ok (.aload_n 0, 1) := by decide +kernel
theorem dX4_takeVerb_35 : decode cX4_takeVerb 35 = .ok (.getfield 9, 3) := by decide +kernel
theorem dX4_takeVerb_38 : decode cX4_takeVerb 38 = .ok (.iload_n 1, 1) := by decide +kernel
theorem dX4_takeVerb_39 : decode cX4_takeVerb 39 = .ok (.iconst 1, 1) := by decide +kernel
theorem dX4_takeVerb_40 : decode cX4_takeVerb 40 = .ok (.iastore, 1) := by decide +kernel
theorem dX4_takeVerb_41 : decode cX4_takeVerb 41 = .ok (.aload_n 0, 1) := by decide +kernel
theorem dX4_takeVerb_42 : decode cX4_takeVerb 42 = .ok (.dup, 1) := by decide +kernel
theorem dX4_takeVerb_43 : decode cX4_takeVerb 43 = .ok (.getfield 34, 3) := by decide +kernel
theorem dX4_takeVerb_46 : decode cX4_takeVerb 46 = .ok (.iconst 1, 1) := by decide +kernel
theorem dX4_takeVerb_47 : decode cX4_takeVerb 47 = .ok (.iadd, 1) := by decide +kernel
theorem dX4_takeVerb_48 : decode cX4_takeVerb 48 = .ok (.putfield 34, 3) := by decide +kernel
theorem dX4_takeVerb_51 : decode cX4_takeVerb 51 = .ok (.return_, 1) := by decide +kernel
theorem dX4_take_0 : decode cX4_take 0 = .ok (.aload_n 0, 1) := by decide +kernel
theorem dX4_take_1 : decode cX4_take 1 = .ok (.getfield 19, 3) := by decide +kernel
theorem dX4_take_4 : decode cX4_take 4 = .ok (.ifCond .eq 5, 3) := by decide +kernel
theorem dX4_take_7 : decode cX4_take 7 = .ok (.iconst (-1), 1) := by decide +kernel
theorem dX4_take_8 : decode cX4_take 8 = .ok (.ireturn, 1) := by decide +kernel
theorem dX4_take_9 : decode cX4_take 9 = .ok (.aload_n 0, 1) := by decide +kernel
theorem dX4_take_10 : decode cX4_take 10 = .ok (.invokevirtual 109, 3) := by decide +kernel
theorem dX4_take_13 : decode cX4_take 13 = .ok (.istore_n 3, 1) := by decide +kernel
theorem dX4_take_14 : decode cX4_take 14 = .ok (.iload_n 3, 1) := by decide +kernel
theorem dX4_take_15 : decode cX4_take 15 = .ok (.iconst (-1), 1) := by decide +kernel
theorem dX4_take_16 : decode cX4_take 16 = .ok (.if_icmp .eq 13, 3) := by decide +kernel
theorem dX4_take_19 : decode cX4_take 19 = .ok (.iload_n 3, 1) := by decide +kernel
theorem dX4_take_20 : decode cX4_take 20 = .ok (.iload_n 1, 1) := by decide +kernel
theorem dX4_take_21 : decode cX4_take 21 = .ok (.if_icmp .lt 8, 3) := by decide +kernel
theorem dX4_take_24 : decode cX4_take 24 = .ok (.iload_n 3, 1) := by decide +kernel
theorem dX4_take_25 : decode cX4_take 25 = .ok (.iload_n 2, 1) := by decide +kernel
theorem dX4_take_26 : decode cX4_take 26 = .ok (.if_icmp .le 10, 3) := by decide +kernel
theorem dX4_take_29 : decode cX4_take 29 = .ok (.aload_n 0, 1) := by decide +kernel
theorem dX4_take_30 : decode cX4_take 30 = .ok (.iconst 4, 1) := by decide +kernel
theorem dX4_take_31 : decode cX4_take 31 = .ok (.invokevirtual 56, 3) := by decide +kernel
theorem dX4_take_34 : decode cX4_take 34 = .ok (.iconst (-1), 1) := by decide +kernel
theorem dX4_take_35 : decode cX4_take 35 = .ok (.ireturn, 1) := by decide +kernel
theorem dX4_take_36 : decode cX4_take 36 = .ok (.aload_n 0, 1) := by decide +kernel
theorem dX4_take_37 : decode cX4_take 37 = .ok (.dup, 1) := by decide +kernel
theorem dX4_take_38 : decode cX4_take 38 = .ok (.getfield 34, 3) := by decide +kernel
theorem dX4_take_41 : decode cX4_take 41 = .ok (.iconst 1, 1) := by decide +kernel
theorem dX4_take_42 : decode cX4_take 42 = .ok (.iadd, 1) := by decide +kernel
theorem dX4_take_43 : decode cX4_take 43 = .ok (.putfield 34, 3) := by decide +kernel
theorem dX4_take_46 : decode cX4_take 46 = .ok (.iload_n 3, 1) := by decide +kernel
theorem dX4_take_47 : decode cX4_take 47 = .ok (.ireturn, 1) := by decide +kernel
theorem dX4_peek_0 : decode cX4_peek 0 = .ok (.aload_n 0, 1) := by decide +kernel
theorem dX4_peek_1 : decode cX4_peek 1 = .ok (.getfield 34, 3) := by decide +kernel
theorem dX4_peek_4 : decode cX4_peek 4 = .ok (.aload_n 0, 1) := by decide +kernel
theorem dX4_peek_5 : decode cX4_peek 5 = .ok (.getfield 76, 3) := by decide +kernel
theorem dX4_peek_8 : decode cX4_peek 8 = .ok (.if_icmp .ge 20, 3) := by decide +kernel
theorem dX4_peek_11 : decode cX4_peek 11 = .ok (.aload_n 0, 1) := by decide +kernel
theorem dX4_peek_12 : decode cX4_peek 12 = .ok (.getfield 15, 3) := by decide +kernel
theorem dX4_peek_15 : decode cX4_peek 15 = .ok (.getfield 37, 3) := by decide +kernel
theorem dX4_peek_18 : decode cX4_peek 18 = .ok (.aload_n 0, 1) := by decide +kernel
theorem dX4_peek_19 : decode cX4_peek 19 = .ok (.getfield 34, 3) := by decide +kernel
theorem dX4_peek_22 : decode cX4_peek 22 = .ok (.invokevirtual 52, 3) := by decide +kernel
theorem dX4_peek_25 : decode cX4_peek 25 = .ok (.goto 4, 3) := by decide +kernel
theorem dX4_peek_28 : decode cX4_peek 28 = .ok (.iconst (-1), 1) := by decide +kernel
theorem dX4_peek_29 : decode cX4_peek 29 = .ok (.ireturn, 1) := by decide +kernel
theorem dX4_fail_0 : decode cX4_fail 0 = .ok (.aload_n 0, 1) := by decide +kernel
theorem dX4_fail_1 : decode cX4_fail 1 = .ok (.getfield 19, 3) := by decide +kernel
theorem dX4_fail_4 : decode cX4_fail 4 = .ok (.ifCond .ne 16, 3) := by decide +kernel
theorem dX4_fail_7 : decode cX4_fail 7 = .ok (.aload_n 0, 1) := by decide +kernel
theorem dX4_fail_8 : decode cX4_fail 8 = .ok (.iload_n 1, 1) := by decide +kernel
theorem dX4_fail_9 : decode cX4_fail 9 = .ok (.putfield 19, 3) := by decide +kernel
theorem dX4_fail_12 : decode cX4_fail 12 = .ok (.aload_n 0, 1) := by decide +kernel
theorem dX4_fail_13 : decode cX4_fail 13 = .ok (.aload_n 0, 1) := by decide +kernel
theorem dX4_fail_14 : decode cX4_fail 14 = .ok (.getfield 34, 3) := by decide +kernel
theorem dX4_fail_17 : decode cX4_fail 17 = .ok (.putfield 23, 3) := by decide +kernel
theorem dX4_fail_20 : decode cX4_fail 20 = .ok (.return_, 1) := by decide +kernel
theorem dX7_init_0 : decode cX7_init 0 = .ok (.aload_n 0, 1) := by decide +kernel
theorem dX7_init_1 : decode cX7_init 1 = .ok (.invokespecial 3, 3) := by decide +kernel
theorem dX7_init_4 : decode cX7_init 4 = .ok (.aload_n 0, 1) := by decide +kernel
theorem dX7_init_5 : decode cX7_init 5 = .ok (.iconst 1, 1) := by decide +kernel
theorem dX7_init_6 : decode cX7_init 6 = .ok (.putfield 9, 3) := by decide +kernel
theorem dX7_init_9 : decode cX7_init 9 = .ok (.aload_n 0, 1) := by decide +kernel
theorem dX7_init_10 : decode cX7_init 10 = .ok (.bipush 64, 2) := by decide +kernel
theorem dX7_init_12 : decode cX7_init 12 = .ok (.newarray .int, 2) := by decide +kernel
theorem dX7_init_14 : decode cX7_init 14 = .ok (.putfield 15, 3) := by decide +kernel
theorem dX7_init_17 : decode cX7_init 17 = .ok (.aload_n 0, 1) := by decide +kernel
theorem dX7_init_18 : decode cX7_init 18 = .ok (.bipush 64, 2) := by decide +kernel
theorem dX7_init_20 : decode cX7_init 20 = .ok (.newarray .int, 2) := by decide +kernel
theorem dX7_init_22 : decode cX7_init 22 = .ok (.putfield 19, 3) := by decide +kernel
theorem dX7_init_25 : decode cX7_init 25 = .ok (.aload_n 0, 1) := by decide +kernel
theorem dX7_init_26 : decode cX7_init 26 = .ok (.bipush 18, 2) := by decide +kernel
theorem dX7_init_28 : decode cX7_init 28 = .ok (.newarray .int, 2) := by decide +kernel
theorem dX7_init_30 : decode cX7_init 30 = .ok (.putfield 22, 3) := by decide +kernel
theorem dX7_init_33 : decode cX7_init 33 = .ok (.aload_n 0, 1) := by decide +kernel
theorem dX7_init_34 : decode cX7_init 34 = .ok (.bipush 61, 2) := by decide +kernel
theorem dX7_init_36 : decode cX7_init 36 = .ok (.newarray .int, 2) := by decide +kernel
theorem dX7_init_38 : decode cX7_init 38 = .ok (.putfield 25, 3) := by decide +kernel
theorem dX7_init_41 : decode cX7_init 41 = .ok (.aload_n 0, 1) := by decide +kernel
theorem dX7_init_42 : decode cX7_init 42 = .ok (.bipush 61, 2) := by decide +kernel
theorem dX7_init_44 : decode cX7_init 44 = .ok (.newarray .int, 2) := by decide +kernel
theorem dX7_init_46 : decode cX7_init 46 = .ok (.putfield 28, 3) := by decide +kernel
theorem dX7_init_49 : decode cX7_init 49 = .ok (.aload_n 0, 1) := by decide +kernel
theorem dX7_init_50 : decode cX7_init 50 = .ok (.bipush 21, 2) := by decide +kernel
theorem dX7_init_52 : decode cX7_init 52 = .ok (.newarray .int, 2) := by decide +kernel
theorem dX7_init_54 : decode cX7_init 54 = .ok (.putfield 31, 3) := by decide +kernel
theorem dX7_init_57 : decode cX7_init 57 = .ok (.aload_n 0, 1) := by decide +kernel
theorem dX7_init_58 : decode cX7_init 58 = .ok (.bipush 8, 2) := by decide +kernel
theorem dX7_init_60 : decode cX7_init 60 = .ok (.anewarray 34, 3) := by decide +kernel
theorem dX7_init_63 : decode cX7_init 63 = .ok (.putfield 36, 3) := by decide +kernel
theorem dX7_init_66 : decode cX7_init 66 = .ok (.aload_n 0, 1) := by decide +kernel
theorem dX7_init_67 : decode cX7_init 67 = .ok (.bipush 13, 2) := by decide +kernel
theorem dX7_init_69 : decode cX7_init 69 = .ok (.anewarray 40, 3) := by decide +kernel
theorem dX7_init_72 : decode cX7_init 72 = .ok (.putfield 42, 3) := by decide +kernel
theorem dX7_init_75 : decode cX7_init 75 = .ok (.iconst 0, 1) := by decide +kernel
theorem dX7_init_76 : decode cX7_init 76 = .ok (.istore_n 1, 1) := by decide +kernel
theorem dX7_init_77 : decode cX7_init 77 = .ok (.iload_n 1, 1) := by decide +kernel
theorem dX7_init_78 : decode cX7_init 78 = .ok (.bipush 8, 2) := by decide +kernel
theorem dX7_init_80 : decode cX7_init 80 = .ok (.if_icmp .ge 22, 3) := by decide +kernel
theorem dX7_init_83 : decode cX7_init 83 = .ok (.aload_n 0, 1) := by decide +kernel
theorem dX7_init_84 : decode cX7_init 84 = .ok (.getfield 36, 3) := by decide +kernel
theorem dX7_init_87 : decode cX7_init 87 = .ok (.iload_n 1, 1) := by decide +kernel
theorem dX7_init_88 : decode cX7_init 88 = .ok (.new 34, 3) := by decide +kernel
theorem dX7_init_91 : decode cX7_init 91 = .ok (.dup, 1) := by decide +kernel
theorem dX7_init_92 : decode cX7_init 92 = .ok (.invokespecial 46, 3) := by decide +kernel
theorem dX7_init_95 : decode cX7_init 95 = .ok (.aastore, 1) := by decide +kernel
theorem dX7_init_96 : decode cX7_init 96 = .ok (.iinc 1 1, 3) := by decide +kernel
theorem dX7_init_99 : decode cX7_init 99 = .ok (.goto (-22), 3) := by decide +kernel
theorem dX7_init_102 : decode cX7_init 102 = .ok (.iconst 0, 1) := by decide +kernel
theorem dX7_init_103 : decode cX7_init 103 = .ok (.istore_n 1, 1) := by decide +kernel
theorem dX7_init_104 : decode cX7_init 104 = .ok (.iload_n 1, 1) := by decide +kernel
theorem dX7_init_105 : decode cX7_init 105 = .ok (.bipush 12, 2) := by decide +kernel
theorem dX7_init_107 : decode cX7_init 107 = .ok (.if_icmp .gt 22, 3) := by decide +kernel
theorem dX7_init_110 : decode cX7_init 110 = .ok (.aload_n 0, 1) := by decide +kernel
theorem dX7_init_111 : decode cX7_init 111 = .ok (.getfield 42, 3) := by decide +kernel
theorem dX7_init_114 : decode cX7_init 114 = .ok (.iload_n 1, 1) := by decide +kernel
theorem dX7_init_115 : decode cX7_init 115 = .ok (.new 40, 3) := by decide +kernel
theorem dX7_init_118 : decode cX7_init 118 = .ok (.dup, 1) := by decide +kernel
theorem dX7_init_119 : decode cX7_init 119 = .ok (.invokespecial 47, 3) := by decide +kernel
theorem dX7_init_122 : decode cX7_init 122 = .ok (.aastore, 1) := by decide +kernel
theorem dX7_init_123 : decode cX7_init 123 = .ok (.iinc 1 1, 3) := by decide +kernel
theorem dX7_init_126 : decode cX7_init 126 = .ok (.goto (-22), 3) := by decide +kernel
theorem dX7_init_129 : decode cX7_init 129 = .ok (.return_, 1) := by decide +kernel
theorem dX7_open_0 : decode cX7_open 0 = .ok (.aload_n 0, 1) := by decide +kernel
theorem dX7_open_1 : decode cX7_open 1 = .ok (.iconst 0, 1) := by decide +kernel
theorem dX7_open_2 : decode cX7_open 2 = .ok (.putfield 48, 3) := by decide +kernel
theorem dX7_open_5 : decode cX7_open 5 = .ok (.aload_n 0, 1) := by decide +kernel
theorem dX7_open_6 : decode cX7_open 6 = .ok (.iconst 1, 1) := by decide +kernel
theorem dX7_open_7 : decode cX7_open 7 = .ok (.putfield 9, 3) := by decide +kernel
theorem dX7_open_10 : decode cX7_open 10 = .ok (.aload_n 0, 1) := by decide +kernel
theorem dX7_open_11 : decode cX7_open 11 = .ok (.iconst 0, 1) := by decide +kernel
theorem dX7_open_12 : decode cX7_open 12 = .ok (.putfield 51, 3) := by decide +kernel
theorem dX7_open_15 : decode cX7_open 15 = .ok (.aload_n 0, 1) := by decide +kernel
theorem dX7_open_16 : decode cX7_open 16 = .ok (.iconst 0, 1) := by decide +kernel
theorem dX7_open_17 : decode cX7_open 17 = .ok (.putfield 54, 3) := by decide +kernel
theorem dX7_open_20 : decode cX7_open 20 = .ok (.aload_n 0, 1) := by decide +kernel
theorem dX7_open_21 : decode cX7_open 21 = .ok (.iconst 0, 1) := by decide +kernel
theorem dX7_open_22 : decode cX7_open 22 = .ok (.putfield 57, 3) := by decide +kernel
theorem dX7_open_25 : decode cX7_open 25 = .ok (.aload_n 0, 1) := by decide +kernel
theorem dX7_open_26 : decode cX7_open 26 = .ok (.iconst 0, 1) := by decide +kernel
theorem dX7_open_27 : decode cX7_open 27 = .ok (.putfield 60, 3) := by decide +kernel
theorem dX7_open_30 : decode cX7_open 30 = .ok (.aload_n 0, 1) := by decide +kernel
theorem dX7_open_31 : decode cX7_open 31 = .ok (.getfield 15, 3) := by decide +kernel
theorem dX7_open_34 : decode cX7_open 34 = .ok (.iconst 0, 1) := by decide +kernel
theorem dX7_open_35 : decode cX7_open 35 = .ok (.invokestatic 63, 3) := by decide +kernel
theorem dX7_open_38 : decode cX7_open 38 = .ok (.aload_n 0, 1) := by decide +kernel
theorem dX7_open_39 : decode cX7_open 39 = .ok (.getfield 28, 3) := by decide +kernel
theorem dX7_open_42 : decode cX7_open 42 = .ok (.iconst 0, 1) := by decide +kernel
theorem dX7_open_43 : decode cX7_open 43 = .ok (.invokestatic 63, 3) := by decide +kernel
theorem dX7_open_46 : decode cX7_open 46 = .ok (.iconst 0, 1) := by decide +kernel
theorem dX7_open_47 : decode cX7_open 47 = .ok (.istore_n 2, 1) := by decide +kernel
theorem dX7_open_48 : decode cX7_open 48 = .ok (.iload_n 2, 1) := by decide +kernel
theorem dX7_open_49 : decode cX7_open 49 = .ok (.bipush 8, 2) := by decide +kernel
theorem dX7_open_51 : decode cX7_open 51 = .ok (.if_icmp .ge 18, 3) := by decide +kernel
theorem dX7_open_54 : decode cX7_open 54 = .ok (.aload_n 0, 1) := by decide +kernel
theorem dX7_open_55 : decode cX7_open 55 = .ok (.getfield 36, 3) := by decide +kernel
theorem dX7_open_58 : decode cX7_open 58 = .ok (.iload_n 2, 1) := by decide +kernel
theorem dX7_open_59 : decode cX7_open 59 = .ok (.aaload, 1) := by decide +kernel
theorem dX7_open_60 : decode cX7_open 60 = .ok (.invokevirtual 69, 3) := by decide +kernel
theorem dX7_open_63 : decode cX7_open 63 = .ok (.iinc 2 1, 3) := by decide +kernel
theorem dX7_open_66 : decode cX7_open 66 = .ok (.goto (-18), 3) := by decide +kernel
theorem dX7_open_69 : decode cX7_open 69 = .ok (.iconst 0, 1) := by decide +kernel
theorem dX7_open_70 : decode cX7_open 70 = .ok (.istore_n 2, 1) := by decide +kernel
theorem dX7_open_71 : decode cX7_open 71 = .ok (.iload_n 2, 1) := by decide +kernel
theorem dX7_open_72 : decode cX7_open 72 = .ok (.bipush 60, 2) := by decide +kernel
theorem dX7_open_74 : decode cX7_open 74 = .ok (.if_icmp .gt 21, 3) := by decide +kernel
theorem dX7_open_77 : decode cX7_open 77 = .ok (.aload_n 0, 1) := by decide +kernel
theorem dX7_open_78 : decode cX7_open 78 = .ok (.getfield 25, 3) := by decide +kernel
theorem dX7_open_81 : decode cX7_open 81 = .ok (.iload_n 2, 1) := by decide +kernel
theorem dX7_open_82 : decode cX7_open 82 = .ok (.aload_n 1, 1) := by decide +kernel
theorem dX7_open_83 : decode cX7_open 83 = .ok (.iload_n 2, 1) := by decide +kernel
theorem dX7_open_84 : decode cX7_open 84 = .ok (.iconst 3, 1) := by decide +kernel
theorem dX7_open_85 : decode cX7_open 85 = .ok (.invokevirtual 72, 3) := by decide +kernel
theorem dX7_open_88 : decode cX7_open 88 = .ok (.iastore, 1) := by decide +kernel
theorem dX7_open_89 : decode cX7_open 89 = .ok (.iinc 2 1, 3) := by decide +kernel
theorem dX7_open_92 : decode cX7_open 92 = .ok (.goto (-21), 3) := by decide +kernel
theorem dX7_open_95 : decode cX7_open 95 = .ok (.iconst 0, 1) := by decide +kernel
theorem dX7_open_96 : decode cX7_open 96 = .ok (.istore_n 2, 1) := by decide +kernel
theorem dX7_open_97 : decode cX7_open 97 = .ok (.iload_n 2, 1) := by decide +kernel
theorem dX7_open_98 : decode cX7_open 98 = .ok (.bipush 12, 2) := by decide +kernel
theorem dX7_open_100 : decode cX7_open 100 = .ok (.if_icmp .gt 51, 3) := by decide +kernel
theorem dX7_open_103 : decode cX7_open 103 = .ok (.aload_n 0, 1) := by decide +kernel
theorem dX7_open_104 : decode cX7_open 104 = .ok (.getfield 42, 3) := by decide +kernel
theorem dX7_open_107 : decode cX7_open 107 = .ok (.iload_n 2, 1) := by decide +kernel
theorem dX7_open_108 : decode cX7_open 108 = .ok (.aaload, 1) := by decide +kernel
theorem dX7_open_109 : decode cX7_open 109 = .ok (.aload_n 1, 1) := by decide +kernel
theorem dX7_open_110 : decode cX7_open 110 = .ok (.iload_n 2, 1) := by decide +kernel
theorem dX7_open_111 : decode cX7_open 111 = .ok (.iconst 0, 1) := by decide +kernel
theorem dX7_open_112 : decode cX7_open 112 = .ok (.invokevirtual 78, 3) := by decide +kernel
theorem dX7_open_115 : decode cX7_open 115 = .ok (.aload_n 1, 1) := by decide +kernel
theorem dX7_open_116 : decode cX7_open 116 = .ok (.iload_n 2, 1) := by decide +kernel
theorem dX7_open_117 : decode cX7_open 117 = .ok (.iconst 1, 1) := by decide +kernel
theorem dX7_open_118 : decode cX7_open 118 = .ok (.invokevirtual 78, 3) := by decide +kernel
theorem dX7_open_121 : decode cX7_open 121 = .ok (.aload_n 1, 1) := by decide +kernel
theorem dX7_open_122 : decode cX7_open 122 = .ok (.iload_n 2, 1) := by decide +kernel
theorem dX7_open_123 : decode cX7_open 123 = .ok (.iconst 2, 1) := by decide +kernel
theorem dX7_open_124 : decode cX7_open 124 = .ok (.invokevirtual 78, 3) := by decide +kernel
theorem dX7_open_127 : decode cX7_open 127 = .ok (.invokevirtual 81, 3) := by decide +kernel
theorem dX7_open_130 : decode cX7_open 130 = .ok (.aload_n 0, 1) := by decide +kernel
theorem dX7_open_131 : decode cX7_open 131 = .ok (.getfield 42, 3) := by decide +kernel
theorem dX7_open_134 : decode cX7_open 134 = .ok (.iload_n 2, 1) := by decide +kernel
theorem dX7_open_135 : decode cX7_open 135 = .ok (.aaload, 1) := by decide +kernel
theorem dX7_open_136 : decode cX7_open 136 = .ok (.aload_n 1, 1) := by decide +kernel
theorem dX7_open_137 : decode cX7_open 137 = .ok (.iload_n 2, 1) := by decide +kernel
theorem dX7_open_138 : decode cX7_open 138 = .ok (.iconst 3, 1) := by decide +kernel
theorem dX7_open_139 : decode cX7_open 139 = .ok (.invokevirtual 78, 3) := by decide +kernel
theorem dX7_open_142 : decode cX7_open 142 = .ok (.putfield 85, 3) := by decide +kernel
theorem dX7_open_145 : decode cX7_open 145 = .ok (.iinc 2 1, 3) := by decide +kernel
theorem dX7_open_148 : decode cX7_open 148 = .ok (.goto (-51), 3) := by decide +kernel
theorem dX7_open_151 : decode cX7_open 151 = .ok (.iconst 0, 1) := by decide +kernel
theorem dX7_open_152 : decode cX7_open 152 = .ok (.istore_n 2, 1) := by decide +kernel
theorem dX7_open_153 : decode cX7_open 153 = .ok (.iload_n 2, 1) := by decide +kernel
theorem dX7_open_154 : decode cX7_open 154 = .ok (.bipush 20, 2) := by decide +kernel
theorem dX7_open_156 : decode cX7_open 156 = .ok (.if_icmp .gt 15, 3) := by decide +kernel
theorem dX7_open_159 : decode cX7_open 159 = .ok (.aload_n 0, 1) := by decide +kernel
theorem dX7_open_160 : decode cX7_open 160 = .ok (.aload_n 1, 1) := by decide +kernel
theorem dX7_open_161 : decode cX7_open 161 = .ok (.iload_n 2, 1) := by decide +kernel
theorem dX7_open_162 : decode cX7_open 162 = .ok (.invokevirtual 88, 3) := by decide +kernel
theorem dX7_open_165 : decode cX7_open 165 = .ok (.iinc 2 1, 3) := by decide +kernel
theorem dX7_open_168 : decode cX7_open 168 = .ok (.goto (-15), 3) := by decide +kernel
theorem dX7_open_171 : decode cX7_open 171 = .ok (.return_, 1) := by decide +kernel
theorem dX7_shutBoxes_0 : decode cX7_shutBoxes 0 = .ok (.aload_n 0, 1) := by decide +kernel
theorem dX7_shutBoxes_1 : decode cX7_shutBoxes 1 = .ok (.getfield 31, 3) := by decide +kernel
theorem dX7_shutBoxes_4 : decode cX7_shutBoxes 4 = .ok (.iload_n 2, 1) := by decide +kernel
theorem dX7_shutBoxes_5 : decode cX7_shutBoxes 5 = .ok (.iconst 0, 1) := by decide +kernel
theorem dX7_shutBoxes_6 : decode cX7_shutBoxes 6 = .ok (.iastore, 1) := by decide +kernel
theorem dX7_shutBoxes_7 : decode cX7_shutBoxes 7 = .ok (.aload_n 1, 1) := by decide +kernel
theorem dX7_shutBoxes_8 : decode cX7_shutBoxes 8 = .ok (.iload_n 2, 1) := by decide +kernel
theorem dX7_shutBoxes_9 : decode cX7_shutBoxes 9 = .ok (.invokevirtual 92, 3) := by decide +kernel
theorem dX7_shutBoxes_12 : decode cX7_shutBoxes 12 = .ok (.istore_n 3, 1) := by decide +kernel
theorem dX7_shutBoxes_13 : decode cX7_shutBoxes 13 = .ok (.iconst 0, 1) := by decide +kernel
theorem dX7_shutBoxes_14 : decode cX7_shutBoxes 14 = .ok (.istore 4, 2) := by decide +kernel
theorem dX7_shutBoxes_16 : decode cX7_shutBoxes 16 = .ok (.iload 4, 2) := by decide +kernel
theorem dX7_shutBoxes_18 : decode cX7_shutBoxes 18 = .ok (.iload_n 3, 1) := by decide +kernel
theorem dX7_shutBoxes_19 : decode cX7_shutBoxes 19 = .ok (.if_icmp .ge 33, 3) := by decide +kernel
theorem dX7_shutBoxes_22 : decode cX7_shutBoxes 22 = .ok (.aload_n 0, 1) := by decide +kernel
theorem dX7_shutBoxes_23 : decode cX7_shutBoxes 23 = .ok (.iload_n 2, 1) := by decide +kernel
theorem dX7_shutBoxes_24 : decode cX7_shutBoxes 24 = .ok (.iload 4, 2) := by decide +kernel
theorem dX7_shutBoxes_26 : decode cX7_shutBoxes 26 = .ok (.aload_n 1, 1) := by decide +kernel
theorem dX7_shutBoxes_27 : decode cX7_shutBoxes 27 = .ok (.iload_n 2, 1) := by decide +kernel
theorem dX7_shutBoxes_28 : decode cX7_shutBoxes 28 = .ok (.iload 4, 2) := by decide +kernel
theorem dX7_shutBoxes_30 : decode cX7_shutBoxes 30 = .ok (.iconst 4, 1) := by decide +kernel
theorem dX7_shutBoxes_31 : decode cX7_shutBoxes 31 = .ok (.invokevirtual 96, 3) := by decide +kernel
theorem dX7_shutBoxes_34 : decode cX7_shutBoxes 34 = .ok (.iconst 1, 1) := by decide +kernel
theorem dX7_shutBoxes_35 : decode cX7_shutBoxes 35 = .ok (.if_icmp .ne 7, 3) := by decide +kernel
theorem dX7_shutBoxes_38 : decode cX7_shutBoxes 38 = .ok (.iconst 1, 1) := by decide +kernel
theorem dX7_shutBoxes_39 : decode cX7_shutBoxes 39 = .ok (.goto 4, 3) := by decide +kernel
theorem dX7_shutBoxes_42 : decode cX7_shutBoxes 42 = .ok (.iconst 0, 1) := by decide +kernel
theorem dX7_shutBoxes_43 : decode cX7_shutBoxes 43 = .ok (.invokevirtual 100, 3) := by decide +kernel
theorem dX7_shutBoxes_46 : decode cX7_shutBoxes 46 = .ok (.iinc 4 1, 3) := by decide +kernel
theorem dX7_shutBoxes_49 : decode cX7_shutBoxes 49 = .ok (.goto (-33), 3) := by decide +kernel
theorem dX7_shutBoxes_52 : decode cX7_shutBoxes 52 = .ok (.return_, 1) := by decide +kernel
theorem dX7_shutBox_0 : decode cX7_shutBox 0 = .ok (.iconst 1, 1) := by decide +kernel
theorem dX7_shutBox_1 : decode cX7_shutBox 1 = .ok (.iload_n 2, 1) := by decide +kernel
theorem dX7_shutBox_2 : decode cX7_shutBox 2 = .ok (.ishl, 1) := by decide +kernel
theorem dX7_shutBox_3 : decode cX7_shutBox 3 = .ok (.istore 4, 2) := by decide +kernel
theorem dX7_shutBox_5 : decode cX7_shutBox 5 = .ok (.aload_n 0, 1) := by decide +kernel
theorem dX7_shutBox_6 : decode cX7_shutBox 6 = .ok (.getfield 31, 3) := by decide +kernel
theorem dX7_shutBox_9 : decode cX7_shutBox 9 = .ok (.iload_n 1, 1) := by decide +kernel
theorem dX7_shutBox_10 : decode cX7_shutBox 10 = .ok (.iload_n 3, 1) := by decide +kernel
theorem dX7_shutBox_11 : decode cX7_shutBox 11 = .ok (.ifCond .eq 15, 3) := by decide +kernel
theorem dX7_shutBox_14 : decode cX7_shutBox 14 = .ok (.aload_n 0, 1) := by decide +kernel
theorem dX7_shutBox_15 : decode cX7_shutBox 15 = .ok (.getfield 31, 3) := by decide +kernel
theorem dX7_shutBox_18 : decode cX7_shutBox 18 = .ok (.iload_n 1, 1) := by decide +kernel
theorem dX7_shutBox_19 : decode cX7_shutBox 19 = .ok (.iaload, 1) := by decide +kernel
theorem dX7_shutBox_20 : decode cX7_shutBox 20 = .ok (.iload 4, 2) := by decide +kernel
theorem dX7_shutBox_22 : decode cX7_shutBox 22 = .ok (.ior, 1) := by decide +kernel
theorem dX7_shutBox_23 : decode cX7_shutBox 23 = .ok (.goto 14, 3) := by decide +kernel
theorem dX7_shutBox_26 : decode cX7_shutBox 26 = .ok (.aload_n 0, 1) := by decide +kernel
theorem dX7_shutBox_27 : decode cX7_shutBox 27 = .ok (.getfield 31, 3) := by decide +kernel
theorem dX7_shutBox_30 : decode cX7_shutBox 30 = .ok (.iload_n 1, 1) := by decide +kernel
theorem dX7_shutBox_31 : decode cX7_shutBox 31 = .ok (.iaload, 1) := by decide +kernel
theorem dX7_shutBox_32 : decode cX7_shutBox 32 = .ok (.iload 4, 2) := by decide +kernel
theorem dX7_shutBox_34 : decode cX7_shutBox 34 = .ok (.iconst (-1), 1) := by decide +kernel
theorem dX7_shutBox_35 : decode cX7_shutBox 35 = .ok (.ixor, 1) := by decide +kernel
theorem dX7_shutBox_36 : decode cX7_shutBox 36 = .ok (.iand, 1) := by decide +kernel
theorem dX7_shutBox_37 : decode cX7_shutBox 37 = .ok (.iastore, 1) := by decide +kernel
theorem dX7_shutBox_38 : decode cX7_shutBox 38 = .ok (.return_, 1) := by decide +kernel
theorem dX7_copyFrom_0 : decode cX7_copyFrom 0 = .ok (.aload_n 0, 1) := by decide +kernel
theorem dX7_copyFrom_1 : decode cX7_copyFrom 1 = .ok (.aload_n 1, 1) := by decide +kernel
theorem dX7_copyFrom_2 : decode cX7_copyFrom 2 = .ok (.getfield 48, 3) := by decide +kernel
theorem dX7_copyFrom_5 : decode cX7_copyFrom 5 = .ok (.putfield 48, 3) := by decide +kernel
theorem dX7_copyFrom_8 : decode cX7_copyFrom 8 = .ok (.aload_n 0, 1) := by decide +kernel
theorem dX7_copyFrom_9 : decode cX7_copyFrom 9 = .ok (.aload_n 1, 1) := by decide +kernel
theorem dX7_copyFrom_10 : decode cX7_copyFrom 10 = .ok (.getfield 9, 3) := by decide +kernel
theorem dX7_copyFrom_13 : decode cX7_copyFrom 13 = .ok (.putfield 9, 3) := by decide +kernel
theorem dX7_copyFrom_16 : decode cX7_copyFrom 16 = .ok (.aload_n 0, 1) := by decide +kernel
theorem dX7_copyFrom_17 : decode cX7_copyFrom 17 = .ok (.aload_n 1, 1) := by decide +kernel
theorem dX7_copyFrom_18 : decode cX7_copyFrom 18 = .ok (.getfield 51, 3) := by decide +kernel
theorem dX7_copyFrom_21 : decode cX7_copyFrom 21 = .ok (.putfield 51, 3) := by decide +kernel
theorem dX7_copyFrom_24 : decode cX7_copyFrom 24 = .ok (.aload_n 0, 1) := by decide +kernel
theorem dX7_copyFrom_25 : decode cX7_copyFrom 25 = .ok (.aload_n 1, 1) := by decide +kernel
theorem dX7_copyFrom_26 : decode cX7_copyFrom 26 = .ok (.getfield 54, 3) := by decide +kernel
theorem dX7_copyFrom_29 : decode cX7_copyFrom 29 = .ok (.putfield 54, 3) := by decide +kernel
theorem dX7_copyFrom_32 : decode cX7_copyFrom 32 = .ok (.aload_n 0, 1) := by decide +kernel
theorem dX7_copyFrom_33 : decode cX7_copyFrom 33 = .ok (.aload_n 1, 1) := by decide +kernel
theorem dX7_copyFrom_34 : decode cX7_copyFrom 34 = .ok (.getfield 57, 3) := by decide +kernel
theorem dX7_copyFrom_37 : decode cX7_copyFrom 37 = .ok (.putfield 57, 3) := by decide +kernel
theorem dX7_copyFrom_40 : decode cX7_copyFrom 40 = .ok (.aload_n 0, 1) := by decide +kernel
theorem dX7_copyFrom_41 : decode cX7_copyFrom 41 = .ok (.aload_n 1, 1) := by decide +kernel
theorem dX7_copyFrom_42 : decode cX7_copyFrom 42 = .ok (.getfield 60, 3) := by decide +kernel
theorem dX7_copyFrom_45 : decode cX7_copyFrom 45 = .ok (.putfield 60, 3) := by decide +kernel
theorem dX7_copyFrom_48 : decode cX7_copyFrom 48 = .ok (.aload_n 1, 1) := by decide +kernel
theorem dX7_copyFrom_49 : decode cX7_copyFrom 49 = .ok (.getfield 15, 3) := by decide +kernel
theorem dX7_copyFrom_52 : decode cX7_copyFrom 52 = .ok (.iconst 0, 1) := by decide +kernel
theorem dX7_copyFrom_53 : decode cX7_copyFrom 53 = .ok (.aload_n 0, 1) := by decide +kernel
theorem dX7_copyFrom_54 : decode cX7_copyFrom 54 = .ok (.getfield 15, 3) := by decide +kernel
theorem dX7_copyFrom_57 : decode cX7_copyFrom 57 = .ok (.iconst 0, 1) := by decide +kernel
theorem dX7_copyFrom_58 : decode cX7_copyFrom 58 = .ok (.bipush 64, 2) := by decide +kernel
theorem dX7_copyFrom_60 : decode cX7_copyFrom 60 = .ok (.invokestatic 104, 3) := by decide +kernel
theorem dX7_copyFrom_63 : decode cX7_copyFrom 63 = .ok (.aload_n 1, 1) := by decide +kernel
theorem dX7_copyFrom_64 : decode cX7_copyFrom 64 = .ok (.getfield 19, 3) := by decide +kernel
theorem dX7_copyFrom_67 : decode cX7_copyFrom 67 = .ok (.iconst 0, 1) := by decide +kernel
theorem dX7_copyFrom_68 : decode cX7_copyFrom 68 = .ok (.aload_n 0, 1) := by decide +kernel
theorem dX7_copyFrom_69 : decode cX7_copyFrom 69 = .ok (.getfield 19, 3) := by decide +kernel
theorem dX7_copyFrom_72 : decode cX7_copyFrom 72 = .ok (.iconst 0, 1) := by decide +kernel
theorem dX7_copyFrom_73 : decode cX7_copyFrom 73 = .ok (.bipush 64, 2) := by decide +kernel
theorem dX7_copyFrom_75 : decode cX7_copyFrom 75 = .ok (.invokestatic 104, 3) := by decide +kernel
theorem dX7_copyFrom_78 : decode cX7_copyFrom 78 = .ok (.aload_n 1, 1) := by decide +kernel
theorem dX7_copyFrom_79 : decode cX7_copyFrom 79 = .ok (.getfield 22, 3) := by decide +kernel
theorem dX7_copyFrom_82 : decode cX7_copyFrom 82 = .ok (.iconst 0, 1) := by decide +kernel
theorem dX7_copyFrom_83 : decode cX7_copyFrom 83 = .ok (.aload_n 0, 1) := by decide +kernel
theorem dX7_copyFrom_84 : decode cX7_copyFrom 84 = .ok (.getfield 22, 3) := by decide +kernel
theorem dX7_copyFrom_87 : decode cX7_copyFrom 87 = .ok (.iconst 0, 1) := by decide +kernel
theorem dX7_copyFrom_88 : decode cX7_copyFrom 88 = .ok (.bipush 18, 2) := by decide +kernel
theorem dX7_copyFrom_90 : decode cX7_copyFrom 90 = .ok (.invokestatic 104, 3) := by decide +kernel
theorem dX7_copyFrom_93 : decode cX7_copyFrom 93 = .ok (.aload_n 1, 1) := by decide +kernel
theorem dX7_copyFrom_94 : decode cX7_copyFrom 94 = .ok (.getfield 25, 3) := by decide +kernel
theorem dX7_copyFrom_97 : decode cX7_copyFrom 97 = .ok (.iconst 0, 1) := by decide +kernel
theorem dX7_copyFrom_98 : decode cX7_copyFrom 98 = .ok (.aload_n 0, 1) := by decide +kernel
theorem dX7_copyFrom_99 : decode cX7_copyFrom 99 = .ok (.getfield 25, 3) := by decide +kernel
theorem dX7_copyFrom_102 : decode cX7_copyFrom 102 = .ok (.iconst 0, 1) := by decide +kernel
theorem dX7_copyFrom_103 : decode cX7_copyFrom 103 = .ok (.bipush 61, 2) := by decide +kernel
theorem dX7_copyFrom_105 : decode cX7_copyFrom 105 = .ok (.invokestatic 104, 3) := by decide +kernel
theorem dX7_copyFrom_108 : decode cX7_copyFrom 108 = .ok (.aload_n 1, 1) := by decide +kernel
theorem dX7_copyFrom_109 : decode cX7_copyFrom 109 = .ok (.getfield 28, 3) := by decide +kernel
theorem dX7_copyFrom_112 : decode cX7_copyFrom 112 = .ok (.iconst 0, 1) := by decide +kernel
theorem dX7_copyFrom_113 : decode cX7_copyFrom 113 = .ok (.aload_n 0, 1) := by decide +kernel
theorem dX7_copyFrom_114 : decode cX7_copyFrom 114 = .ok (.getfield 28, 3) := by decide +kernel
theorem dX7_copyFrom_117 : decode cX7_copyFrom 117 = .ok (.iconst 0, 1) := by decide +kernel
theorem dX7_copyFrom_118 : decode cX7_copyFrom 118 = .ok (.bipush 61, 2) := by decide +kernel
theorem dX7_copyFrom_120 : decode cX7_copyFrom 120 = .ok (.invokestatic 104, 3) := by decide +kernel
theorem dX7_copyFrom_123 : decode cX7_copyFrom 123 = .ok (.aload_n 1, 1) := by decide +kernel
theorem dX7_copyFrom_124 : decode cX7_copyFrom 124 = .ok (.getfield 31, 3) := by decide +kernel
theorem dX7_copyFrom_127 : decode cX7_copyFrom 127 = .ok (.iconst 0, 1) := by decide +kernel
theorem dX7_copyFrom_128 : decode cX7_copyFrom 128 = .ok (.aload_n 0, 1) := by decide +kernel
theorem dX7_copyFrom_129 : decode cX7_copyFrom 129 = .ok (.getfield 31, 3) := by decide +kernel
theorem dX7_copyFrom_132 : decode cX7_copyFrom 132 = .ok (.iconst 0, 1) := by decide +kernel
theorem dX7_copyFrom_133 : decode cX7_copyFrom 133 = .ok (.bipush 21, 2) := by decide +kernel
theorem dX7_copyFrom_135 : decode cX7_copyFrom 135 = .ok (.invokestatic 104, 3) := by decide +kernel
theorem dX7_copyFrom_138 : decode cX7_copyFrom 138 = .ok (.iconst 0, 1) := by decide +kernel
theorem dX7_copyFrom_139 : decode cX7_copyFrom 139 = .ok (.istore_n 2, 1) := by decide +kernel
theorem dX7_copyFrom_140 : decode cX7_copyFrom 140 = .ok (.iload_n 2, 1) := by decide +kernel
theorem dX7_copyFrom_141 : decode cX7_copyFrom 141 = .ok (.bipush 8, 2) := by decide +kernel
theorem dX7_copyFrom_143 : decode cX7_copyFrom 143 = .ok (.if_icmp .ge 24, 3) := by decide +kernel
theorem dX7_copyFrom_146 : decode cX7_copyFrom 146 = .ok (.aload_n 0, 1) := by decide +kernel
theorem dX7_copyFrom_147 : decode cX7_copyFrom 147 = .ok (.getfield 36, 3) := by decide +kernel
theorem dX7_copyFrom_150 : decode cX7_copyFrom 150 = .ok (.iload_n 2, 1) := by decide +kernel
theorem dX7_copyFrom_151 : decode cX7_copyFrom 151 = .ok (.aaload, 1) := by decide +kernel
theorem dX7_copyFrom_152 : decode cX7_copyFrom 152 = .ok (.aload_n 1, 1) := by decide +kernel
theorem dX7_copyFrom_153 : decode cX7_copyFrom 153 = .ok (.getfield 36, 3) := by decide +kernel
theorem dX7_copyFrom_156 : decode cX7_copyFrom 156 = .ok (.iload_n 2, 1) := by decide +kernel
theorem dX7_copyFrom_157 : decode cX7_copyFrom 157 = .ok (.aaload, 1) := by decide +kernel
theorem dX7_copyFrom_158 : decode cX7_copyFrom 158 = .ok (.invokevirtual 110, 3) := by decide +kernel
theorem dX7_copyFrom_161 : decode cX7_copyFrom 161 = .ok (.iinc 2 1, 3) := by decide +kernel
theorem dX7_copyFrom_164 : decode cX7_copyFrom 164 = .ok (.goto (-24), 3) := by decide +kernel
theorem dX7_copyFrom_167 : decode cX7_copyFrom 167 = .ok (.iconst 0, 1) := by decide +kernel
theorem dX7_copyFrom_168 : decode cX7_copyFrom 168 = .ok (.istore_n 2, 1) := by decide +kernel
theorem dX7_copyFrom_169 : decode cX7_copyFrom 169 = .ok (.iload_n 2, 1) := by decide +kernel
theorem dX7_copyFrom_170 : decode cX7_copyFrom 170 = .ok (.bipush 12, 2) := by decide +kernel
theorem dX7_copyFrom_172 : decode cX7_copyFrom 172 = .ok (.if_icmp .gt 24, 3) := by decide +kernel
theorem dX7_copyFrom_175 : decode cX7_copyFrom 175 = .ok (.aload_n 0, 1) := by decide +kernel
theorem dX7_copyFrom_176 : decode cX7_copyFrom 176 = .ok (.getfield 42, 3) := by decide +kernel
theorem dX7_copyFrom_179 : decode cX7_copyFrom 179 = .ok (.iload_n 2, 1) := by decide +kernel
theorem dX7_copyFrom_180 : decode cX7_copyFrom 180 = .ok (.aaload, 1) := by decide +kernel
theorem dX7_copyFrom_181 : decode cX7_copyFrom 181 = .ok (.aload_n 1, 1) := by decide +kernel
theorem dX7_copyFrom_182 : decode cX7_copyFrom 182 = .ok (.getfield 42, 3) := by decide +kernel
theorem dX7_copyFrom_185 : decode cX7_copyFrom 185 = .ok (.iload_n 2, 1) := by decide +kernel
theorem dX7_copyFrom_186 : decode cX7_copyFrom 186 = .ok (.aaload, 1) := by decide +kernel
theorem dX7_copyFrom_187 : decode cX7_copyFrom 187 = .ok (.invokevirtual 114, 3) := by decide +kernel
theorem dX7_copyFrom_190 : decode cX7_copyFrom 190 = .ok (.iinc 2 1, 3) := by decide +kernel
theorem dX7_copyFrom_193 : decode cX7_copyFrom 193 = .ok (.goto (-24), 3) := by decide +kernel
theorem dX7_copyFrom_196 : decode cX7_copyFrom 196 = .ok (.return_, 1) := by decide +kernel
theorem dX7_runningSlots_0 : decode cX7_runningSlots 0 = .ok (.iconst 0, 1) := by decide +kernel
theorem dX7_runningSlots_1 : decode cX7_runningSlots 1 = .ok (.istore_n 1, 1) := by decide +kernel
theorem dX7_runningSlots_2 : decode cX7_runningSlots 2 = .ok (.iconst 0, 1) := by decide +kernel
theorem dX7_runningSlots_3 : decode cX7_runningSlots 3 = .ok (.istore_n 2, 1) := by decide +kernel
theorem dX7_runningSlots_4 : decode cX7_runningSlots 4 = .ok (.iload_n 2, 1) := by decide +kernel
theorem dX7_runningSlots_5 : decode cX7_runningSlots 5 = .ok (.bipush 8, 2) := by decide +kernel
theorem dX7_runningSlots_7 : decode cX7_runningSlots 7 = .ok (.if_icmp .ge 24, 3) := by decide +kernel
theorem dX7_runningSlots_10 : decode cX7_runningSlots 10 = .ok (.aload_n 0, 1) := by decide +kernel
theorem dX7_runningSlots_11 : decode cX7_runningSlots 11 = .ok (.getfield 36, 3) := by decide +kernel
theorem dX7_runningSlots_14 : decode cX7_runningSlots 14 = .ok (.iload_n 2, 1) := by decide +kernel
theorem dX7_runningSlots_15 : decode cX7_runningSlots 15 = .ok (.aaload, 1) := by decide +kernel
theorem dX7_runningSlots_16 : decode cX7_runningSlots 16 = .ok (.invokevirtual 117, 3) := by decide +kernel
theorem dX7_runningSlots_19 : decode cX7_runningSlots 19 = .ok (.ifCond .eq 6, 3) := by decide +kernel
theorem dX7_runningSlots_22 : decode cX7_runningSlots 22 = .ok (.iinc 1 1, 3) := by decide +kernel
theorem dX7_runningSlots_25 : decode cX7_runningSlots 25 = .ok (.iinc 2 1, 3) := by decide +kernel
theorem dX7_runningSlots_28 : decode cX7_runningSlots 28 = .ok (.goto (-24), 3) := by decide +kernel
theorem dX7_runningSlots_31 : decode cX7_runningSlots 31 = .ok (.iload_n 1, 1) := by decide +kernel
theorem dX7_runningSlots_32 : decode cX7_runningSlots 32 = .ok (.ireturn, 1) := by decide +kernel
theorem dX7_slotsWith_0 : decode cX7_slotsWith 0 = .ok (.iconst 0, 1) := by decide +kernel
theorem dX7_slotsWith_1 : decode cX7_slotsWith 1 = .ok (.istore_n 2, 1) := by decide +kernel
theorem dX7_slotsWith_2 : decode cX7_slotsWith 2 = .ok (.iconst 0, 1) := by decide +kernel
theorem dX7_slotsWith_3 : decode cX7_slotsWith 3 = .ok (.istore_n 3, 1) := by decide +kernel
theorem dX7_slotsWith_4 : decode cX7_slotsWith 4 = .ok (.iload_n 3, 1) := by decide +kernel
theorem dX7_slotsWith_5 : decode cX7_slotsWith 5 = .ok (.bipush 8, 2) := by decide +kernel
theorem dX7_slotsWith_7 : decode cX7_slotsWith 7 = .ok (.if_icmp .ge 37, 3) := by decide +kernel
theorem dX7_slotsWith_10 : decode cX7_slotsWith 10 = .ok (.aload_n 0, 1) := by decide +kernel
theorem dX7_slotsWith_11 : decode cX7_slotsWith 11 = .ok (.getfield 36, 3) := by decide +kernel
theorem dX7_slotsWith_14 : decode cX7_slotsWith 14 = .ok (.iload_n 3, 1) := by decide +kernel
theorem dX7_slotsWith_15 : decode cX7_slotsWith 15 = .ok (.aaload, 1) := by decide +kernel
theorem dX7_slotsWith_16 : decode cX7_slotsWith 16 = .ok (.invokevirtual 117, 3) := by decide +kernel
theorem dX7_slotsWith_19 : decode cX7_slotsWith 19 = .ok (.ifCond .eq 19, 3) := by decide +kernel
theorem dX7_slotsWith_22 : decode cX7_slotsWith 22 = .ok (.aload_n 0, 1) := by decide +kernel
theorem dX7_slotsWith_23 : decode cX7_slotsWith 23 = .ok (.getfield 36, 3) := by decide +kernel
theorem dX7_slotsWith_26 : decode cX7_slotsWith 26 = .ok (.iload_n 3, 1) := by decide +kernel
theorem dX7_slotsWith_27 : decode cX7_slotsWith 27 = .ok (.aaload, 1) := by decide +kernel
theorem dX7_slotsWith_28 : decode cX7_slotsWith 28 = .ok (.getfield 121, 3) := by decide +kernel
theorem dX7_slotsWith_31 : decode cX7_slotsWith 31 = .ok (.iload_n 1, 1) := by decide +kernel
theorem dX7_slotsWith_32 : decode cX7_slotsWith 32 = .ok (.if_icmp .ne 6, 3) := by decide +kernel
theorem dX7_slotsWith_35 : decode cX7_slotsWith 35 = .ok (.iinc 2 1, 3) := by decide +kernel
theorem dX7_slotsWith_38 : decode cX7_slotsWith 38 = .ok (.iinc 3 1, 3) := by decide +kernel
theorem dX7_slotsWith_41 : decode cX7_slotsWith 41 = .ok (.goto (-37), 3) := by decide +kernel
theorem dX7_slotsWith_44 : decode cX7_slotsWith 44 = .ok (.iload_n 2, 1) := by decide +kernel
theorem dX7_slotsWith_45 : decode cX7_slotsWith 45 = .ok (.ireturn, 1) := by decide +kernel
theorem dX7_lowestFreeSlot_0 : decode cX7_lowestFreeSlot 0 = .ok (.iconst 0, 1) := by decide +kernel
theorem dX7_lowestFreeSlot_1 : decode cX7_lowestFreeSlot 1 = .ok (.istore_n 1, 1) := by decide +kernel
theorem dX7_lowestFreeSlot_2 : decode cX7_lowestFreeSlot 2 = .ok (.iload_n 1, 1) := by decide +kernel
theorem dX7_lowestFreeSlot_3 : decode cX7_lowestFreeSlot 3 = .ok (.bipush 8, 2) := by decide +kernel
theorem dX7_lowestFreeSlot_5 : decode cX7_lowestFreeSlot 5 = .ok (.if_icmp .ge 23, 3) := by decide +kernel
theorem dX7_lowestFreeSlot_8 : decode cX7_lowestFreeSlot 8 = .ok (.aload_n 0, 1) := by decide +kernel
theorem dX7_lowestFreeSlot_9 : decode cX7_lowestFreeSlot 9 = .ok (.getfield 36, 3) := by decide +kernel
theorem dX7_lowestFreeSlot_12 : decode cX7_lowestFreeSlot 12 = .ok (.iload_n 1, 1) := by decide +kernel
theorem dX7_lowestFreeSlot_13 : decode cX7_lowestFreeSlot 13 = .ok (.aaload, 1) := by decide +kernel
theorem dX7_lowestFreeSlot_14 : decode cX7_lowestFreeSlot 14 = .ok (.invokevirtual 117, 3) := by decide +kernel
theorem dX7_lowestFreeSlot_17 : decode cX7_lowestFreeSlot 17 = .ok (.ifCond .ne 5, 3) := by decide +kernel
theorem dX7_lowestFreeSlot_20 : decode cX7_lowestFreeSlot 20 = .ok (.iload_n 1, 1) := by decide +kernel
theorem dX7_lowestFreeSlot_21 : decode cX7_lowestFreeSlot 21 = .ok (.ireturn, 1) := by decide +kernel
theorem dX7_lowestFreeSlot_22 : decode cX7_lowestFreeSlot 22 = .ok (.iinc 1 1, 3) := by decide +kernel
theorem dX7_lowestFreeSlot_25 : decode cX7_lowestFreeSlot 25 = .ok (.goto (-23), 3) := by decide +kernel
theorem dX7_lowestFreeSlot_28 : decode cX7_lowestFreeSlot 28 = .ok (.iconst (-1), 1) := by decide +kernel
theorem dX7_lowestFreeSlot_29 : decode cX7_lowestFreeSlot 29 = .ok (.ireturn, 1) := by decide +kernel
theorem dX7_runsSentence_0 : decode cX7_runsSentence 0 = .ok (.iconst 0, 1) := by decide +kernel
theorem dX7_runsSentence_1 : decode cX7_runsSentence 1 = .ok (.istore_n 1, 1) := by decide +kernel
theorem dX7_runsSentence_2 : decode cX7_runsSentence 2 = .ok (.iload_n 1, 1) := by decide +kernel
theorem dX7_runsSentence_3 : decode cX7_runsSentence 3 = .ok (.bipush 8, 2) := by decide +kernel
theorem dX7_runsSentence_5 : decode cX7_runsSentence 5 = .ok (.if_icmp .ge 23, 3) := by decide +kernel
theorem dX7_runsSentence_8 : decode cX7_runsSentence 8 = .ok (.aload_n 0, 1) := by decide +kernel
theorem dX7_runsSentence_9 : decode cX7_runsSentence 9 = .ok (.getfield 36, 3) := by decide +kernel
theorem dX7_runsSentence_12 : decode cX7_runsSentence 12 = .ok (.iload_n 1, 1) := by decide +kernel
theorem dX7_runsSentence_13 : decode cX7_runsSentence 13 = .ok (.aaload, 1) := by decide +kernel
theorem dX7_runsSentence_14 : decode cX7_runsSentence 14 = .ok (.getfield 124, 3) := by decide +kernel
theorem dX7_runsSentence_17 : decode cX7_runsSentence 17 = .ok (.ifCond .eq 5, 3) := by decide +kernel
theorem dX7_runsSentence_20 : decode cX7_runsSentence 20 = .ok (.iconst 1, 1) := by decide +kernel
theorem dX7_runsSentence_21 : decode cX7_runsSentence 21 = .ok (.ireturn, 1) := by decide +kernel
theorem dX7_runsSentence_22 : decode cX7_runsSentence 22 = .ok (.iinc 1 1, 3) := by decide +kernel
theorem dX7_runsSentence_25 : decode cX7_runsSentence 25 = .ok (.goto (-23), 3) := by decide +kernel
theorem dX7_runsSentence_28 : decode cX7_runsSentence 28 = .ok (.iconst 0, 1) := by decide +kernel
theorem dX7_runsSentence_29 : decode cX7_runsSentence 29 = .ok (.ireturn, 1) := by decide +kernel
theorem dX7_addNote_0 : decode cX7_addNote 0 = .ok (.aload_n 0, 1) := by decide +kernel
theorem dX7_addNote_1 : decode cX7_addNote 1 = .ok (.getfield 19, 3) := by decide +kernel
theorem dX7_addNote_4 : decode cX7_addNote 4 = .ok (.aload_n 0, 1) := by decide +kernel
theorem dX7_addNote_5 : decode cX7_addNote 5 = .ok (.getfield 51, 3) := by decide +kernel
theorem dX7_addNote_8 : decode cX7_addNote 8 = .ok (.bipush 64, 2) := by decide +kernel
theorem dX7_addNote_10 : decode cX7_addNote 10 = .ok (.invokestatic 128, 3) := by decide +kernel
theorem dX7_addNote_13 : decode cX7_addNote 13 = .ok (.iload_n 1, 1) := by decide +kernel
theorem dX7_addNote_14 : decode cX7_addNote 14 = .ok (.iastore, 1) := by decide +kernel
theorem dX7_addNote_15 : decode cX7_addNote 15 = .ok (.aload_n 0, 1) := by decide +kernel
theorem dX7_addNote_16 : decode cX7_addNote 16 = .ok (.dup, 1) := by decide +kernel
theorem dX7_addNote_17 : decode cX7_addNote 17 = .ok (.getfield 51, 3) := by decide +kernel
theorem dX7_addNote_20 : decode cX7_addNote 20 = .ok (.iconst 1, 1) := by decide +kernel
theorem dX7_addNote_21 : decode cX7_addNote 21 = .ok (.iadd, 1) := by decide +kernel
theorem dX7_addNote_22 : decode cX7_addNote 22 = .ok (.putfield 51, 3) := by decide +kernel
theorem dX7_addNote_25 : decode cX7_addNote 25 = .ok (.return_, 1) := by decide +kernel
theorem dX7_addSentence_0 : decode cX7_addSentence 0 = .ok (.aload_n 0, 1) := by decide +kernel
theorem dX7_addSentence_1 : decode cX7_addSentence 1 = .ok (.getfield 60, 3) := by decide +kernel
theorem dX7_addSentence_4 : decode cX7_addSentence 4 = .ok (.bipush 6, 2) := by decide +kernel
theorem dX7_addSentence_6 : decode cX7_addSentence 6 = .ok (.if_icmp .lt 15, 3) := by decide +kernel
theorem dX7_addSentence_9 : decode cX7_addSentence 9 = .ok (.aload_n 0, 1) := by decide +kernel
theorem dX7_addSentence_10 : decode cX7_addSentence 10 = .ok (.dup, 1) := by decide +kernel
theorem dX7_addSentence_11 : decode cX7_addSentence 11 = .ok (.getfield 57, 3) := by decide +kernel
theorem dX7_addSentence_14 : decode cX7_addSentence 14 = .ok (.iconst 1, 1) := by decide +kernel
theorem dX7_addSentence_15 : decode cX7_addSentence 15 = .ok (.iadd, 1) := by decide +kernel
theorem dX7_addSentence_16 : decode cX7_addSentence 16 = .ok (.putfield 57, 3) := by decide +kernel
theorem dX7_addSentence_19 : decode cX7_addSentence 19 = .ok (.iconst 0, 1) := by decide +kernel
theorem dX7_addSentence_20 : decode cX7_addSentence 20 = .ok (.ireturn, 1) := by decide +kernel
theorem dX7_addSentence_21 : decode cX7_addSentence 21 = .ok (.aload_n 0, 1) := by decide +kernel
theorem dX7_addSentence_22 : decode cX7_addSentence 22 = .ok (.getfield 60, 3) := by decide +kernel
theorem dX7_addSentence_25 : decode cX7_addSentence 25 = .ok (.iconst 3, 1) := by decide +kernel
theorem dX7_addSentence_26 : decode cX7_addSentence 26 = .ok (.imul, 1) := by decide +kernel
theorem dX7_addSentence_27 : decode cX7_addSentence 27 = .ok (.istore 4, 2) := by decide +kernel
theorem dX7_addSentence_29 : decode cX7_addSentence 29 = .ok (.aload_n 0, 1) := by decide +kernel
theorem dX7_addSentence_30 : decode cX7_addSentence 30 = .ok (.getfield 22, 3) := by decide +kernel
theorem dX7_addSentence_33 : decode cX7_addSentence 33 = .ok (.iload 4, 2) := by decide +kernel
theorem dX7_addSentence_35 : decode cX7_addSentence 35 = .ok (.iload_n 1, 1) := by decide +kernel
theorem dX7_addSentence_36 : decode cX7_addSentence 36 = .ok (.iastore, 1) := by decide +kernel
theorem dX7_addSentence_37 : decode cX7_addSentence 37 = .ok (.aload_n 0, 1) := by decide +kernel
theorem dX7_addSentence_38 : decode cX7_addSentence 38 = .ok (.getfield 22, 3) := by decide +kernel
theorem dX7_addSentence_41 : decode cX7_addSentence 41 = .ok (.iload 4, 2) := by decide +kernel
theorem dX7_addSentence_43 : decode cX7_addSentence 43 = .ok (.iconst 1, 1) := by decide +kernel
theorem dX7_addSentence_44 : decode cX7_addSentence 44 = .ok (.iadd, 1) := by decide +kernel
theorem dX7_addSentence_45 : decode cX7_addSentence 45 = .ok (.iload_n 2, 1) := by decide +kernel
theorem dX7_addSentence_46 : decode cX7_addSentence 46 = .ok (.iastore, 1) := by decide +kernel
theorem dX7_addSentence_47 : decode cX7_addSentence 47 = .ok (.aload_n 0, 1) := by decide +kernel
theorem dX7_addSentence_48 : decode cX7_addSentence 48 = .ok (.getfield 22, 3) := by decide +kernel
theorem dX7_addSentence_51 : decode cX7_addSentence 51 = .ok (.iload 4, 2) := by decide +kernel
theorem dX7_addSentence_53 : decode cX7_addSentence 53 = .ok (.iconst 2, 1) := by decide +kernel
theorem dX7_addSentence_54 : decode cX7_addSentence 54 = .ok (.iadd, 1) := by decide +kernel
theorem dX7_addSentence_55 : decode cX7_addSentence 55 = .ok (.iload_n 3, 1) := by decide +kernel
theorem dX7_addSentence_56 : decode cX7_addSentence 56 = .ok (.iastore, 1) := by decide +kernel
theorem dX7_addSentence_57 : decode cX7_addSentence 57 = .ok (.aload_n 0, 1) := by decide +kernel
theorem dX7_addSentence_58 : decode cX7_addSentence 58 = .ok (.dup, 1) := by decide +kernel
theorem dX7_addSentence_59 : decode cX7_addSentence 59 = .ok (.getfield 60, 3) := by decide +kernel
theorem dX7_addSentence_62 : decode cX7_addSentence 62 = .ok (.iconst 1, 1) := by decide +kernel
theorem dX7_addSentence_63 : decode cX7_addSentence 63 = .ok (.iadd, 1) := by decide +kernel
theorem dX7_addSentence_64 : decode cX7_addSentence 64 = .ok (.putfield 60, 3) := by decide +kernel
theorem dX7_addSentence_67 : decode cX7_addSentence 67 = .ok (.iconst 1, 1) := by decide +kernel
theorem dX7_addSentence_68 : decode cX7_addSentence 68 = .ok (.ireturn, 1) := by decide +kernel
theorem dX7_takeSentence_0 : decode cX7_takeSentence 0 = .ok (.aload_n 0, 1) := by decide +kernel
theorem dX7_takeSentence_1 : decode cX7_takeSentence 1 = .ok (.getfield 60, 3) := by decide +kernel
theorem dX7_takeSentence_4 : decode cX7_takeSentence 4 = .ok (.ifCond .gt 4, 3) := by decide +kernel
theorem dX7_takeSentence_7 : decode cX7_takeSentence 7 = .ok (.return_, 1) := by decide +kernel
theorem dX7_takeSentence_8 : decode cX7_takeSentence 8 = .ok (.aload_n 0, 1) := by decide +kernel
theorem dX7_takeSentence_9 : decode cX7_takeSentence 9 = .ok (.getfield 22, 3) := by decide +kernel
theorem dX7_takeSentence_12 : decode cX7_takeSentence 12 = .ok (.iconst 0, 1) := by decide +kernel
theorem dX7_takeSentence_13 : decode cX7_takeSentence 13 = .ok (.aload_n 0, 1) := by decide +kernel
theorem dX7_takeSentence_14 : decode cX7_takeSentence 14 = .ok (.getfield 15, 3) := by decide +kernel
theorem dX7_takeSentence_17 : decode cX7_takeSentence 17 = .ok (.iconst 1, 1) := by decide +kernel
theorem dX7_takeSentence_18 : decode cX7_takeSentence 18 = .ok (.iconst 3, 1) := by decide +kernel
theorem dX7_takeSentence_19 : decode cX7_takeSentence 19 = .ok (.invokestatic 104, 3) := by decide +kernel
theorem dX7_takeSentence_22 : decode cX7_takeSentence 22 = .ok (.aload_n 0, 1) := by decide +kernel
theorem dX7_takeSentence_23 : decode cX7_takeSentence 23 = .ok (.dup, 1) := by decide +kernel
theorem dX7_takeSentence_24 : decode cX7_takeSentence 24 = .ok (.getfield 60, 3) := by decide +kernel
theorem dX7_takeSentence_27 : decode cX7_takeSentence 27 = .ok (.iconst 1, 1) := by decide +kernel
theorem dX7_takeSentence_28 : decode cX7_takeSentence 28 = .ok (.isub, 1) := by decide +kernel
theorem dX7_takeSentence_29 : decode cX7_takeSentence 29 = .ok (.putfield 60, 3) := by decide +kernel
theorem dX7_takeSentence_32 : decode cX7_takeSentence 32 = .ok (.aload_n 0, 1) := by decide +kernel
theorem dX7_takeSentence_33 : decode cX7_takeSentence 33 = .ok (.getfield 22, 3) := by decide +kernel
theorem dX7_takeSentence_36 : decode cX7_takeSentence 36 = .ok (.iconst 3, 1) := by decide +kernel
theorem dX7_takeSentence_37 : decode cX7_takeSentence 37 = .ok (.aload_n 0, 1) := by decide +kernel
theorem dX7_takeSentence_38 : decode cX7_takeSentence 38 = .ok (.getfield 22, 3) := by decide +kernel
theorem dX7_takeSentence_41 : decode cX7_takeSentence 41 = .ok (.iconst 0, 1) := by decide +kernel
theorem dX7_takeSentence_42 : decode cX7_takeSentence 42 = .ok (.aload_n 0, 1) := by decide +kernel
theorem dX7_takeSentence_43 : decode cX7_takeSentence 43 = .ok (.getfield 60, 3) := by decide +kernel
theorem dX7_takeSentence_46 : decode cX7_takeSentence 46 = .ok (.iconst 3, 1) := by decide +kernel
theorem dX7_takeSentence_47 : decode cX7_takeSentence 47 = .ok (.imul, 1) := by decide +kernel
theorem dX7_takeSentence_48 : decode cX7_takeSentence 48 = .ok (.invokestatic 104, 3) := by decide +kernel
theorem dX7_takeSentence_51 : decode cX7_takeSentence 51 = .ok (.return_, 1) := by decide +kernel
theorem dX7_drawLuck_0 : decode cX7_drawLuck 0 = .ok (.aload_n 0, 1) := by decide +kernel
theorem dX7_drawLuck_1 : decode cX7_drawLuck 1 = .ok (.aload_n 0, 1) := by decide +kernel
theorem dX7_drawLuck_2 : decode cX7_drawLuck 2 = .ok (.getfield 9, 3) := by decide +kernel
theorem dX7_drawLuck_5 : decode cX7_drawLuck 5 = .ok (.ldc 133, 2) := by decide +kernel
theorem dX7_drawLuck_7 : decode cX7_drawLuck 7 = .ok (.imul, 1) := by decide +kernel
theorem dX7_drawLuck_8 : decode cX7_drawLuck 8 = .ok (.sipush 12345, 3) := by decide +kernel
theorem dX7_drawLuck_11 : decode cX7_drawLuck 11 = .ok (.iadd, 1) := by decide +kernel
theorem dX7_drawLuck_12 : decode cX7_drawLuck 12 = .ok (.putfield 9, 3) := by decide +kernel
theorem dX7_drawLuck_15 : decode cX7_drawLuck 15 = .ok (.iload_n 1, 1) := by decide +kernel
theorem dX7_drawLuck_16 : decode cX7_drawLuck 16 = .ok (.ifCond .le 15, 3) := by decide +kernel
theorem dX7_drawLuck_19 : decode cX7_drawLuck 19 = .ok (.aload_n 0, 1) := by decide +kernel
theorem dX7_drawLuck_20 : decode cX7_drawLuck 20 = .ok (.getfield 9, 3) := by decide +kernel
theorem dX7_drawLuck_23 : decode cX7_drawLuck 23 = .ok (.ldc 134, 2) := by decide +kernel
theorem dX7_drawLuck_25 : decode cX7_drawLuck 25 = .ok (.iand, 1) := by decide +kernel
theorem dX7_drawLuck_26 : decode cX7_drawLuck 26 = .ok (.iload_n 1, 1) := by decide +kernel
theorem dX7_drawLuck_27 : decode cX7_drawLuck 27 = .ok (.irem, 1) := by decide +kernel
theorem dX7_drawLuck_28 : decode cX7_drawLuck 28 = .ok (.goto 4, 3) := by decide +kernel
theorem dX7_drawLuck_31 : decode cX7_drawLuck 31 = .ok (.iconst 0, 1) := by decide +kernel
theorem dX7_drawLuck_32 : decode cX7_drawLuck 32 = .ok (.ireturn, 1) := by decide +kernel
theorem dX9_init_0 : decode cX9_init 0 = .ok (.aload_n 0, 1) := by decide +kernel
theorem dX9_init_1 : decode cX9_init 1 = .ok (.invokespecial 3, 3) := by decide +kernel
theorem dX9_init_4 : decode cX9_init 4 = .ok (.aload_n 0, 1) := by decide +kernel
theorem dX9_init_5 : decode cX9_init 5 = .ok (.bipush 16, 2) := by decide +kernel
theorem dX9_init_7 : decode cX9_init 7 = .ok (.newarray .int, 2) := by decide +kernel
theorem dX9_init_9 : decode cX9_init 9 = .ok (.putfield 9, 3) := by decide +kernel
theorem dX9_init_12 : decode cX9_init 12 = .ok (.aload_n 0, 1) := by decide +kernel
theorem dX9_init_13 : decode cX9_init 13 = .ok (.aload_n 1, 1) := by decide +kernel
theorem dX9_init_14 : decode cX9_init 14 = .ok (.putfield 15, 3) := by decide +kernel
theorem dX9_init_17 : decode cX9_init 17 = .ok (.aload_n 0, 1) := by decide +kernel
theorem dX9_init_18 : decode cX9_init 18 = .ok (.aload_n 2, 1) := by decide +kernel
theorem dX9_init_19 : decode cX9_init 19 = .ok (.putfield 19, 3) := by decide +kernel
theorem dX9_init_22 : decode cX9_init 22 = .ok (.aload_n 0, 1) := by decide +kernel
theorem dX9_init_23 : decode cX9_init 23 = .ok (.aload_n 3, 1) := by decide +kernel
theorem dX9_init_24 : decode cX9_init 24 = .ok (.putfield 23, 3) := by decide +kernel
theorem dX9_init_27 : decode cX9_init 27 = .ok (.return_, 1) := by decide +kernel
theorem dX9_send_0 : decode cX9_send 0 = .ok (.aload_n 0, 1) := by decide +kernel
theorem dX9_send_1 : decode cX9_send 1 = .ok (.getfield 15, 3) := by decide +kernel
theorem dX9_send_4 : decode cX9_send 4 = .ok (.getfield 27, 3) := by decide +kernel
theorem dX9_send_7 : decode cX9_send 7 = .ok (.iload_n 1, 1) := by decide +kernel
theorem dX9_send_8 : decode cX9_send 8 = .ok (.invokevirtual 33, 3) := by decide +kernel
theorem dX9_send_11 : decode cX9_send 11 = .ok (.ifCond .eq 17, 3) := by decide +kernel
theorem dX9_send_14 : decode cX9_send 14 = .ok (.iload_n 2, 1) := by decide +kernel
theorem dX9_send_15 : decode cX9_send 15 = .ok (.invokestatic 39, 3) := by decide +kernel
theorem dX9_send_18 : decode cX9_send 18 = .ok (.ifCond .eq 10, 3) := by decide +kernel
theorem dX9_send_21 : decode cX9_send 21 = .ok (.iload_n 3, 1) := by decide +kernel
theorem dX9_send_22 : decode cX9_send 22 = .ok (.invokestatic 39, 3) := by decide +kernel
theorem dX9_send_25 : decode cX9_send 25 = .ok (.ifCond .ne 5, 3) := by decide +kernel
theorem dX9_send_28 : decode cX9_send 28 = .ok (.iconst 0, 1) := by decide +kernel
theorem dX9_send_29 : decode cX9_send 29 = .ok (.ireturn, 1) := by decide +kernel
theorem dX9_send_30 : decode cX9_send 30 = .ok (.aload_n 0, 1) := by decide +kernel
theorem dX9_send_31 : decode cX9_send 31 = .ok (.getfield 23, 3) := by decide +kernel
theorem dX9_send_34 : decode cX9_send 34 = .ok (.getfield 42, 3) := by decide +kernel
theorem dX9_send_37 : decode cX9_send 37 = .ok (.iload_n 1, 1) := by decide +kernel
theorem dX9_send_38 : decode cX9_send 38 = .ok (.aaload, 1) := by decide +kernel
theorem dX9_send_39 : decode cX9_send 39 = .ok (.iload_n 2, 1) := by decide +kernel
theorem dX9_send_40 : decode cX9_send 40 = .ok (.iload_n 3, 1) := by decide +kernel
theorem dX9_send_41 : decode cX9_send 41 = .ok (.invokevirtual 47, 3) := by decide +kernel
theorem dX9_send_44 : decode cX9_send 44 = .ok (.iconst 1, 1) := by decide +kernel
theorem dX9_send_45 : decode cX9_send 45 = .ok (.ireturn, 1) := by decide +kernel
theorem dX9_isOpen_0 : decode cX9_isOpen 0 = .ok (.aload_n 0, 1) := by decide +kernel
theorem dX9_isOpen_1 : decode cX9_isOpen 1 = .ok (.getfield 19, 3) := by decide +kernel
theorem dX9_isOpen_4 : decode cX9_isOpen 4 = .ok (.iload_n 1, 1) := by decide +kernel
theorem dX9_isOpen_5 : decode cX9_isOpen 5 = .ok (.iload_n 2, 1) := by decide +kernel
theorem dX9_isOpen_6 : decode cX9_isOpen 6 = .ok (.invokevirtual 53, 3) := by decide +kernel
theorem dX9_isOpen_9 : decode cX9_isOpen 9 = .ok (.ifCond .eq 23, 3) := by decide +kernel
theorem dX9_isOpen_12 : decode cX9_isOpen 12 = .ok (.aload_n 0, 1) := by decide +kernel
theorem dX9_isOpen_13 : decode cX9_isOpen 13 = .ok (.getfield 23, 3) := by decide +kernel
theorem dX9_isOpen_16 : decode cX9_isOpen 16 = .ok (.getfield 59, 3) := by decide +kernel
theorem dX9_isOpen_19 : decode cX9_isOpen 19 = .ok (.iload_n 1, 1) := by decide +kernel
theorem dX9_isOpen_20 : decode cX9_isOpen 20 = .ok (.iaload, 1) := by decide +kernel
theorem dX9_isOpen_21 : decode cX9_isOpen 21 = .ok (.iload_n 2, 1) := by decide +kernel
theorem dX9_isOpen_22 : decode cX9_isOpen 22 = .ok (.ishr, 1) := by decide +kernel
theorem dX9_isOpen_23 : decode cX9_isOpen 23 = .ok (.iconst 1, 1) := by decide +kernel
theorem dX9_isOpen_24 : decode cX9_isOpen 24 = .ok (.iand, 1) := by decide +kernel
theorem dX9_isOpen_25 : decode cX9_isOpen 25 = .ok (.ifCond .ne 7, 3) := by decide +kernel
theorem dX9_isOpen_28 : decode cX9_isOpen 28 = .ok (.iconst 1, 1) := by decide +kernel
theorem dX9_isOpen_29 : decode cX9_isOpen 29 = .ok (.goto 4, 3) := by decide +kernel
theorem dX9_isOpen_32 : decode cX9_isOpen 32 = .ok (.iconst 0, 1) := by decide +kernel
theorem dX9_isOpen_33 : decode cX9_isOpen 33 = .ok (.ireturn, 1) := by decide +kernel
theorem dX9_boxOf_0 : decode cX9_boxOf 0 = .ok (.aload_n 0, 1) := by decide +kernel
theorem dX9_boxOf_1 : decode cX9_boxOf 1 = .ok (.getfield 19, 3) := by decide +kernel
theorem dX9_boxOf_4 : decode cX9_boxOf 4 = .ok (.aload_n 1, 1) := by decide +kernel
theorem dX9_boxOf_5 : decode cX9_boxOf 5 = .ok (.getfield 62, 3) := by decide +kernel
theorem dX9_boxOf_8 : decode cX9_boxOf 8 = .ok (.invokevirtual 66, 3) := by decide +kernel
theorem dX9_boxOf_11 : decode cX9_boxOf 11 = .ok (.istore_n 2, 1) := by decide +kernel
theorem dX9_boxOf_12 : decode cX9_boxOf 12 = .ok (.iconst 0, 1) := by decide +kernel
theorem dX9_boxOf_13 : decode cX9_boxOf 13 = .ok (.istore_n 3, 1) := by decide +kernel
theorem dX9_boxOf_14 : decode cX9_boxOf 14 = .ok (.iload_n 3, 1) := by decide +kernel
theorem dX9_boxOf_15 : decode cX9_boxOf 15 = .ok (.iload_n 2, 1) := by decide +kernel
theorem dX9_boxOf_16 : decode cX9_boxOf 16 = .ok (.if_icmp .ge 65, 3) := by decide +kernel
theorem dX9_boxOf_19 : decode cX9_boxOf 19 = .ok (.aload_n 0, 1) := by decide +kernel
theorem dX9_boxOf_20 : decode cX9_boxOf 20 = .ok (.getfield 23, 3) := by decide +kernel
theorem dX9_boxOf_23 : decode cX9_boxOf 23 = .ok (.getfield 59, 3) := by decide +kernel
theorem dX9_boxOf_26 : decode cX9_boxOf 26 = .ok (.aload_n 1, 1) := by decide +kernel
theorem dX9_boxOf_27 : decode cX9_boxOf 27 = .ok (.getfield 62, 3) := by decide +kernel
theorem dX9_boxOf_30 : decode cX9_boxOf 30 = .ok (.iaload, 1) := by decide +kernel
theorem dX9_boxOf_31 : decode cX9_boxOf 31 = .ok (.iload_n 3, 1) := by decide +kernel
theorem dX9_boxOf_32 : decode cX9_boxOf 32 = .ok (.ishr, 1) := by decide +kernel
theorem dX9_boxOf_33 : decode cX9_boxOf 33 = .ok (.iconst 1, 1) := by decide +kernel
theorem dX9_boxOf_34 : decode cX9_boxOf 34 = .ok (.iand, 1) := by decide +kernel
theorem dX9_boxOf_35 : decode cX9_boxOf 35 = .ok (.ifCond .eq 7, 3) := by decide +kernel
theorem dX9_boxOf_38 : decode cX9_boxOf 38 = .ok (.iconst 1, 1) := by decide +kernel
theorem dX9_boxOf_39 : decode cX9_boxOf 39 = .ok (.goto 4, 3) := by decide +kernel
theorem dX9_boxOf_42 : decode cX9_boxOf 42 = .ok (.iconst 0, 1) := by decide +kernel
theorem dX9_boxOf_43 : decode cX9_boxOf 43 = .ok (.istore 4, 2) := by decide +kernel
theorem dX9_boxOf_45 : decode cX9_boxOf 45 = .ok (.iload 4, 2) := by decide +kernel
theorem dX9_boxOf_47 : decode cX9_boxOf 47 = .ok (.ifCond .ne 28, 3) := by decide +kernel
theorem dX9_boxOf_50 : decode cX9_boxOf 50 = .ok (.aload_n 0, 1) := by decide +kernel
theorem dX9_boxOf_51 : decode cX9_boxOf 51 = .ok (.getfield 19, 3) := by decide +kernel
theorem dX9_boxOf_54 : decode cX9_boxOf 54 = .ok (.aload_n 1, 1) := by decide +kernel
theorem dX9_boxOf_55 : decode cX9_boxOf 55 = .ok (.getfield 62, 3) := by decide +kernel
theorem dX9_boxOf_58 : decode cX9_boxOf 58 = .ok (.iload_n 3, 1) := by decide +kernel
theorem dX9_boxOf_59 : decode cX9_boxOf 59 = .ok (.aload_n 1, 1) := by decide +kernel
theorem dX9_boxOf_60 : decode cX9_boxOf 60 = .ok (.getfield 70, 3) := by decide +kernel
theorem dX9_boxOf_63 : decode cX9_boxOf 63 = .ok (.aload_n 1, 1) := by decide +kernel
theorem dX9_boxOf_64 : decode cX9_boxOf 64 = .ok (.getfield 73, 3) := by decide +kernel
theorem dX9_boxOf_67 : decode cX9_boxOf 67 = .ok (.invokevirtual 76, 3) := by decide +kernel
theorem dX9_boxOf_70 : decode cX9_boxOf 70 = .ok (.ifCond .eq 5, 3) := by decide +kernel
theorem dX9_boxOf_73 : decode cX9_boxOf 73 = .ok (.iload_n 3, 1) := by decide +kernel
theorem dX9_boxOf_74 : decode cX9_boxOf 74 = .ok (.ireturn, 1) := by decide +kernel
theorem dX9_boxOf_75 : decode cX9_boxOf 75 = .ok (.iinc 3 1, 3) := by decide +kernel
theorem dX9_boxOf_78 : decode cX9_boxOf 78 = .ok (.goto (-64), 3) := by decide +kernel
theorem dX9_boxOf_81 : decode cX9_boxOf 81 = .ok (.iconst (-1), 1) := by decide +kernel
theorem dX9_boxOf_82 : decode cX9_boxOf 82 = .ok (.ireturn, 1) := by decide +kernel
theorem dX9_boxesBetween_0 : decode cX9_boxesBetween 0 = .ok (.aload_n 0, 1) := by decide +kernel
theorem dX9_boxesBetween_1 : decode cX9_boxesBetween 1 = .ok (.iload_n 1, 1) := by decide +kernel
theorem dX9_boxesBetween_2 : decode cX9_boxesBetween 2 = .ok (.iload_n 2, 1) := by decide +kernel
theorem dX9_boxesBetween_3 : decode cX9_boxesBetween 3 = .ok (.invokevirtual 80, 3) := by decide +kernel
theorem dX9_boxesBetween_6 : decode cX9_boxesBetween 6 = .ok (.aload_n 0, 1) := by decide +kernel
theorem dX9_boxesBetween_7 : decode cX9_boxesBetween 7 = .ok (.getfield 9, 3) := by decide +kernel
theorem dX9_boxesBetween_10 : decode cX9_boxesBetween 10 = .ok (.iload_n 3, 1) := by decide +kernel
theorem dX9_boxesBetween_11 : decode cX9_boxesBetween 11 = .ok (.iaload, 1) := by decide +kernel
theorem dX9_boxesBetween_12 : decode cX9_boxesBetween 12 = .ok (.ireturn, 1) := by decide +kernel
theorem dX9_goalFor_0 : decode cX9_goalFor 0 = .ok (.aload_n 0, 1) := by decide +kernel
theorem dX9_goalFor_1 : decode cX9_goalFor 1 = .ok (.aload_n 1, 1) := by decide +kernel
theorem dX9_goalFor_2 : decode cX9_goalFor 2 = .ok (.invokevirtual 83, 3) := by decide +kernel
theorem dX9_goalFor_5 : decode cX9_goalFor 5 = .ok (.istore 4, 2) := by decide +kernel
theorem dX9_goalFor_7 : decode cX9_goalFor 7 = .ok (.iload 4, 2) := by decide +kernel
theorem dX9_goalFor_9 : decode cX9_goalFor 9 = .ok (.iconst (-1), 1) := by decide +kernel
theorem dX9_goalFor_10 : decode cX9_goalFor 10 = .ok (.if_icmp .ne 5, 3) := by decide +kernel
theorem dX9_goalFor_13 : decode cX9_goalFor 13 = .ok (.iconst (-1), 1) := by decide +kernel
theorem dX9_goalFor_14 : decode cX9_goalFor 14 = .ok (.ireturn, 1) := by decide +kernel
theorem dX9_goalFor_15 : decode cX9_goalFor 15 = .ok (.aload_n 0, 1) := by decide +kernel
theorem dX9_goalFor_16 : decode cX9_goalFor 16 = .ok (.aload_n 1, 1) := by decide +kernel
theorem dX9_goalFor_17 : decode cX9_goalFor 17 = .ok (.getfield 62, 3) := by decide +kernel
theorem dX9_goalFor_20 : decode cX9_goalFor 20 = .ok (.iload 4, 2) := by decide +kernel
theorem dX9_goalFor_22 : decode cX9_goalFor 22 = .ok (.iload_n 2, 1) := by decide +kernel
theorem dX9_goalFor_23 : decode cX9_goalFor 23 = .ok (.iload_n 3, 1) := by decide +kernel
theorem dX9_goalFor_24 : decode cX9_goalFor 24 = .ok (.invokevirtual 87, 3) := by decide +kernel
theorem dX9_goalFor_27 : decode cX9_goalFor 27 = .ok (.sipush 256, 3) := by decide +kernel
theorem dX9_goalFor_30 : decode cX9_goalFor 30 = .ok (.aload_n 0, 1) := by decide +kernel
theorem dX9_goalFor_31 : decode cX9_goalFor 31 = .ok (.getfield 91, 3) := by decide +kernel
theorem dX9_goalFor_34 : decode cX9_goalFor 34 = .ok (.imul, 1) := by decide +kernel
theorem dX9_goalFor_35 : decode cX9_goalFor 35 = .ok (.aload_n 0, 1) := by decide +kernel
theorem dX9_goalFor_36 : decode cX9_goalFor 36 = .ok (.getfield 94, 3) := by decide +kernel
theorem dX9_goalFor_39 : decode cX9_goalFor 39 = .ok (.iadd, 1) := by decide +kernel
theorem dX9_goalFor_40 : decode cX9_goalFor 40 = .ok (.ireturn, 1) := by decide +kernel
theorem dX9_moveAll_0 : decode cX9_moveAll 0 = .ok (.iconst 1, 1) := by decide +kernel
theorem dX9_moveAll_1 : decode cX9_moveAll 1 = .ok (.istore_n 1, 1) := by decide +kernel
theorem dX9_moveAll_2 : decode cX9_moveAll 2 = .ok (.iload_n 1, 1) := by decide +kernel
theorem dX9_moveAll_3 : decode cX9_moveAll 3 = .ok (.bipush 12, 2) := by decide +kernel
theorem dX9_moveAll_5 : decode cX9_moveAll 5 = .ok (.if_icmp .gt 47, 3) := by decide +kernel
theorem dX9_moveAll_8 : decode cX9_moveAll 8 = .ok (.aload_n 0, 1) := by decide +kernel
theorem dX9_moveAll_9 : decode cX9_moveAll 9 = .ok (.getfield 23, 3) := by decide +kernel
theorem dX9_moveAll_12 : decode cX9_moveAll 12 = .ok (.getfield 42, 3) := by decide +kernel
theorem dX9_moveAll_15 : decode cX9_moveAll 15 = .ok (.iload_n 1, 1) := by decide +kernel
theorem dX9_moveAll_16 : decode cX9_moveAll 16 = .ok (.aaload, 1) := by decide +kernel
theorem dX9_moveAll_17 : decode cX9_moveAll 17 = .ok (.astore_n 2, 1) := by decide +kernel
theorem dX9_moveAll_18 : decode cX9_moveAll 18 = .ok (.iconst 0, 1) := by decide +kernel
theorem dX9_moveAll_19 : decode cX9_moveAll 19 = .ok (.istore_n 3, 1) := by decide +kernel
theorem dX9_moveAll_20 : decode cX9_moveAll 20 = .ok (.iload_n 3, 1) := by decide +kernel
theorem dX9_moveAll_21 : decode cX9_moveAll 21 = .ok (.aload_n 2, 1) := by decide +kernel
theorem dX9_moveAll_22 : decode cX9_moveAll 22 = .ok (.getfield 97, 3) := by decide +kernel
theorem dX9_moveAll_25 : decode cX9_moveAll 25 = .ok (.if_icmp .ge 21, 3) := by decide +kernel
theorem dX9_moveAll_28 : decode cX9_moveAll 28 = .ok (.aload_n 2, 1) := by decide +kernel
theorem dX9_moveAll_29 : decode cX9_moveAll 29 = .ok (.getfield 100, 3) := by decide +kernel
theorem dX9_moveAll_32 : decode cX9_moveAll 32 = .ok (.ifCond .eq 14, 3) := by decide +kernel
theorem dX9_moveAll_35 : decode cX9_moveAll 35 = .ok (.aload_n 0, 1) := by decide +kernel
theorem dX9_moveAll_36 : decode cX9_moveAll 36 = .ok (.aload_n 2, 1) := by decide +kernel
theorem dX9_moveAll_37 : decode cX9_moveAll 37 = .ok (.invokevirtual 104, 3) := by decide +kernel
theorem dX9_moveAll_40 : decode cX9_moveAll 40 = .ok (.iinc 3 1, 3) := by decide +kernel
theorem dX9_moveAll_43 : decode cX9_moveAll 43 = .ok (.goto (-23), 3) := by decide +kernel
theorem dX9_moveAll_46 : decode cX9_moveAll 46 = .ok (.iinc 1 1, 3) := by decide +kernel
theorem dX9_moveAll_49 : decode cX9_moveAll 49 = .ok (.goto (-47), 3) := by decide +kernel
theorem dX9_moveAll_52 : decode cX9_moveAll 52 = .ok (.return_, 1) := by decide +kernel
theorem dX9_measureFrom_0 : decode cX9_measureFrom 0 = .ok (.aload_n 0, 1) := by decide +kernel
theorem dX9_measureFrom_1 : decode cX9_measureFrom 1 = .ok (.getfield 9, 3) := by decide +kernel
theorem dX9_measureFrom_4 : decode cX9_measureFrom 4 = .ok (.iconst 0, 1) := by decide +kernel
theorem dX9_measureFrom_5 : decode cX9_measureFrom 5 = .ok (.invokestatic 108, 3) := by decide +kernel
theorem dX9_measureFrom_8 : decode cX9_measureFrom 8 = .ok (.iconst 1, 1) := by decide +kernel
theorem dX9_measureFrom_9 : decode cX9_measureFrom 9 = .ok (.iload_n 2, 1) := by decide +kernel
theorem dX9_measureFrom_10 : decode cX9_measureFrom 10 = .ok (.ishl, 1) := by decide +kernel
theorem dX9_measureFrom_11 : decode cX9_measureFrom 11 = .ok (.istore_n 3, 1) := by decide +kernel
theorem dX9_measureFrom_12 : decode cX9_measureFrom 12 = .ok (.iload_n 3, 1) := by decide +kernel
theorem dX9_measureFrom_13 : decode cX9_measureFrom 13 = .ok (.istore 4, 2) := by decide +kernel
theorem dX9_measureFrom_15 : decode cX9_measureFrom 15 = .ok (.iconst 1, 1) := by decide +kernel
theorem dX9_measureFrom_16 : decode cX9_measureFrom 16 = .ok (.istore 5, 2) := by decide +kernel
theorem dX9_measureFrom_18 : decode cX9_measureFrom 18 = .ok (.iload 5, 2) := by decide +kernel
theorem dX9_measureFrom_20 : decode cX9_measureFrom 20 = .ok (.bipush 16, 2) := by decide +kernel
theorem dX9_measureFrom_22 : decode cX9_measureFrom 22 = .ok (.if_icmp .gt 97, 3) := by decide +kernel
theorem dX9_measureFrom_25 : decode cX9_measureFrom 25 = .ok (.iload 4, 2) := by decide +kernel
theorem dX9_measureFrom_27 : decode cX9_measureFrom 27 = .ok (.ifCond .eq 92, 3) := by decide +kernel
theorem dX9_measureFrom_30 : decode cX9_measureFrom 30 = .ok (.iconst 0, 1) := by decide +kernel
theorem dX9_measureFrom_31 : decode cX9_measureFrom 31 = .ok (.istore 6, 2) := by decide +kernel
theorem dX9_measureFrom_33 : decode cX9_measureFrom 33 = .ok (.iconst 0, 1) := by decide +kernel
theorem dX9_measureFrom_34 : decode cX9_measureFrom 34 = .ok (.istore 7, 2) := by decide +kernel
theorem dX9_measureFrom_36 : decode cX9_measureFrom 36 = .ok (.iload 7, 2) := by decide +kernel
theorem dX9_measureFrom_38 : decode cX9_measureFrom 38 = .ok (.bipush 16, 2) := by decide +kernel
theorem dX9_measureFrom_40 : decode cX9_measureFrom 40 = .ok (.if_icmp .ge 48, 3) := by decide +kernel
theorem dX9_measureFrom_43 : decode cX9_measureFrom 43 = .ok (.iload 4, 2) := by decide +kernel
theorem dX9_measureFrom_45 : decode cX9_measureFrom 45 = .ok (.iload 7, 2) := by decide +kernel
theorem dX9_measureFrom_47 : decode cX9_measureFrom 47 = .ok (.ishr, 1) := by decide +kernel
theorem dX9_measureFrom_48 : decode cX9_measureFrom 48 = .ok (.iconst 1, 1) := by decide +kernel
theorem dX9_measureFrom_49 : decode cX9_measureFrom 49 = .ok (.iand, 1) := by decide +kernel
theorem dX9_measureFrom_50 : decode cX9_measureFrom 50 = .ok (.ifCond .eq 32, 3) := by decide +kernel
theorem dX9_measureFrom_53 : decode cX9_measureFrom 53 = .ok (.aload_n 0, 1) := by decide +kernel
theorem dX9_measureFrom_54 : decode cX9_measureFrom 54 = .ok (.getfield 9, 3) := by decide +kernel
theorem dX9_measureFrom_57 : decode cX9_measureFrom 57 = .ok (.iload 7, 2) := by decide +kernel
theorem dX9_measureFrom_59 : decode cX9_measureFrom 59 = .ok (.iload 5, 2) := by decide +kernel
theorem dX9_measureFrom_61 : decode cX9_measureFrom 61 = .ok (.iastore, 1) := by decide +kernel
theorem dX9_measureFrom_62 : decode cX9_measureFrom 62 = .ok (.iload 6, 2) := by decide +kernel
theorem dX9_measureFrom_64 : decode cX9_measureFrom 64 = .ok (.aload_n 0, 1) := by decide +kernel
theorem dX9_measureFrom_65 : decode cX9_measureFrom 65 = .ok (.getfield 19, 3) := by decide +kernel
theorem dX9_measureFrom_68 : decode cX9_measureFrom 68 = .ok (.getfield 114, 3) := by decide +kernel
theorem dX9_measureFrom_71 : decode cX9_measureFrom 71 = .ok (.iload_n 1, 1) := by decide +kernel
theorem dX9_measureFrom_72 : decode cX9_measureFrom 72 = .ok (.bipush 16, 2) := by decide +kernel
theorem dX9_measureFrom_74 : decode cX9_measureFrom 74 = .ok (.imul, 1) := by decide +kernel
theorem dX9_measureFrom_75 : decode cX9_measureFrom 75 = .ok (.iload 7, 2) := by decide +kernel
theorem dX9_measureFrom_77 : decode cX9_measureFrom 77 = .ok (.iadd, 1) := by decide +kernel
theorem dX9_measureFrom_78 : decode cX9_measureFrom 78 = .ok (.iaload, 1) := by decide +kernel
theorem dX9_measureFrom_79 : decode cX9_measureFrom 79 = .ok (.ior, 1) := by decide +kernel
theorem dX9_measureFrom_80 : decode cX9_measureFrom 80 = .ok (.istore 6, 2) := by decide +kernel
theorem dX9_measureFrom_82 : decode cX9_measureFrom 82 = .ok (.iinc 7 1, 3) := by decide +kernel
theorem dX9_measureFrom_85 : decode cX9_measureFrom 85 = .ok (.goto (-49), 3) := by decide +kernel
theorem dX9_measureFrom_88 : decode cX9_measureFrom 88 = .ok (.iload 6, 2) := by decide +kernel
theorem dX9_measureFrom_90 : decode cX9_measureFrom 90 = .ok (.iload_n 3, 1) := by decide +kernel
theorem dX9_measureFrom_91 : decode cX9_measureFrom 91 = .ok (.iconst (-1), 1) := by decide +kernel
theorem dX9_measureFrom_92 : decode cX9_measureFrom 92 = .ok (.ixor, 1) := by decide +kernel
theorem dX9_measureFrom_93 : decode cX9_measureFrom 93 = .ok (.iand, 1) := by decide +kernel
theorem dX9_measureFrom_94 : decode cX9_measureFrom 94 = .ok (.aload_n 0, 1) := by decide +kernel
theorem dX9_measureFrom_95 : decode cX9_measureFrom 95 = .ok (.getfield 23, 3) := by decide +kernel
theorem dX9_measureFrom_98 : decode cX9_measureFrom 98 = .ok (.getfield 59, 3) := by decide +kernel
theorem dX9_measureFrom_101 : decode cX9_measureFrom 101 = .ok (.iload_n 1, 1) := by decide +kernel
theorem dX9_measureFrom_102 : decode cX9_measureFrom 102 = .ok (.iaload, 1) := by decide +kernel
theorem dX9_measureFrom_103 : decode cX9_measureFrom 103 = .ok (.iconst (-1), 1) := by decide +kernel
theorem dX9_measureFrom_104 : decode cX9_measureFrom 104 = .ok (.ixor, 1) := by decide +kernel
theorem dX9_measureFrom_105 : decode cX9_measureFrom 105 = .ok (.iand, 1) := by decide +kernel
theorem dX9_measureFrom_106 : decode cX9_measureFrom 106 = .ok (.istore 4, 2) := by decide +kernel
theorem dX9_measureFrom_108 : decode cX9_measureFrom 108 = .ok (.iload_n 3, 1) := by decide +kernel
theorem dX9_measureFrom_109 : decode cX9_measureFrom 109 = .ok (.iload 4, 2) := by decide +kernel
theorem dX9_measureFrom_111 : decode cX9_measureFrom 111 = .ok (.ior, 1) := by decide +kernel
theorem dX9_measureFrom_112 : decode cX9_measureFrom 112 = .ok (.istore_n 3, 1) := by decide +kernel
theorem dX9_measureFrom_113 : decode cX9_measureFrom 113 = .ok (.iinc 5 1, 3) := by decide +kernel
theorem dX9_measureFrom_116 : decode cX9_measureFrom 116 = .ok (.goto (-98), 3) := by decide +kernel
theorem dX9_measureFrom_119 : decode cX9_measureFrom 119 = .ok (.return_, 1) := by decide +kernel
theorem dX9_findGoal_0 : decode cX9_findGoal 0 = .ok (.aload_n 0, 1) := by decide +kernel
theorem dX9_findGoal_1 : decode cX9_findGoal 1 = .ok (.iload_n 1, 1) := by decide +kernel
theorem dX9_findGoal_2 : decode cX9_findGoal 2 = .ok (.iload_n 2, 1) := by decide +kernel
theorem dX9_findGoal_3 : decode cX9_findGoal 3 = .ok (.invokevirtual 80, 3) := by decide +kernel
theorem dX9_findGoal_6 : decode cX9_findGoal 6 = .ok (.ldc 117, 2) := by decide +kernel
theorem dX9_findGoal_8 : decode cX9_findGoal 8 = .ok (.istore 5, 2) := by decide +kernel
theorem dX9_findGoal_10 : decode cX9_findGoal 10 = .ok (.iconst 0, 1) := by decide +kernel
theorem dX9_findGoal_11 : decode cX9_findGoal 11 = .ok (.istore 6, 2) := by decide +kernel
theorem dX9_findGoal_13 : decode cX9_findGoal 13 = .ok (.iload 6, 2) := by decide +kernel
theorem dX9_findGoal_15 : decode cX9_findGoal 15 = .ok (.bipush 16, 2) := by decide +kernel
theorem dX9_findGoal_17 : decode cX9_findGoal 17 = .ok (.if_icmp .ge 101, 3) := by decide +kernel
theorem dX9_findGoal_20 : decode cX9_findGoal 20 = .ok (.aload_n 0, 1) := by decide +kernel
theorem dX9_findGoal_21 : decode cX9_findGoal 21 = .ok (.getfield 9, 3) := by decide +kernel
theorem dX9_findGoal_24 : decode cX9_findGoal 24 = .ok (.iload 6, 2) := by decide +kernel
theorem dX9_findGoal_26 : decode cX9_findGoal 26 = .ok (.iaload, 1) := by decide +kernel
theorem dX9_findGoal_27 : decode cX9_findGoal 27 = .ok (.ifCond .ne 6, 3) := by decide +kernel
theorem dX9_findGoal_30 : decode cX9_findGoal 30 = .ok (.goto 82, 3) := by decide +kernel
theorem dX9_findGoal_33 : decode cX9_findGoal 33 = .ok (.aload_n 0, 1) := by decide +kernel
theorem dX9_findGoal_34 : decode cX9_findGoal 34 = .ok (.getfield 19, 3) := by decide +kernel
theorem dX9_findGoal_37 : decode cX9_findGoal 37 = .ok (.iload_n 1, 1) := by decide +kernel
theorem dX9_findGoal_38 : decode cX9_findGoal 38 = .ok (.iload 6, 2) := by decide +kernel
theorem dX9_findGoal_40 : decode cX9_findGoal 40 = .ok (.iload_n 3, 1) := by decide +kernel
theorem dX9_findGoal_41 : decode cX9_findGoal 41 = .ok (.invokevirtual 118, 3) := by decide +kernel
theorem dX9_findGoal_44 : decode cX9_findGoal 44 = .ok (.istore 7, 2) := by decide +kernel
theorem dX9_findGoal_46 : decode cX9_findGoal 46 = .ok (.aload_n 0, 1) := by decide +kernel
theorem dX9_findGoal_47 : decode cX9_findGoal 47 = .ok (.getfield 19, 3) := by decide +kernel
theorem dX9_findGoal_50 : decode cX9_findGoal 50 = .ok (.iload_n 1, 1) := by decide +kernel
theorem dX9_findGoal_51 : decode cX9_findGoal 51 = .ok (.iload 6, 2) := by decide +kernel
theorem dX9_findGoal_53 : decode cX9_findGoal 53 = .ok (.iload 4, 2) := by decide +kernel
theorem dX9_findGoal_55 : decode cX9_findGoal 55 = .ok (.invokevirtual 122, 3) := by decide +kernel
theorem dX9_findGoal_58 : decode cX9_findGoal 58 = .ok (.istore 8, 2) := by decide +kernel
theorem dX9_findGoal_60 : decode cX9_findGoal 60 = .ok (.iload_n 3, 1) := by decide +kernel
theorem dX9_findGoal_61 : decode cX9_findGoal 61 = .ok (.iload 7, 2) := by decide +kernel
theorem dX9_findGoal_63 : decode cX9_findGoal 63 = .ok (.isub, 1) := by decide +kernel
theorem dX9_findGoal_64 : decode cX9_findGoal 64 = .ok (.iload_n 3, 1) := by decide +kernel
theorem dX9_findGoal_65 : decode cX9_findGoal 65 = .ok (.iload 7, 2) := by decide +kernel
theorem dX9_findGoal_67 : decode cX9_findGoal 67 = .ok (.isub, 1) := by decide +kernel
theorem dX9_findGoal_68 : decode cX9_findGoal 68 = .ok (.imul, 1) := by decide +kernel
theorem dX9_findGoal_69 : decode cX9_findGoal 69 = .ok (.iload 4, 2) := by decide +kernel
theorem dX9_findGoal_71 : decode cX9_findGoal 71 = .ok (.iload 8, 2) := by decide +kernel
theorem dX9_findGoal_73 : decode cX9_findGoal 73 = .ok (.isub, 1) := by decide +kernel
theorem dX9_findGoal_74 : decode cX9_findGoal 74 = .ok (.iload 4, 2) := by decide +kernel
theorem dX9_findGoal_76 : decode cX9_findGoal 76 = .ok (.iload 8, 2) := by decide +kernel
theorem dX9_findGoal_78 : decode cX9_findGoal 78 = .ok (.isub, 1) := by decide +kernel
theorem dX9_findGoal_79 : decode cX9_findGoal 79 = .ok (.imul, 1) := by decide +kernel
theorem dX9_findGoal_80 : decode cX9_findGoal 80 = .ok (.iadd, 1) := by decide +kernel
theorem dX9_findGoal_81 : decode cX9_findGoal 81 = .ok (.istore 9, 2) := by decide +kernel
theorem dX9_findGoal_83 : decode cX9_findGoal 83 = .ok (.iload 9, 2) := by decide +kernel
theorem dX9_findGoal_85 : decode cX9_findGoal 85 = .ok (.iload 5, 2) := by decide +kernel
theorem dX9_findGoal_87 : decode cX9_findGoal 87 = .ok (.if_icmp .ge 25, 3) := by decide +kernel
theorem dX9_findGoal_90 : decode cX9_findGoal 90 = .ok (.iload 9, 2) := by decide +kernel
theorem dX9_findGoal_92 : decode cX9_findGoal 92 = .ok (.istore 5, 2) := by decide +kernel
theorem dX9_findGoal_94 : decode cX9_findGoal 94 = .ok (.aload_n 0, 1) := by decide +kernel
theorem dX9_findGoal_95 : decode cX9_findGoal 95 = .ok (.iload 7, 2) := by decide +kernel
theorem dX9_findGoal_97 : decode cX9_findGoal 97 = .ok (.putfield 91, 3) := by decide +kernel
theorem dX9_findGoal_100 : decode cX9_findGoal 100 = .ok (.aload_n 0, 1) := by decide +kernel
theorem dX9_findGoal_101 : decode cX9_findGoal 101 = .ok (.iload 8, 2) := by decide +kernel
theorem dX9_findGoal_103 : decode cX9_findGoal 103 = .ok (.putfield 94, 3) := by decide +kernel
theorem dX9_findGoal_106 : decode cX9_findGoal 106 = .ok (.aload_n 0, 1) := by decide +kernel
theorem dX9_findGoal_107 : decode cX9_findGoal 107 = .ok (.iload 6, 2) := by decide +kernel
theorem dX9_findGoal_109 : decode cX9_findGoal 109 = .ok (.putfield 125, 3) := by decide +kernel
theorem dX9_findGoal_112 : decode cX9_findGoal 112 = .ok (.iinc 6 1, 3) := by decide +kernel
theorem dX9_findGoal_115 : decode cX9_findGoal 115 = .ok (.goto (-102), 3) := by decide +kernel
theorem dX9_findGoal_118 : decode cX9_findGoal 118 = .ok (.return_, 1) := by decide +kernel
theorem dX9_step_0 : decode cX9_step 0 = .ok (.aload_n 0, 1) := by decide +kernel
theorem dX9_step_1 : decode cX9_step 1 = .ok (.aload_n 1, 1) := by decide +kernel
theorem dX9_step_2 : decode cX9_step 2 = .ok (.invokevirtual 83, 3) := by decide +kernel
theorem dX9_step_5 : decode cX9_step 5 = .ok (.istore_n 2, 1) := by decide +kernel
theorem dX9_step_6 : decode cX9_step 6 = .ok (.iload_n 2, 1) := by decide +kernel
theorem dX9_step_7 : decode cX9_step 7 = .ok (.iconst (-1), 1) := by decide +kernel
theorem dX9_step_8 : decode cX9_step 8 = .ok (.if_icmp .ne 8, 3) := by decide +kernel
theorem dX9_step_11 : decode cX9_step 11 = .ok (.aload_n 1, 1) := by decide +kernel
theorem dX9_step_12 : decode cX9_step 12 = .ok (.invokevirtual 128, 3) := by decide +kernel
theorem dX9_step_15 : decode cX9_step 15 = .ok (.return_, 1) := by decide +kernel
theorem dX9_step_16 : decode cX9_step 16 = .ok (.aload_n 1, 1) := by decide +kernel
theorem dX9_step_17 : decode cX9_step 17 = .ok (.getfield 62, 3) := by decide +kernel
theorem dX9_step_20 : decode cX9_step 20 = .ok (.istore_n 3, 1) := by decide +kernel
theorem dX9_step_21 : decode cX9_step 21 = .ok (.aload_n 0, 1) := by decide +kernel
theorem dX9_step_22 : decode cX9_step 22 = .ok (.iload_n 3, 1) := by decide +kernel
theorem dX9_step_23 : decode cX9_step 23 = .ok (.iload_n 2, 1) := by decide +kernel
theorem dX9_step_24 : decode cX9_step 24 = .ok (.aload_n 1, 1) := by decide +kernel
theorem dX9_step_25 : decode cX9_step 25 = .ok (.getfield 131, 3) := by decide +kernel
theorem dX9_step_28 : decode cX9_step 28 = .ok (.aload_n 1, 1) := by decide +kernel
theorem dX9_step_29 : decode cX9_step 29 = .ok (.getfield 134, 3) := by decide +kernel
theorem dX9_step_32 : decode cX9_step 32 = .ok (.invokevirtual 87, 3) := by decide +kernel
theorem dX9_step_35 : decode cX9_step 35 = .ok (.aload_n 1, 1) := by decide +kernel
theorem dX9_step_36 : decode cX9_step 36 = .ok (.getfield 70, 3) := by decide +kernel
theorem dX9_step_39 : decode cX9_step 39 = .ok (.aload_n 0, 1) := by decide +kernel
theorem dX9_step_40 : decode cX9_step 40 = .ok (.getfield 91, 3) := by decide +kernel
theorem dX9_step_43 : decode cX9_step 43 = .ok (.if_icmp .ne 21, 3) := by decide +kernel
theorem dX9_step_46 : decode cX9_step 46 = .ok (.aload_n 1, 1) := by decide +kernel
theorem dX9_step_47 : decode cX9_step 47 = .ok (.getfield 73, 3) := by decide +kernel
theorem dX9_step_50 : decode cX9_step 50 = .ok (.aload_n 0, 1) := by decide +kernel
theorem dX9_step_51 : decode cX9_step 51 = .ok (.getfield 94, 3) := by decide +kernel
theorem dX9_step_54 : decode cX9_step 54 = .ok (.if_icmp .ne 10, 3) := by decide +kernel
theorem dX9_step_57 : decode cX9_step 57 = .ok (.aload_n 1, 1) := by decide +kernel
theorem dX9_step_58 : decode cX9_step 58 = .ok (.invokevirtual 128, 3) := by decide +kernel
theorem dX9_step_61 : decode cX9_step 61 = .ok (.goto 93, 3) := by decide +kernel
theorem dX9_step_64 : decode cX9_step 64 = .ok (.aload_n 0, 1) := by decide +kernel
theorem dX9_step_65 : decode cX9_step 65 = .ok (.getfield 19, 3) := by decide +kernel
theorem dX9_step_68 : decode cX9_step 68 = .ok (.iload_n 3, 1) := by decide +kernel
theorem dX9_step_69 : decode cX9_step 69 = .ok (.iload_n 2, 1) := by decide +kernel
theorem dX9_step_70 : decode cX9_step 70 = .ok (.aload_n 0, 1) := by decide +kernel
theorem dX9_step_71 : decode cX9_step 71 = .ok (.getfield 91, 3) := by decide +kernel
theorem dX9_step_74 : decode cX9_step 74 = .ok (.aload_n 0, 1) := by decide +kernel
theorem dX9_step_75 : decode cX9_step 75 = .ok (.getfield 94, 3) := by decide +kernel
theorem dX9_step_78 : decode cX9_step 78 = .ok (.invokevirtual 76, 3) := by decide +kernel
theorem dX9_step_81 : decode cX9_step 81 = .ok (.ifCond .eq 21, 3) := by decide +kernel
theorem dX9_step_84 : decode cX9_step 84 = .ok (.aload_n 0, 1) := by decide +kernel
theorem dX9_step_85 : decode cX9_step 85 = .ok (.aload_n 1, 1) := by decide +kernel
theorem dX9_step_86 : decode cX9_step 86 = .ok (.iload_n 2, 1) := by decide +kernel
theorem dX9_step_87 : decode cX9_step 87 = .ok (.iload_n 2, 1) := by decide +kernel
theorem dX9_step_88 : decode cX9_step 88 = .ok (.aload_n 0, 1) := by decide +kernel
theorem dX9_step_89 : decode cX9_step 89 = .ok (.getfield 91, 3) := by decide +kernel
theorem dX9_step_92 : decode cX9_step 92 = .ok (.aload_n 0, 1) := by decide +kernel
theorem dX9_step_93 : decode cX9_step 93 = .ok (.getfield 94, 3) := by decide +kernel
theorem dX9_step_96 : decode cX9_step 96 = .ok (.invokevirtual 137, 3) := by decide +kernel
theorem dX9_step_99 : decode cX9_step 99 = .ok (.goto 55, 3) := by decide +kernel
theorem dX9_step_102 : decode cX9_step 102 = .ok (.aload_n 0, 1) := by decide +kernel
theorem dX9_step_103 : decode cX9_step 103 = .ok (.iload_n 3, 1) := by decide +kernel
theorem dX9_step_104 : decode cX9_step 104 = .ok (.iload_n 2, 1) := by decide +kernel
theorem dX9_step_105 : decode cX9_step 105 = .ok (.invokevirtual 141, 3) := by decide +kernel
theorem dX9_step_108 : decode cX9_step 108 = .ok (.istore 4, 2) := by decide +kernel
theorem dX9_step_110 : decode cX9_step 110 = .ok (.aload_n 0, 1) := by decide +kernel
theorem dX9_step_111 : decode cX9_step 111 = .ok (.getfield 19, 3) := by decide +kernel
theorem dX9_step_114 : decode cX9_step 114 = .ok (.iload_n 3, 1) := by decide +kernel
theorem dX9_step_115 : decode cX9_step 115 = .ok (.iload 4, 2) := by decide +kernel
theorem dX9_step_117 : decode cX9_step 117 = .ok (.aload_n 1, 1) := by decide +kernel
theorem dX9_step_118 : decode cX9_step 118 = .ok (.getfield 70, 3) := by decide +kernel
theorem dX9_step_121 : decode cX9_step 121 = .ok (.invokevirtual 118, 3) := by decide +kernel
theorem dX9_step_124 : decode cX9_step 124 = .ok (.istore 5, 2) := by decide +kernel
theorem dX9_step_126 : decode cX9_step 126 = .ok (.aload_n 0, 1) := by decide +kernel
theorem dX9_step_127 : decode cX9_step 127 = .ok (.getfield 19, 3) := by decide +kernel
theorem dX9_step_130 : decode cX9_step 130 = .ok (.iload_n 3, 1) := by decide +kernel
theorem dX9_step_131 : decode cX9_step 131 = .ok (.iload 4, 2) := by decide +kernel
theorem dX9_step_133 : decode cX9_step 133 = .ok (.aload_n 1, 1) := by decide +kernel
theorem dX9_step_134 : decode cX9_step 134 = .ok (.getfield 73, 3) := by decide +kernel
theorem dX9_step_137 : decode cX9_step 137 = .ok (.invokevirtual 122, 3) := by decide +kernel
theorem dX9_step_140 : decode cX9_step 140 = .ok (.istore 6, 2) := by decide +kernel
theorem dX9_step_142 : decode cX9_step 142 = .ok (.aload_n 0, 1) := by decide +kernel
theorem dX9_step_143 : decode cX9_step 143 = .ok (.aload_n 1, 1) := by decide +kernel
theorem dX9_step_144 : decode cX9_step 144 = .ok (.iload_n 2, 1) := by decide +kernel
theorem dX9_step_145 : decode cX9_step 145 = .ok (.iload 4, 2) := by decide +kernel
theorem dX9_step_147 : decode cX9_step 147 = .ok (.iload 5, 2) := by decide +kernel
theorem dX9_step_149 : decode cX9_step 149 = .ok (.iload 6, 2) := by decide +kernel
theorem dX9_step_151 : decode cX9_step 151 = .ok (.invokevirtual 137, 3) := by decide +kernel
theorem dX9_step_154 : decode cX9_step 154 = .ok (.return_, 1) := by decide +kernel
theorem dX9_nextBox_0 : decode cX9_nextBox 0 = .ok (.aload_n 0, 1) := by decide +kernel
theorem dX9_nextBox_1 : decode cX9_nextBox 1 = .ok (.iload_n 1, 1) := by decide +kernel
theorem dX9_nextBox_2 : decode cX9_nextBox 2 = .ok (.aload_n 0, 1) := by decide +kernel
theorem dX9_nextBox_3 : decode cX9_nextBox 3 = .ok (.getfield 125, 3) := by decide +kernel
theorem dX9_nextBox_6 : decode cX9_nextBox 6 = .ok (.invokevirtual 80, 3) := by decide +kernel
theorem dX9_nextBox_9 : decode cX9_nextBox 9 = .ok (.aload_n 0, 1) := by decide +kernel
theorem dX9_nextBox_10 : decode cX9_nextBox 10 = .ok (.getfield 19, 3) := by decide +kernel
theorem dX9_nextBox_13 : decode cX9_nextBox 13 = .ok (.getfield 114, 3) := by decide +kernel
theorem dX9_nextBox_16 : decode cX9_nextBox 16 = .ok (.iload_n 1, 1) := by decide +kernel
theorem dX9_nextBox_17 : decode cX9_nextBox 17 = .ok (.bipush 16, 2) := by decide +kernel
theorem dX9_nextBox_19 : decode cX9_nextBox 19 = .ok (.imul, 1) := by decide +kernel
theorem dX9_nextBox_20 : decode cX9_nextBox 20 = .ok (.iload_n 2, 1) := by decide +kernel
theorem dX9_nextBox_21 : decode cX9_nextBox 21 = .ok (.iadd, 1) := by decide +kernel
theorem dX9_nextBox_22 : decode cX9_nextBox 22 = .ok (.iaload, 1) := by decide +kernel
theorem dX9_nextBox_23 : decode cX9_nextBox 23 = .ok (.istore_n 3, 1) := by decide +kernel
theorem dX9_nextBox_24 : decode cX9_nextBox 24 = .ok (.iconst 0, 1) := by decide +kernel
theorem dX9_nextBox_25 : decode cX9_nextBox 25 = .ok (.istore 4, 2) := by decide +kernel
theorem dX9_nextBox_27 : decode cX9_nextBox 27 = .ok (.iload 4, 2) := by decide +kernel
theorem dX9_nextBox_29 : decode cX9_nextBox 29 = .ok (.bipush 16, 2) := by decide +kernel
theorem dX9_nextBox_31 : decode cX9_nextBox 31 = .ok (.if_icmp .ge 49, 3) := by decide +kernel
theorem dX9_nextBox_34 : decode cX9_nextBox 34 = .ok (.iload_n 3, 1) := by decide +kernel
theorem dX9_nextBox_35 : decode cX9_nextBox 35 = .ok (.iload 4, 2) := by decide +kernel
theorem dX9_nextBox_37 : decode cX9_nextBox 37 = .ok (.ishr, 1) := by decide +kernel
theorem dX9_nextBox_38 : decode cX9_nextBox 38 = .ok (.iconst 1, 1) := by decide +kernel
theorem dX9_nextBox_39 : decode cX9_nextBox 39 = .ok (.iand, 1) := by decide +kernel
theorem dX9_nextBox_40 : decode cX9_nextBox 40 = .ok (.ifCond .eq 34, 3) := by decide +kernel
theorem dX9_nextBox_43 : decode cX9_nextBox 43 = .ok (.aload_n 0, 1) := by decide +kernel
theorem dX9_nextBox_44 : decode cX9_nextBox 44 = .ok (.getfield 9, 3) := by decide +kernel
theorem dX9_nextBox_47 : decode cX9_nextBox 47 = .ok (.iload 4, 2) := by decide +kernel
theorem dX9_nextBox_49 : decode cX9_nextBox 49 = .ok (.iaload, 1) := by decide +kernel
theorem dX9_nextBox_50 : decode cX9_nextBox 50 = .ok (.ifCond .eq 24, 3) := by decide +kernel
theorem dX9_nextBox_53 : decode cX9_nextBox 53 = .ok (.aload_n 0, 1) := by decide +kernel
theorem dX9_nextBox_54 : decode cX9_nextBox 54 = .ok (.getfield 9, 3) := by decide +kernel
theorem dX9_nextBox_57 : decode cX9_nextBox 57 = .ok (.iload 4, 2) := by decide +kernel
theorem dX9_nextBox_59 : decode cX9_nextBox 59 = .ok (.iaload, 1) := by decide +kernel
theorem dX9_nextBox_60 : decode cX9_nextBox 60 = .ok (.aload_n 0, 1) := by decide +kernel
theorem dX9_nextBox_61 : decode cX9_nextBox 61 = .ok (.getfield 9, 3) := by decide +kernel
theorem dX9_nextBox_64 : decode cX9_nextBox 64 = .ok (.iload_n 2, 1) := by decide +kernel
theorem dX9_nextBox_65 : decode cX9_nextBox 65 = .ok (.iaload, 1) := by decide +kernel
theorem dX9_nextBox_66 : decode cX9_nextBox 66 = .ok (.iconst 1, 1) := by decide +kernel
theorem dX9_nextBox_67 : decode cX9_nextBox 67 = .ok (.isub, 1) := by decide +kernel
theorem dX9_nextBox_68 : decode cX9_nextBox 68 = .ok (.if_icmp .ne 6, 3) := by decide +kernel
theorem dX9_nextBox_71 : decode cX9_nextBox 71 = .ok (.iload 4, 2) := by decide +kernel
theorem dX9_nextBox_73 : decode cX9_nextBox 73 = .ok (.ireturn, 1) := by decide +kernel
theorem dX9_nextBox_74 : decode cX9_nextBox 74 = .ok (.iinc 4 1, 3) := by decide +kernel
theorem dX9_nextBox_77 : decode cX9_nextBox 77 = .ok (.goto (-50), 3) := by decide +kernel
theorem dX9_nextBox_80 : decode cX9_nextBox 80 = .ok (.iload_n 2, 1) := by decide +kernel
theorem dX9_nextBox_81 : decode cX9_nextBox 81 = .ok (.ireturn, 1) := by decide +kernel
theorem dX9_stepTo_0 : decode cX9_stepTo 0 = .ok (.aload_n 1, 1) := by decide +kernel
theorem dX9_stepTo_1 : decode cX9_stepTo 1 = .ok (.getfield 70, 3) := by decide +kernel
theorem dX9_stepTo_4 : decode cX9_stepTo 4 = .ok (.iload 4, 2) := by decide +kernel
theorem dX9_stepTo_6 : decode cX9_stepTo 6 = .ok (.aload_n 1, 1) := by decide +kernel
theorem dX9_stepTo_7 : decode cX9_stepTo 7 = .ok (.getfield 70, 3) := by decide +kernel
theorem dX9_stepTo_10 : decode cX9_stepTo 10 = .ok (.invokestatic 145, 3) := by decide +kernel
theorem dX9_stepTo_13 : decode cX9_stepTo 13 = .ok (.iadd, 1) := by decide +kernel
theorem dX9_stepTo_14 : decode cX9_stepTo 14 = .ok (.istore 6, 2) := by decide +kernel
theorem dX9_stepTo_16 : decode cX9_stepTo 16 = .ok (.aload_n 0, 1) := by decide +kernel
theorem dX9_stepTo_17 : decode cX9_stepTo 17 = .ok (.getfield 19, 3) := by decide +kernel
theorem dX9_stepTo_20 : decode cX9_stepTo 20 = .ok (.aload_n 1, 1) := by decide +kernel
theorem dX9_stepTo_21 : decode cX9_stepTo 21 = .ok (.getfield 62, 3) := by decide +kernel
theorem dX9_stepTo_24 : decode cX9_stepTo 24 = .ok (.iload_n 2, 1) := by decide +kernel
theorem dX9_stepTo_25 : decode cX9_stepTo 25 = .ok (.iload 6, 2) := by decide +kernel
theorem dX9_stepTo_27 : decode cX9_stepTo 27 = .ok (.aload_n 1, 1) := by decide +kernel
theorem dX9_stepTo_28 : decode cX9_stepTo 28 = .ok (.getfield 73, 3) := by decide +kernel
theorem dX9_stepTo_31 : decode cX9_stepTo 31 = .ok (.invokevirtual 76, 3) := by decide +kernel
theorem dX9_stepTo_34 : decode cX9_stepTo 34 = .ok (.ifCond .ne 24, 3) := by decide +kernel
theorem dX9_stepTo_37 : decode cX9_stepTo 37 = .ok (.aload_n 0, 1) := by decide +kernel
theorem dX9_stepTo_38 : decode cX9_stepTo 38 = .ok (.getfield 19, 3) := by decide +kernel
theorem dX9_stepTo_41 : decode cX9_stepTo 41 = .ok (.aload_n 1, 1) := by decide +kernel
theorem dX9_stepTo_42 : decode cX9_stepTo 42 = .ok (.getfield 62, 3) := by decide +kernel
theorem dX9_stepTo_45 : decode cX9_stepTo 45 = .ok (.iload_n 3, 1) := by decide +kernel
theorem dX9_stepTo_46 : decode cX9_stepTo 46 = .ok (.iload 6, 2) := by decide +kernel
theorem dX9_stepTo_48 : decode cX9_stepTo 48 = .ok (.aload_n 1, 1) := by decide +kernel
theorem dX9_stepTo_49 : decode cX9_stepTo 49 = .ok (.getfield 73, 3) := by decide +kernel
theorem dX9_stepTo_52 : decode cX9_stepTo 52 = .ok (.invokevirtual 76, 3) := by decide +kernel
theorem dX9_stepTo_55 : decode cX9_stepTo 55 = .ok (.ifCond .eq 7, 3) := by decide +kernel
theorem dX9_stepTo_58 : decode cX9_stepTo 58 = .ok (.iconst 1, 1) := by decide +kernel
theorem dX9_stepTo_59 : decode cX9_stepTo 59 = .ok (.goto 4, 3) := by decide +kernel
theorem dX9_stepTo_62 : decode cX9_stepTo 62 = .ok (.iconst 0, 1) := by decide +kernel
theorem dX9_stepTo_63 : decode cX9_stepTo 63 = .ok (.istore 7, 2) := by decide +kernel
theorem dX9_stepTo_65 : decode cX9_stepTo 65 = .ok (.iload 6, 2) := by decide +kernel
theorem dX9_stepTo_67 : decode cX9_stepTo 67 = .ok (.aload_n 1, 1) := by decide +kernel
theorem dX9_stepTo_68 : decode cX9_stepTo 68 = .ok (.getfield 70, 3) := by decide +kernel
theorem dX9_stepTo_71 : decode cX9_stepTo 71 = .ok (.if_icmp .eq 17, 3) := by decide +kernel
theorem dX9_stepTo_74 : decode cX9_stepTo 74 = .ok (.iload 7, 2) := by decide +kernel
theorem dX9_stepTo_76 : decode cX9_stepTo 76 = .ok (.ifCond .eq 12, 3) := by decide +kernel
theorem dX9_stepTo_79 : decode cX9_stepTo 79 = .ok (.aload_n 1, 1) := by decide +kernel
theorem dX9_stepTo_80 : decode cX9_stepTo 80 = .ok (.iload 6, 2) := by decide +kernel
theorem dX9_stepTo_82 : decode cX9_stepTo 82 = .ok (.putfield 70, 3) := by decide +kernel
theorem dX9_stepTo_85 : decode cX9_stepTo 85 = .ok (.goto 21, 3) := by decide +kernel
theorem dX9_stepTo_88 : decode cX9_stepTo 88 = .ok (.aload_n 1, 1) := by decide +kernel
theorem dX9_stepTo_89 : decode cX9_stepTo 89 = .ok (.dup, 1) := by decide +kernel
theorem dX9_stepTo_90 : decode cX9_stepTo 90 = .ok (.getfield 73, 3) := by decide +kernel
theorem dX9_stepTo_93 : decode cX9_stepTo 93 = .ok (.iload 5, 2) := by decide +kernel
theorem dX9_stepTo_95 : decode cX9_stepTo 95 = .ok (.aload_n 1, 1) := by decide +kernel
theorem dX9_stepTo_96 : decode cX9_stepTo 96 = .ok (.getfield 73, 3) := by decide +kernel
theorem dX9_stepTo_99 : decode cX9_stepTo 99 = .ok (.invokestatic 145, 3) := by decide +kernel
theorem dX9_stepTo_102 : decode cX9_stepTo 102 = .ok (.iadd, 1) := by decide +kernel
theorem dX9_stepTo_103 : decode cX9_stepTo 103 = .ok (.putfield 73, 3) := by decide +kernel
theorem dX9_stepTo_106 : decode cX9_stepTo 106 = .ok (.return_, 1) := by decide +kernel
