theorem dX0_init_0 : decode cX0_init 0 = .ok (.aload_n 0, 1) := by decide +kernel
theorem dX0_init_1 : decode cX0_init 1 = .ok (.invokespecial 3, 3) := by decide +kernel
theorem dX0_init_4 : decode cX0_init 4 = .ok (.return_, 1) := by decide +kernel
theorem dX0_putAt_0 : decode cX0_putAt 0 = .ok (.aload_n 0, 1) := by decide +kernel
theorem dX0_putAt_1 : decode cX0_putAt 1 = .ok (.iload_n 1, 1) := by decide +kernel
theorem dX0_putAt_2 : decode cX0_putAt 2 = .ok (.putfield 9, 3) := by decide +kernel
theorem dX0_putAt_5 : decode cX0_putAt 5 = .ok (.aload_n 0, 1) := by decide +kernel
theorem dX0_putAt_6 : decode cX0_putAt 6 = .ok (.iload_n 2, 1) := by decide +kernel
theorem dX0_putAt_7 : decode cX0_putAt 7 = .ok (.putfield 15, 3) := by decide +kernel
theorem dX0_putAt_10 : decode cX0_putAt 10 = .ok (.aload_n 0, 1) := by decide +kernel
theorem dX0_putAt_11 : decode cX0_putAt 11 = .ok (.iload_n 3, 1) := by decide +kernel
theorem dX0_putAt_12 : decode cX0_putAt 12 = .ok (.putfield 18, 3) := by decide +kernel
theorem dX0_putAt_15 : decode cX0_putAt 15 = .ok (.aload_n 0, 1) := by decide +kernel
theorem dX0_putAt_16 : decode cX0_putAt 16 = .ok (.invokevirtual 21, 3) := by decide +kernel
theorem dX0_putAt_19 : decode cX0_putAt 19 = .ok (.return_, 1) := by decide +kernel
theorem dX0_walkTo_0 : decode cX0_walkTo 0 = .ok (.aload_n 0, 1) := by decide +kernel
theorem dX0_walkTo_1 : decode cX0_walkTo 1 = .ok (.iconst 1, 1) := by decide +kernel
theorem dX0_walkTo_2 : decode cX0_walkTo 2 = .ok (.putfield 24, 3) := by decide +kernel
theorem dX0_walkTo_5 : decode cX0_walkTo 5 = .ok (.aload_n 0, 1) := by decide +kernel
theorem dX0_walkTo_6 : decode cX0_walkTo 6 = .ok (.iload_n 1, 1) := by decide +kernel
theorem dX0_walkTo_7 : decode cX0_walkTo 7 = .ok (.putfield 28, 3) := by decide +kernel
theorem dX0_walkTo_10 : decode cX0_walkTo 10 = .ok (.aload_n 0, 1) := by decide +kernel
theorem dX0_walkTo_11 : decode cX0_walkTo 11 = .ok (.iload_n 2, 1) := by decide +kernel
theorem dX0_walkTo_12 : decode cX0_walkTo 12 = .ok (.putfield 31, 3) := by decide +kernel
theorem dX0_walkTo_15 : decode cX0_walkTo 15 = .ok (.return_, 1) := by decide +kernel
theorem dX0_halt_0 : decode cX0_halt 0 = .ok (.aload_n 0, 1) := by decide +kernel
theorem dX0_halt_1 : decode cX0_halt 1 = .ok (.iconst 0, 1) := by decide +kernel
theorem dX0_halt_2 : decode cX0_halt 2 = .ok (.putfield 24, 3) := by decide +kernel
theorem dX0_halt_5 : decode cX0_halt 5 = .ok (.aload_n 0, 1) := by decide +kernel
theorem dX0_halt_6 : decode cX0_halt 6 = .ok (.iconst (-1), 1) := by decide +kernel
theorem dX0_halt_7 : decode cX0_halt 7 = .ok (.putfield 28, 3) := by decide +kernel
theorem dX0_halt_10 : decode cX0_halt 10 = .ok (.aload_n 0, 1) := by decide +kernel
theorem dX0_halt_11 : decode cX0_halt 11 = .ok (.iconst (-1), 1) := by decide +kernel
theorem dX0_halt_12 : decode cX0_halt 12 = .ok (.putfield 31, 3) := by decide +kernel
theorem dX0_halt_15 : decode cX0_halt 15 = .ok (.return_, 1) := by decide +kernel
theorem dX0_copyFrom_0 : decode cX0_copyFrom 0 = .ok (.aload_n 0, 1) := by decide +kernel
theorem dX0_copyFrom_1 : decode cX0_copyFrom 1 = .ok (.aload_n 1, 1) := by decide +kernel
theorem dX0_copyFrom_2 : decode cX0_copyFrom 2 = .ok (.getfield 9, 3) := by decide +kernel
theorem dX0_copyFrom_5 : decode cX0_copyFrom 5 = .ok (.putfield 9, 3) := by decide +kernel
theorem dX0_copyFrom_8 : decode cX0_copyFrom 8 = .ok (.aload_n 0, 1) := by decide +kernel
theorem dX0_copyFrom_9 : decode cX0_copyFrom 9 = .ok (.aload_n 1, 1) := by decide +kernel
theorem dX0_copyFrom_10 : decode cX0_copyFrom 10 = .ok (.getfield 15, 3) := by decide +kernel
theorem dX0_copyFrom_13 : decode cX0_copyFrom 13 = .ok (.putfield 15, 3) := by decide +kernel
theorem dX0_copyFrom_16 : decode cX0_copyFrom 16 = .ok (.aload_n 0, 1) := by decide +kernel
theorem dX0_copyFrom_17 : decode cX0_copyFrom 17 = .ok (.aload_n 1, 1) := by decide +kernel
theorem dX0_copyFrom_18 : decode cX0_copyFrom 18 = .ok (.getfield 18, 3) := by decide +kernel
theorem dX0_copyFrom_21 : decode cX0_copyFrom 21 = .ok (.putfield 18, 3) := by decide +kernel
theorem dX0_copyFrom_24 : decode cX0_copyFrom 24 = .ok (.aload_n 0, 1) := by decide +kernel
theorem dX0_copyFrom_25 : decode cX0_copyFrom 25 = .ok (.aload_n 1, 1) := by decide +kernel
theorem dX0_copyFrom_26 : decode cX0_copyFrom 26 = .ok (.getfield 34, 3) := by decide +kernel
theorem dX0_copyFrom_29 : decode cX0_copyFrom 29 = .ok (.putfield 34, 3) := by decide +kernel
theorem dX0_copyFrom_32 : decode cX0_copyFrom 32 = .ok (.aload_n 0, 1) := by decide +kernel
theorem dX0_copyFrom_33 : decode cX0_copyFrom 33 = .ok (.aload_n 1, 1) := by decide +kernel
theorem dX0_copyFrom_34 : decode cX0_copyFrom 34 = .ok (.getfield 24, 3) := by decide +kernel
theorem dX0_copyFrom_37 : decode cX0_copyFrom 37 = .ok (.putfield 24, 3) := by decide +kernel
theorem dX0_copyFrom_40 : decode cX0_copyFrom 40 = .ok (.aload_n 0, 1) := by decide +kernel
theorem dX0_copyFrom_41 : decode cX0_copyFrom 41 = .ok (.aload_n 1, 1) := by decide +kernel
theorem dX0_copyFrom_42 : decode cX0_copyFrom 42 = .ok (.getfield 28, 3) := by decide +kernel
theorem dX0_copyFrom_45 : decode cX0_copyFrom 45 = .ok (.putfield 28, 3) := by decide +kernel
theorem dX0_copyFrom_48 : decode cX0_copyFrom 48 = .ok (.aload_n 0, 1) := by decide +kernel
theorem dX0_copyFrom_49 : decode cX0_copyFrom 49 = .ok (.aload_n 1, 1) := by decide +kernel
theorem dX0_copyFrom_50 : decode cX0_copyFrom 50 = .ok (.getfield 31, 3) := by decide +kernel
theorem dX0_copyFrom_53 : decode cX0_copyFrom 53 = .ok (.putfield 31, 3) := by decide +kernel
theorem dX0_copyFrom_56 : decode cX0_copyFrom 56 = .ok (.return_, 1) := by decide +kernel
theorem dX0_number_0 : decode cX0_number 0 = .ok (.iload_n 1, 1) := by decide +kernel
theorem dX0_number_1 : decode cX0_number 1 = .ok (.tableswitch 86 0 6 #[43, 48, 53, 58, 63, 76, 81], 43) := by decide +kernel
theorem dX0_number_44 : decode cX0_number 44 = .ok (.aload_n 0, 1) := by decide +kernel
theorem dX0_number_45 : decode cX0_number 45 = .ok (.getfield 9, 3) := by decide +kernel
theorem dX0_number_48 : decode cX0_number 48 = .ok (.ireturn, 1) := by decide +kernel
theorem dX0_number_49 : decode cX0_number 49 = .ok (.aload_n 0, 1) := by decide +kernel
theorem dX0_number_50 : decode cX0_number 50 = .ok (.getfield 15, 3) := by decide +kernel
theorem dX0_number_53 : decode cX0_number 53 = .ok (.ireturn, 1) := by decide +kernel
theorem dX0_number_54 : decode cX0_number 54 = .ok (.aload_n 0, 1) := by decide +kernel
theorem dX0_number_55 : decode cX0_number 55 = .ok (.getfield 18, 3) := by decide +kernel
theorem dX0_number_58 : decode cX0_number 58 = .ok (.ireturn, 1) := by decide +kernel
theorem dX0_number_59 : decode cX0_number 59 = .ok (.aload_n 0, 1) := by decide +kernel
theorem dX0_number_60 : decode cX0_number 60 = .ok (.getfield 34, 3) := by decide +kernel
theorem dX0_number_63 : decode cX0_number 63 = .ok (.ireturn, 1) := by decide +kernel
theorem dX0_number_64 : decode cX0_number 64 = .ok (.aload_n 0, 1) := by decide +kernel
theorem dX0_number_65 : decode cX0_number 65 = .ok (.getfield 24, 3) := by decide +kernel
theorem dX0_number_68 : decode cX0_number 68 = .ok (.ifCond .eq 7, 3) := by decide +kernel
theorem dX0_number_71 : decode cX0_number 71 = .ok (.iconst 1, 1) := by decide +kernel
theorem dX0_number_72 : decode cX0_number 72 = .ok (.goto 4, 3) := by decide +kernel
theorem dX0_number_75 : decode cX0_number 75 = .ok (.iconst 0, 1) := by decide +kernel
theorem dX0_number_76 : decode cX0_number 76 = .ok (.ireturn, 1) := by decide +kernel
theorem dX0_number_77 : decode cX0_number 77 = .ok (.aload_n 0, 1) := by decide +kernel
theorem dX0_number_78 : decode cX0_number 78 = .ok (.getfield 28, 3) := by decide +kernel
theorem dX0_number_81 : decode cX0_number 81 = .ok (.ireturn, 1) := by decide +kernel
theorem dX0_number_82 : decode cX0_number 82 = .ok (.aload_n 0, 1) := by decide +kernel
theorem dX0_number_83 : decode cX0_number 83 = .ok (.getfield 31, 3) := by decide +kernel
theorem dX0_number_86 : decode cX0_number 86 = .ok (.ireturn, 1) := by decide +kernel
theorem dX0_number_87 : decode cX0_number 87 = .ok (.iconst (-1), 1) := by decide +kernel
theorem dX0_number_88 : decode cX0_number 88 = .ok (.ireturn, 1) := by decide +kernel
theorem dX1_init_0 : decode cX1_init 0 = .ok (.aload_n 0, 1) := by decide +kernel
theorem dX1_init_1 : decode cX1_init 1 = .ok (.invokespecial 3, 3) := by decide +kernel
theorem dX1_init_4 : decode cX1_init 4 = .ok (.aload_n 0, 1) := by decide +kernel
theorem dX1_init_5 : decode cX1_init 5 = .ok (.bipush 21, 2) := by decide +kernel
theorem dX1_init_7 : decode cX1_init 7 = .ok (.newarray .int, 2) := by decide +kernel
theorem dX1_init_9 : decode cX1_init 9 = .ok (.putfield 9, 3) := by decide +kernel
theorem dX1_init_12 : decode cX1_init 12 = .ok (.aload_n 0, 1) := by decide +kernel
theorem dX1_init_13 : decode cX1_init 13 = .ok (.sipush 336, 3) := by decide +kernel
theorem dX1_init_16 : decode cX1_init 16 = .ok (.newarray .int, 2) := by decide +kernel
theorem dX1_init_18 : decode cX1_init 18 = .ok (.putfield 15, 3) := by decide +kernel
theorem dX1_init_21 : decode cX1_init 21 = .ok (.aload_n 0, 1) := by decide +kernel
theorem dX1_init_22 : decode cX1_init 22 = .ok (.sipush 336, 3) := by decide +kernel
theorem dX1_init_25 : decode cX1_init 25 = .ok (.newarray .int, 2) := by decide +kernel
theorem dX1_init_27 : decode cX1_init 27 = .ok (.putfield 18, 3) := by decide +kernel
theorem dX1_init_30 : decode cX1_init 30 = .ok (.aload_n 0, 1) := by decide +kernel
theorem dX1_init_31 : decode cX1_init 31 = .ok (.sipush 336, 3) := by decide +kernel
theorem dX1_init_34 : decode cX1_init 34 = .ok (.newarray .int, 2) := by decide +kernel
theorem dX1_init_36 : decode cX1_init 36 = .ok (.putfield 21, 3) := by decide +kernel
theorem dX1_init_39 : decode cX1_init 39 = .ok (.aload_n 0, 1) := by decide +kernel
theorem dX1_init_40 : decode cX1_init 40 = .ok (.sipush 336, 3) := by decide +kernel
theorem dX1_init_43 : decode cX1_init 43 = .ok (.newarray .int, 2) := by decide +kernel
theorem dX1_init_45 : decode cX1_init 45 = .ok (.putfield 24, 3) := by decide +kernel
theorem dX1_init_48 : decode cX1_init 48 = .ok (.aload_n 0, 1) := by decide +kernel
theorem dX1_init_49 : decode cX1_init 49 = .ok (.sipush 336, 3) := by decide +kernel
theorem dX1_init_52 : decode cX1_init 52 = .ok (.newarray .int, 2) := by decide +kernel
theorem dX1_init_54 : decode cX1_init 54 = .ok (.putfield 27, 3) := by decide +kernel
theorem dX1_init_57 : decode cX1_init 57 = .ok (.return_, 1) := by decide +kernel
theorem dX1_lay_0 : decode cX1_lay 0 = .ok (.iconst 0, 1) := by decide +kernel
theorem dX1_lay_1 : decode cX1_lay 1 = .ok (.istore_n 2, 1) := by decide +kernel
theorem dX1_lay_2 : decode cX1_lay 2 = .ok (.iload_n 2, 1) := by decide +kernel
theorem dX1_lay_3 : decode cX1_lay 3 = .ok (.bipush 20, 2) := by decide +kernel
theorem dX1_lay_5 : decode cX1_lay 5 = .ok (.if_icmp .gt 116, 3) := by decide +kernel
theorem dX1_lay_8 : decode cX1_lay 8 = .ok (.aload_n 0, 1) := by decide +kernel
theorem dX1_lay_9 : decode cX1_lay 9 = .ok (.getfield 9, 3) := by decide +kernel
theorem dX1_lay_12 : decode cX1_lay 12 = .ok (.iload_n 2, 1) := by decide +kernel
theorem dX1_lay_13 : decode cX1_lay 13 = .ok (.iconst 0, 1) := by decide +kernel
theorem dX1_lay_14 : decode cX1_lay 14 = .ok (.bipush 16, 2) := by decide +kernel
theorem dX1_lay_16 : decode cX1_lay 16 = .ok (.aload_n 1, 1) := by decide +kernel
theorem dX1_lay_17 : decode cX1_lay 17 = .ok (.iload_n 2, 1) := by decide +kernel
theorem dX1_lay_18 : decode cX1_lay 18 = .ok (.invokevirtual 30, 3) := by decide +kernel
theorem dX1_lay_21 : decode cX1_lay 21 = .ok (.invokestatic 36, 3) := by decide +kernel
theorem dX1_lay_24 : decode cX1_lay 24 = .ok (.invokestatic 42, 3) := by decide +kernel
theorem dX1_lay_27 : decode cX1_lay 27 = .ok (.iastore, 1) := by decide +kernel
theorem dX1_lay_28 : decode cX1_lay 28 = .ok (.iconst 0, 1) := by decide +kernel
theorem dX1_lay_29 : decode cX1_lay 29 = .ok (.istore_n 3, 1) := by decide +kernel
theorem dX1_lay_30 : decode cX1_lay 30 = .ok (.iload_n 3, 1) := by decide +kernel
theorem dX1_lay_31 : decode cX1_lay 31 = .ok (.aload_n 0, 1) := by decide +kernel
theorem dX1_lay_32 : decode cX1_lay 32 = .ok (.getfield 9, 3) := by decide +kernel
theorem dX1_lay_35 : decode cX1_lay 35 = .ok (.iload_n 2, 1) := by decide +kernel
theorem dX1_lay_36 : decode cX1_lay 36 = .ok (.iaload, 1) := by decide +kernel
theorem dX1_lay_37 : decode cX1_lay 37 = .ok (.if_icmp .ge 73, 3) := by decide +kernel
theorem dX1_lay_40 : decode cX1_lay 40 = .ok (.iload_n 2, 1) := by decide +kernel
theorem dX1_lay_41 : decode cX1_lay 41 = .ok (.bipush 16, 2) := by decide +kernel
theorem dX1_lay_43 : decode cX1_lay 43 = .ok (.imul, 1) := by decide +kernel
theorem dX1_lay_44 : decode cX1_lay 44 = .ok (.iload_n 3, 1) := by decide +kernel
theorem dX1_lay_45 : decode cX1_lay 45 = .ok (.iadd, 1) := by decide +kernel
theorem dX1_lay_46 : decode cX1_lay 46 = .ok (.istore 4, 2) := by decide +kernel
theorem dX1_lay_48 : decode cX1_lay 48 = .ok (.aload_n 0, 1) := by decide +kernel
theorem dX1_lay_49 : decode cX1_lay 49 = .ok (.getfield 15, 3) := by decide +kernel
theorem dX1_lay_52 : decode cX1_lay 52 = .ok (.iload 4, 2) := by decide +kernel
theorem dX1_lay_54 : decode cX1_lay 54 = .ok (.aload_n 1, 1) := by decide +kernel
theorem dX1_lay_55 : decode cX1_lay 55 = .ok (.iload_n 2, 1) := by decide +kernel
theorem dX1_lay_56 : decode cX1_lay 56 = .ok (.iload_n 3, 1) := by decide +kernel
theorem dX1_lay_57 : decode cX1_lay 57 = .ok (.iconst 0, 1) := by decide +kernel
theorem dX1_lay_58 : decode cX1_lay 58 = .ok (.invokevirtual 45, 3) := by decide +kernel
theorem dX1_lay_61 : decode cX1_lay 61 = .ok (.iastore, 1) := by decide +kernel
theorem dX1_lay_62 : decode cX1_lay 62 = .ok (.aload_n 0, 1) := by decide +kernel
theorem dX1_lay_63 : decode cX1_lay 63 = .ok (.getfield 18, 3) := by decide +kernel
theorem dX1_lay_66 : decode cX1_lay 66 = .ok (.iload 4, 2) := by decide +kernel
theorem dX1_lay_68 : decode cX1_lay 68 = .ok (.aload_n 1, 1) := by decide +kernel
theorem dX1_lay_69 : decode cX1_lay 69 = .ok (.iload_n 2, 1) := by decide +kernel
theorem dX1_lay_70 : decode cX1_lay 70 = .ok (.iload_n 3, 1) := by decide +kernel
theorem dX1_lay_71 : decode cX1_lay 71 = .ok (.iconst 1, 1) := by decide +kernel
theorem dX1_lay_72 : decode cX1_lay 72 = .ok (.invokevirtual 45, 3) := by decide +kernel
theorem dX1_lay_75 : decode cX1_lay 75 = .ok (.iastore, 1) := by decide +kernel
theorem dX1_lay_76 : decode cX1_lay 76 = .ok (.aload_n 0, 1) := by decide +kernel
theorem dX1_lay_77 : decode cX1_lay 77 = .ok (.getfield 21, 3) := by decide +kernel
theorem dX1_lay_80 : decode cX1_lay 80 = .ok (.iload 4, 2) := by decide +kernel
theorem dX1_lay_82 : decode cX1_lay 82 = .ok (.aload_n 1, 1) := by decide +kernel
theorem dX1_lay_83 : decode cX1_lay 83 = .ok (.iload_n 2, 1) := by decide +kernel
theorem dX1_lay_84 : decode cX1_lay 84 = .ok (.iload_n 3, 1) := by decide +kernel
theorem dX1_lay_85 : decode cX1_lay 85 = .ok (.iconst 2, 1) := by decide +kernel
theorem dX1_lay_86 : decode cX1_lay 86 = .ok (.invokevirtual 45, 3) := by decide +kernel
theorem dX1_lay_89 : decode cX1_lay 89 = .ok (.iastore, 1) := by decide +kernel
theorem dX1_lay_90 : decode cX1_lay 90 = .ok (.aload_n 0, 1) := by decide +kernel
theorem dX1_lay_91 : decode cX1_lay 91 = .ok (.getfield 24, 3) := by decide +kernel
theorem dX1_lay_94 : decode cX1_lay 94 = .ok (.iload 4, 2) := by decide +kernel
theorem dX1_lay_96 : decode cX1_lay 96 = .ok (.aload_n 1, 1) := by decide +kernel
theorem dX1_lay_97 : decode cX1_lay 97 = .ok (.iload_n 2, 1) := by decide +kernel
theorem dX1_lay_98 : decode cX1_lay 98 = .ok (.iload_n 3, 1) := by decide +kernel
theorem dX1_lay_99 : decode cX1_lay 99 = .ok (.iconst 3, 1) := by decide +kernel
theorem dX1_lay_100 : decode cX1_lay 100 = .ok (.invokevirtual 45, 3) := by decide +kernel
theorem dX1_lay_103 : decode cX1_lay 103 = .ok (.iastore, 1) := by decide +kernel
theorem dX1_lay_104 : decode cX1_lay 104 = .ok (.iinc 3 1, 3) := by decide +kernel
theorem dX1_lay_107 : decode cX1_lay 107 = .ok (.goto (-77), 3) := by decide +kernel
theorem dX1_lay_110 : decode cX1_lay 110 = .ok (.aload_n 0, 1) := by decide +kernel
theorem dX1_lay_111 : decode cX1_lay 111 = .ok (.iload_n 2, 1) := by decide +kernel
theorem dX1_lay_112 : decode cX1_lay 112 = .ok (.invokevirtual 49, 3) := by decide +kernel
theorem dX1_lay_115 : decode cX1_lay 115 = .ok (.iinc 2 1, 3) := by decide +kernel
theorem dX1_lay_118 : decode cX1_lay 118 = .ok (.goto (-116), 3) := by decide +kernel
theorem dX1_lay_121 : decode cX1_lay 121 = .ok (.return_, 1) := by decide +kernel
theorem dX1_findNeighbours_0 : decode cX1_findNeighbours 0 = .ok (.iload_n 1, 1) := by decide +kernel
theorem dX1_findNeighbours_1 : decode cX1_findNeighbours 1 = .ok (.bipush 16, 2) := by decide +kernel
theorem dX1_findNeighbours_3 : decode cX1_findNeighbours 3 = .ok (.imul, 1) := by decide +kernel
theorem dX1_findNeighbours_4 : decode cX1_findNeighbours 4 = .ok (.istore_n 2, 1) := by decide +kernel
theorem dX1_findNeighbours_5 : decode cX1_findNeighbours 5 = .ok (.iconst 0, 1) := by decide +kernel
theorem dX1_findNeighbours_6 : decode cX1_findNeighbours 6 = .ok (.istore_n 3, 1) := by decide +kernel
theorem dX1_findNeighbours_7 : decode cX1_findNeighbours 7 = .ok (.iload_n 3, 1) := by decide +kernel
theorem dX1_findNeighbours_8 : decode cX1_findNeighbours 8 = .ok (.aload_n 0, 1) := by decide +kernel
theorem dX1_findNeighbours_9 : decode cX1_findNeighbours 9 = .ok (.getfield 9, 3) := by decide +kernel
theorem dX1_findNeighbours_12 : decode cX1_findNeighbours 12 = .ok (.iload_n 1, 1) := by decide +kernel
theorem dX1_findNeighbours_13 : decode cX1_findNeighbours 13 = .ok (.iaload, 1) := by decide +kernel
theorem dX1_findNeighbours_14 : decode cX1_findNeighbours 14 = .ok (.if_icmp .ge 67, 3) := by decide +kernel
theorem dX1_findNeighbours_17 : decode cX1_findNeighbours 17 = .ok (.aload_n 0, 1) := by decide +kernel
theorem dX1_findNeighbours_18 : decode cX1_findNeighbours 18 = .ok (.getfield 27, 3) := by decide +kernel
theorem dX1_findNeighbours_21 : decode cX1_findNeighbours 21 = .ok (.iload_n 2, 1) := by decide +kernel
theorem dX1_findNeighbours_22 : decode cX1_findNeighbours 22 = .ok (.iload_n 3, 1) := by decide +kernel
theorem dX1_findNeighbours_23 : decode cX1_findNeighbours 23 = .ok (.iadd, 1) := by decide +kernel
theorem dX1_findNeighbours_24 : decode cX1_findNeighbours 24 = .ok (.iconst 0, 1) := by decide +kernel
theorem dX1_findNeighbours_25 : decode cX1_findNeighbours 25 = .ok (.iastore, 1) := by decide +kernel
theorem dX1_findNeighbours_26 : decode cX1_findNeighbours 26 = .ok (.iconst 0, 1) := by decide +kernel
theorem dX1_findNeighbours_27 : decode cX1_findNeighbours 27 = .ok (.istore 4, 2) := by decide +kernel
theorem dX1_findNeighbours_29 : decode cX1_findNeighbours 29 = .ok (.iload 4, 2) := by decide +kernel
theorem dX1_findNeighbours_31 : decode cX1_findNeighbours 31 = .ok (.aload_n 0, 1) := by decide +kernel
theorem dX1_findNeighbours_32 : decode cX1_findNeighbours 32 = .ok (.getfield 9, 3) := by decide +kernel
theorem dX1_findNeighbours_35 : decode cX1_findNeighbours 35 = .ok (.iload_n 1, 1) := by decide +kernel
theorem dX1_findNeighbours_36 : decode cX1_findNeighbours 36 = .ok (.iaload, 1) := by decide +kernel
theorem dX1_findNeighbours_37 : decode cX1_findNeighbours 37 = .ok (.if_icmp .ge 38, 3) := by decide +kernel
theorem dX1_findNeighbours_40 : decode cX1_findNeighbours 40 = .ok (.aload_n 0, 1) := by decide +kernel
theorem dX1_findNeighbours_41 : decode cX1_findNeighbours 41 = .ok (.iload_n 2, 1) := by decide +kernel
theorem dX1_findNeighbours_42 : decode cX1_findNeighbours 42 = .ok (.iload_n 3, 1) := by decide +kernel
theorem dX1_findNeighbours_43 : decode cX1_findNeighbours 43 = .ok (.iadd, 1) := by decide +kernel
theorem dX1_findNeighbours_44 : decode cX1_findNeighbours 44 = .ok (.iload_n 2, 1) := by decide +kernel
theorem dX1_findNeighbours_45 : decode cX1_findNeighbours 45 = .ok (.iload 4, 2) := by decide +kernel
theorem dX1_findNeighbours_47 : decode cX1_findNeighbours 47 = .ok (.iadd, 1) := by decide +kernel
theorem dX1_findNeighbours_48 : decode cX1_findNeighbours 48 = .ok (.invokevirtual 53, 3) := by decide +kernel
theorem dX1_findNeighbours_51 : decode cX1_findNeighbours 51 = .ok (.ifCond .eq 18, 3) := by decide +kernel
theorem dX1_findNeighbours_54 : decode cX1_findNeighbours 54 = .ok (.aload_n 0, 1) := by decide +kernel
theorem dX1_findNeighbours_55 : decode cX1_findNeighbours 55 = .ok (.getfield 27, 3) := by decide +kernel
theorem dX1_findNeighbours_58 : decode cX1_findNeighbours 58 = .ok (.iload_n 2, 1) := by decide +kernel
theorem dX1_findNeighbours_59 : decode cX1_findNeighbours 59 = .ok (.iload_n 3, 1) := by decide +kernel
theorem dX1_findNeighbours_60 : decode cX1_findNeighbours 60 = .ok (.iadd, 1) := by decide +kernel
theorem dX1_findNeighbours_61 : decode cX1_findNeighbours 61 = .ok (.dup2, 1) := by decide +kernel
theorem dX1_findNeighbours_62 : decode cX1_findNeighbours 62 = .ok (.iaload, 1) := by decide +kernel
theorem dX1_findNeighbours_63 : decode cX1_findNeighbours 63 = .ok (.iconst 1, 1) := by decide +kernel
theorem dX1_findNeighbours_64 : decode cX1_findNeighbours 64 = .ok (.iload 4, 2) := by decide +kernel
theorem dX1_findNeighbours_66 : decode cX1_findNeighbours 66 = .ok (.ishl, 1) := by decide +kernel
theorem dX1_findNeighbours_67 : decode cX1_findNeighbours 67 = .ok (.ior, 1) := by decide +kernel
theorem dX1_findNeighbours_68 : decode cX1_findNeighbours 68 = .ok (.iastore, 1) := by decide +kernel
theorem dX1_findNeighbours_69 : decode cX1_findNeighbours 69 = .ok (.iinc 4 1, 3) := by decide +kernel
theorem dX1_findNeighbours_72 : decode cX1_findNeighbours 72 = .ok (.goto (-43), 3) := by decide +kernel
theorem dX1_findNeighbours_75 : decode cX1_findNeighbours 75 = .ok (.iinc 3 1, 3) := by decide +kernel
theorem dX1_findNeighbours_78 : decode cX1_findNeighbours 78 = .ok (.goto (-71), 3) := by decide +kernel
theorem dX1_findNeighbours_81 : decode cX1_findNeighbours 81 = .ok (.return_, 1) := by decide +kernel
theorem dX1_touch_0 : decode cX1_touch 0 = .ok (.iconst 0, 1) := by decide +kernel
theorem dX1_touch_1 : decode cX1_touch 1 = .ok (.aload_n 0, 1) := by decide +kernel
theorem dX1_touch_2 : decode cX1_touch 2 = .ok (.getfield 15, 3) := by decide +kernel
theorem dX1_touch_5 : decode cX1_touch 5 = .ok (.iload_n 1, 1) := by decide +kernel
theorem dX1_touch_6 : decode cX1_touch 6 = .ok (.iaload, 1) := by decide +kernel
theorem dX1_touch_7 : decode cX1_touch 7 = .ok (.aload_n 0, 1) := by decide +kernel
theorem dX1_touch_8 : decode cX1_touch 8 = .ok (.getfield 15, 3) := by decide +kernel
theorem dX1_touch_11 : decode cX1_touch 11 = .ok (.iload_n 2, 1) := by decide +kernel
theorem dX1_touch_12 : decode cX1_touch 12 = .ok (.iaload, 1) := by decide +kernel
theorem dX1_touch_13 : decode cX1_touch 13 = .ok (.invokestatic 42, 3) := by decide +kernel
theorem dX1_touch_16 : decode cX1_touch 16 = .ok (.aload_n 0, 1) := by decide +kernel
theorem dX1_touch_17 : decode cX1_touch 17 = .ok (.getfield 21, 3) := by decide +kernel
theorem dX1_touch_20 : decode cX1_touch 20 = .ok (.iload_n 1, 1) := by decide +kernel
theorem dX1_touch_21 : decode cX1_touch 21 = .ok (.iaload, 1) := by decide +kernel
theorem dX1_touch_22 : decode cX1_touch 22 = .ok (.aload_n 0, 1) := by decide +kernel
theorem dX1_touch_23 : decode cX1_touch 23 = .ok (.getfield 21, 3) := by decide +kernel
theorem dX1_touch_26 : decode cX1_touch 26 = .ok (.iload_n 2, 1) := by decide +kernel
theorem dX1_touch_27 : decode cX1_touch 27 = .ok (.iaload, 1) := by decide +kernel
theorem dX1_touch_28 : decode cX1_touch 28 = .ok (.invokestatic 36, 3) := by decide +kernel
theorem dX1_touch_31 : decode cX1_touch 31 = .ok (.isub, 1) := by decide +kernel
theorem dX1_touch_32 : decode cX1_touch 32 = .ok (.invokestatic 42, 3) := by decide +kernel
theorem dX1_touch_35 : decode cX1_touch 35 = .ok (.istore_n 3, 1) := by decide +kernel
theorem dX1_touch_36 : decode cX1_touch 36 = .ok (.iconst 0, 1) := by decide +kernel
theorem dX1_touch_37 : decode cX1_touch 37 = .ok (.aload_n 0, 1) := by decide +kernel
theorem dX1_touch_38 : decode cX1_touch 38 = .ok (.getfield 18, 3) := by decide +kernel
theorem dX1_touch_41 : decode cX1_touch 41 = .ok (.iload_n 1, 1) := by decide +kernel
theorem dX1_touch_42 : decode cX1_touch 42 = .ok (.iaload, 1) := by decide +kernel
theorem dX1_touch_43 : decode cX1_touch 43 = .ok (.aload_n 0, 1) := by decide +kernel
theorem dX1_touch_44 : decode cX1_touch 44 = .ok (.getfield 18, 3) := by decide +kernel
theorem dX1_touch_47 : decode cX1_touch 47 = .ok (.iload_n 2, 1) := by decide +kernel
theorem dX1_touch_48 : decode cX1_touch 48 = .ok (.iaload, 1) := by decide +kernel
theorem dX1_touch_49 : decode cX1_touch 49 = .ok (.invokestatic 42, 3) := by decide +kernel
theorem dX1_touch_52 : decode cX1_touch 52 = .ok (.aload_n 0, 1) := by decide +kernel
theorem dX1_touch_53 : decode cX1_touch 53 = .ok (.getfield 24, 3) := by decide +kernel
theorem dX1_touch_56 : decode cX1_touch 56 = .ok (.iload_n 1, 1) := by decide +kernel
theorem dX1_touch_57 : decode cX1_touch 57 = .ok (.iaload, 1) := by decide +kernel
theorem dX1_touch_58 : decode cX1_touch 58 = .ok (.aload_n 0, 1) := by decide +kernel
theorem dX1_touch_59 : decode cX1_touch 59 = .ok (.getfield 24, 3) := by decide +kernel
theorem dX1_touch_62 : decode cX1_touch 62 = .ok (.iload_n 2, 1) := by decide +kernel
theorem dX1_touch_63 : decode cX1_touch 63 = .ok (.iaload, 1) := by decide +kernel
theorem dX1_touch_64 : decode cX1_touch 64 = .ok (.invokestatic 36, 3) := by decide +kernel
theorem dX1_touch_67 : decode cX1_touch 67 = .ok (.isub, 1) := by decide +kernel
theorem dX1_touch_68 : decode cX1_touch 68 = .ok (.invokestatic 42, 3) := by decide +kernel
theorem dX1_touch_71 : decode cX1_touch 71 = .ok (.istore 4, 2) := by decide +kernel
theorem dX1_touch_73 : decode cX1_touch 73 = .ok (.iload_n 3, 1) := by decide +kernel
theorem dX1_touch_74 : decode cX1_touch 74 = .ok (.iload 4, 2) := by decide +kernel
theorem dX1_touch_76 : decode cX1_touch 76 = .ok (.iadd, 1) := by decide +kernel
theorem dX1_touch_77 : decode cX1_touch 77 = .ok (.iconst 1, 1) := by decide +kernel
theorem dX1_touch_78 : decode cX1_touch 78 = .ok (.if_icmp .gt 7, 3) := by decide +kernel
theorem dX1_touch_81 : decode cX1_touch 81 = .ok (.iconst 1, 1) := by decide +kernel
theorem dX1_touch_82 : decode cX1_touch 82 = .ok (.goto 4, 3) := by decide +kernel
theorem dX1_touch_85 : decode cX1_touch 85 = .ok (.iconst 0, 1) := by decide +kernel
theorem dX1_touch_86 : decode cX1_touch 86 = .ok (.ireturn, 1) := by decide +kernel
theorem dX1_boxesIn_0 : decode cX1_boxesIn 0 = .ok (.iload_n 1, 1) := by decide +kernel
theorem dX1_boxesIn_1 : decode cX1_boxesIn 1 = .ok (.ifCond .le 18, 3) := by decide +kernel
theorem dX1_boxesIn_4 : decode cX1_boxesIn 4 = .ok (.iload_n 1, 1) := by decide +kernel
theorem dX1_boxesIn_5 : decode cX1_boxesIn 5 = .ok (.bipush 20, 2) := by decide +kernel
theorem dX1_boxesIn_7 : decode cX1_boxesIn 7 = .ok (.if_icmp .gt 12, 3) := by decide +kernel
theorem dX1_boxesIn_10 : decode cX1_boxesIn 10 = .ok (.aload_n 0, 1) := by decide +kernel
theorem dX1_boxesIn_11 : decode cX1_boxesIn 11 = .ok (.getfield 9, 3) := by decide +kernel
theorem dX1_boxesIn_14 : decode cX1_boxesIn 14 = .ok (.iload_n 1, 1) := by decide +kernel
theorem dX1_boxesIn_15 : decode cX1_boxesIn 15 = .ok (.iaload, 1) := by decide +kernel
theorem dX1_boxesIn_16 : decode cX1_boxesIn 16 = .ok (.goto 4, 3) := by decide +kernel
theorem dX1_boxesIn_19 : decode cX1_boxesIn 19 = .ok (.iconst 0, 1) := by decide +kernel
theorem dX1_boxesIn_20 : decode cX1_boxesIn 20 = .ok (.ireturn, 1) := by decide +kernel
theorem dX1_hasBox_0 : decode cX1_hasBox 0 = .ok (.iload_n 1, 1) := by decide +kernel
theorem dX1_hasBox_1 : decode cX1_hasBox 1 = .ok (.ifCond .le 27, 3) := by decide +kernel
theorem dX1_hasBox_4 : decode cX1_hasBox 4 = .ok (.iload_n 1, 1) := by decide +kernel
theorem dX1_hasBox_5 : decode cX1_hasBox 5 = .ok (.bipush 20, 2) := by decide +kernel
theorem dX1_hasBox_7 : decode cX1_hasBox 7 = .ok (.if_icmp .gt 21, 3) := by decide +kernel
theorem dX1_hasBox_10 : decode cX1_hasBox 10 = .ok (.iload_n 2, 1) := by decide +kernel
theorem dX1_hasBox_11 : decode cX1_hasBox 11 = .ok (.ifCond .lt 17, 3) := by decide +kernel
theorem dX1_hasBox_14 : decode cX1_hasBox 14 = .ok (.iload_n 2, 1) := by decide +kernel
theorem dX1_hasBox_15 : decode cX1_hasBox 15 = .ok (.aload_n 0, 1) := by decide +kernel
theorem dX1_hasBox_16 : decode cX1_hasBox 16 = .ok (.getfield 9, 3) := by decide +kernel
theorem dX1_hasBox_19 : decode cX1_hasBox 19 = .ok (.iload_n 1, 1) := by decide +kernel
theorem dX1_hasBox_20 : decode cX1_hasBox 20 = .ok (.iaload, 1) := by decide +kernel
theorem dX1_hasBox_21 : decode cX1_hasBox 21 = .ok (.if_icmp .ge 7, 3) := by decide +kernel
theorem dX1_hasBox_24 : decode cX1_hasBox 24 = .ok (.iconst 1, 1) := by decide +kernel
theorem dX1_hasBox_25 : decode cX1_hasBox 25 = .ok (.goto 4, 3) := by decide +kernel
theorem dX1_hasBox_28 : decode cX1_hasBox 28 = .ok (.iconst 0, 1) := by decide +kernel
theorem dX1_hasBox_29 : decode cX1_hasBox 29 = .ok (.ireturn, 1) := by decide +kernel
theorem dX1_corner_0 : decode cX1_corner 0 = .ok (.iload_n 1, 1) := by decide +kernel
theorem dX1_corner_1 : decode cX1_corner 1 = .ok (.bipush 16, 2) := by decide +kernel
theorem dX1_corner_3 : decode cX1_corner 3 = .ok (.imul, 1) := by decide +kernel
theorem dX1_corner_4 : decode cX1_corner 4 = .ok (.iload_n 2, 1) := by decide +kernel
theorem dX1_corner_5 : decode cX1_corner 5 = .ok (.iadd, 1) := by decide +kernel
theorem dX1_corner_6 : decode cX1_corner 6 = .ok (.istore 4, 2) := by decide +kernel
theorem dX1_corner_8 : decode cX1_corner 8 = .ok (.iload_n 3, 1) := by decide +kernel
theorem dX1_corner_9 : decode cX1_corner 9 = .ok (.tableswitch 63 0 3 #[31, 39, 47, 55], 31) := by decide +kernel
theorem dX1_corner_40 : decode cX1_corner 40 = .ok (.aload_n 0, 1) := by decide +kernel
theorem dX1_corner_41 : decode cX1_corner 41 = .ok (.getfield 15, 3) := by decide +kernel
theorem dX1_corner_44 : decode cX1_corner 44 = .ok (.iload 4, 2) := by decide +kernel
theorem dX1_corner_46 : decode cX1_corner 46 = .ok (.iaload, 1) := by decide +kernel
theorem dX1_corner_47 : decode cX1_corner 47 = .ok (.ireturn, 1) := by decide +kernel
theorem dX1_corner_48 : decode cX1_corner 48 = .ok (.aload_n 0, 1) := by decide +kernel
theorem dX1_corner_49 : decode cX1_corner 49 = .ok (.getfield 18, 3) := by decide +kernel
theorem dX1_corner_52 : decode cX1_corner 52 = .ok (.iload 4, 2) := by decide +kernel
theorem dX1_corner_54 : decode cX1_corner 54 = .ok (.iaload, 1) := by decide +kernel
theorem dX1_corner_55 : decode cX1_corner 55 = .ok (.ireturn, 1) := by decide +kernel
theorem dX1_corner_56 : decode cX1_corner 56 = .ok (.aload_n 0, 1) := by decide +kernel
theorem dX1_corner_57 : decode cX1_corner 57 = .ok (.getfield 21, 3) := by decide +kernel
theorem dX1_corner_60 : decode cX1_corner 60 = .ok (.iload 4, 2) := by decide +kernel
theorem dX1_corner_62 : decode cX1_corner 62 = .ok (.iaload, 1) := by decide +kernel
theorem dX1_corner_63 : decode cX1_corner 63 = .ok (.ireturn, 1) := by decide +kernel
theorem dX1_corner_64 : decode cX1_corner 64 = .ok (.aload_n 0, 1) := by decide +kernel
theorem dX1_corner_65 : decode cX1_corner 65 = .ok (.getfield 24, 3) := by decide +kernel
theorem dX1_corner_68 : decode cX1_corner 68 = .ok (.iload 4, 2) := by decide +kernel
theorem dX1_corner_70 : decode cX1_corner 70 = .ok (.iaload, 1) := by decide +kernel
theorem dX1_corner_71 : decode cX1_corner 71 = .ok (.ireturn, 1) := by decide +kernel
theorem dX1_corner_72 : decode cX1_corner 72 = .ok (.iconst (-1), 1) := by decide +kernel
theorem dX1_corner_73 : decode cX1_corner 73 = .ok (.ireturn, 1) := by decide +kernel
theorem dX1_hasPoint_0 : decode cX1_hasPoint 0 = .ok (.iload_n 1, 1) := by decide +kernel
theorem dX1_hasPoint_1 : decode cX1_hasPoint 1 = .ok (.bipush 16, 2) := by decide +kernel
theorem dX1_hasPoint_3 : decode cX1_hasPoint 3 = .ok (.imul, 1) := by decide +kernel
theorem dX1_hasPoint_4 : decode cX1_hasPoint 4 = .ok (.iload_n 2, 1) := by decide +kernel
theorem dX1_hasPoint_5 : decode cX1_hasPoint 5 = .ok (.iadd, 1) := by decide +kernel
theorem dX1_hasPoint_6 : decode cX1_hasPoint 6 = .ok (.istore 5, 2) := by decide +kernel
theorem dX1_hasPoint_8 : decode cX1_hasPoint 8 = .ok (.iload_n 3, 1) := by decide +kernel
theorem dX1_hasPoint_9 : decode cX1_hasPoint 9 = .ok (.aload_n 0, 1) := by decide +kernel
theorem dX1_hasPoint_10 : decode cX1_hasPoint 10 = .ok (.getfield 15, 3) := by decide +kernel
theorem dX1_hasPoint_13 : decode cX1_hasPoint 13 = .ok (.iload 5, 2) := by decide +kernel
theorem dX1_hasPoint_15 : decode cX1_hasPoint 15 = .ok (.iaload, 1) := by decide +kernel
theorem dX1_hasPoint_16 : decode cX1_hasPoint 16 = .ok (.if_icmp .lt 42, 3) := by decide +kernel
theorem dX1_hasPoint_19 : decode cX1_hasPoint 19 = .ok (.iload_n 3, 1) := by decide +kernel
theorem dX1_hasPoint_20 : decode cX1_hasPoint 20 = .ok (.aload_n 0, 1) := by decide +kernel
theorem dX1_hasPoint_21 : decode cX1_hasPoint 21 = .ok (.getfield 21, 3) := by decide +kernel
theorem dX1_hasPoint_24 : decode cX1_hasPoint 24 = .ok (.iload 5, 2) := by decide +kernel
theorem dX1_hasPoint_26 : decode cX1_hasPoint 26 = .ok (.iaload, 1) := by decide +kernel
theorem dX1_hasPoint_27 : decode cX1_hasPoint 27 = .ok (.if_icmp .gt 31, 3) := by decide +kernel
theorem dX1_hasPoint_30 : decode cX1_hasPoint 30 = .ok (.iload 4, 2) := by decide +kernel
theorem dX1_hasPoint_32 : decode cX1_hasPoint 32 = .ok (.aload_n 0, 1) := by decide +kernel
theorem dX1_hasPoint_33 : decode cX1_hasPoint 33 = .ok (.getfield 18, 3) := by decide +kernel
theorem dX1_hasPoint_36 : decode cX1_hasPoint 36 = .ok (.iload 5, 2) := by decide +kernel
theorem dX1_hasPoint_38 : decode cX1_hasPoint 38 = .ok (.iaload, 1) := by decide +kernel
theorem dX1_hasPoint_39 : decode cX1_hasPoint 39 = .ok (.if_icmp .lt 19, 3) := by decide +kernel
theorem dX1_hasPoint_42 : decode cX1_hasPoint 42 = .ok (.iload 4, 2) := by decide +kernel
theorem dX1_hasPoint_44 : decode cX1_hasPoint 44 = .ok (.aload_n 0, 1) := by decide +kernel
theorem dX1_hasPoint_45 : decode cX1_hasPoint 45 = .ok (.getfield 24, 3) := by decide +kernel
theorem dX1_hasPoint_48 : decode cX1_hasPoint 48 = .ok (.iload 5, 2) := by decide +kernel
theorem dX1_hasPoint_50 : decode cX1_hasPoint 50 = .ok (.iaload, 1) := by decide +kernel
theorem dX1_hasPoint_51 : decode cX1_hasPoint 51 = .ok (.if_icmp .gt 7, 3) := by decide +kernel
theorem dX1_hasPoint_54 : decode cX1_hasPoint 54 = .ok (.iconst 1, 1) := by decide +kernel
theorem dX1_hasPoint_55 : decode cX1_hasPoint 55 = .ok (.goto 4, 3) := by decide +kernel
theorem dX1_hasPoint_58 : decode cX1_hasPoint 58 = .ok (.iconst 0, 1) := by decide +kernel
theorem dX1_hasPoint_59 : decode cX1_hasPoint 59 = .ok (.ireturn, 1) := by decide +kernel
theorem dX1_nearestX_0 : decode cX1_nearestX 0 = .ok (.iload_n 1, 1) := by decide +kernel
theorem dX1_nearestX_1 : decode cX1_nearestX 1 = .ok (.bipush 16, 2) := by decide +kernel
theorem dX1_nearestX_3 : decode cX1_nearestX 3 = .ok (.imul, 1) := by decide +kernel
theorem dX1_nearestX_4 : decode cX1_nearestX 4 = .ok (.iload_n 2, 1) := by decide +kernel
theorem dX1_nearestX_5 : decode cX1_nearestX 5 = .ok (.iadd, 1) := by decide +kernel
theorem dX1_nearestX_6 : decode cX1_nearestX 6 = .ok (.istore 4, 2) := by decide +kernel
theorem dX1_nearestX_8 : decode cX1_nearestX 8 = .ok (.aload_n 0, 1) := by decide +kernel
theorem dX1_nearestX_9 : decode cX1_nearestX 9 = .ok (.getfield 15, 3) := by decide +kernel
theorem dX1_nearestX_12 : decode cX1_nearestX 12 = .ok (.iload 4, 2) := by decide +kernel
theorem dX1_nearestX_14 : decode cX1_nearestX 14 = .ok (.iaload, 1) := by decide +kernel
theorem dX1_nearestX_15 : decode cX1_nearestX 15 = .ok (.aload_n 0, 1) := by decide +kernel
theorem dX1_nearestX_16 : decode cX1_nearestX 16 = .ok (.getfield 21, 3) := by decide +kernel
theorem dX1_nearestX_19 : decode cX1_nearestX 19 = .ok (.iload 4, 2) := by decide +kernel
theorem dX1_nearestX_21 : decode cX1_nearestX 21 = .ok (.iaload, 1) := by decide +kernel
theorem dX1_nearestX_22 : decode cX1_nearestX 22 = .ok (.iload_n 3, 1) := by decide +kernel
theorem dX1_nearestX_23 : decode cX1_nearestX 23 = .ok (.invokestatic 36, 3) := by decide +kernel
theorem dX1_nearestX_26 : decode cX1_nearestX 26 = .ok (.invokestatic 42, 3) := by decide +kernel
theorem dX1_nearestX_29 : decode cX1_nearestX 29 = .ok (.ireturn, 1) := by decide +kernel
theorem dX1_nearestY_0 : decode cX1_nearestY 0 = .ok (.iload_n 1, 1) := by decide +kernel
theorem dX1_nearestY_1 : decode cX1_nearestY 1 = .ok (.bipush 16, 2) := by decide +kernel
theorem dX1_nearestY_3 : decode cX1_nearestY 3 = .ok (.imul, 1) := by decide +kernel
theorem dX1_nearestY_4 : decode cX1_nearestY 4 = .ok (.iload_n 2, 1) := by decide +kernel
theorem dX1_nearestY_5 : decode cX1_nearestY 5 = .ok (.iadd, 1) := by decide +kernel
theorem dX1_nearestY_6 : decode cX1_nearestY 6 = .ok (.istore 4, 2) := by decide +kernel
theorem dX1_nearestY_8 : decode cX1_nearestY 8 = .ok (.aload_n 0, 1) := by decide +kernel
theorem dX1_nearestY_9 : decode cX1_nearestY 9 = .ok (.getfield 18, 3) := by decide +kernel
theorem dX1_nearestY_12 : decode cX1_nearestY 12 = .ok (.iload 4, 2) := by decide +kernel
theorem dX1_nearestY_14 : decode cX1_nearestY 14 = .ok (.iaload, 1) := by decide +kernel
theorem dX1_nearestY_15 : decode cX1_nearestY 15 = .ok (.aload_n 0, 1) := by decide +kernel
theorem dX1_nearestY_16 : decode cX1_nearestY 16 = .ok (.getfield 24, 3) := by decide +kernel
theorem dX1_nearestY_19 : decode cX1_nearestY 19 = .ok (.iload 4, 2) := by decide +kernel
theorem dX1_nearestY_21 : decode cX1_nearestY 21 = .ok (.iaload, 1) := by decide +kernel
theorem dX1_nearestY_22 : decode cX1_nearestY 22 = .ok (.iload_n 3, 1) := by decide +kernel
theorem dX1_nearestY_23 : decode cX1_nearestY 23 = .ok (.invokestatic 36, 3) := by decide +kernel
theorem dX1_nearestY_26 : decode cX1_nearestY 26 = .ok (.invokestatic 42, 3) := by decide +kernel
theorem dX1_nearestY_29 : decode cX1_nearestY 29 = .ok (.ireturn, 1) := by decide +kernel
theorem dX2_init_0 : decode cX2_init 0 = .ok (.aload_n 0, 1) := by decide +kernel
theorem dX2_init_1 : decode cX2_init 1 = .ok (.invokespecial 1, 3) := by decide +kernel
theorem dX2_init_4 : decode cX2_init 4 = .ok (.aload_n 0, 1) := by decide +kernel
theorem dX2_init_5 : decode cX2_init 5 = .ok (.iload_n 1, 1) := by decide +kernel
theorem dX2_init_6 : decode cX2_init 6 = .ok (.iconst 1, 1) := by decide +kernel
theorem dX2_init_7 : decode cX2_init 7 = .ok (.iadd, 1) := by decide +kernel
theorem dX2_init_8 : decode cX2_init 8 = .ok (.newarray .int, 2) := by decide +kernel
theorem dX2_init_10 : decode cX2_init 10 = .ok (.putfield 7, 3) := by decide +kernel
theorem dX2_init_13 : decode cX2_init 13 = .ok (.aload_n 0, 1) := by decide +kernel
theorem dX2_init_14 : decode cX2_init 14 = .ok (.iload_n 1, 1) := by decide +kernel
theorem dX2_init_15 : decode cX2_init 15 = .ok (.iconst 1, 1) := by decide +kernel
theorem dX2_init_16 : decode cX2_init 16 = .ok (.iadd, 1) := by decide +kernel
theorem dX2_init_17 : decode cX2_init 17 = .ok (.newarray .int, 2) := by decide +kernel
theorem dX2_init_19 : decode cX2_init 19 = .ok (.putfield 13, 3) := by decide +kernel
theorem dX2_init_22 : decode cX2_init 22 = .ok (.return_, 1) := by decide +kernel
theorem dX2_isNumber_0 : decode cX2_isNumber 0 = .ok (.iload_n 1, 1) := by decide +kernel
theorem dX2_isNumber_1 : decode cX2_isNumber 1 = .ok (.ifCond .le 16, 3) := by decide +kernel
theorem dX2_isNumber_4 : decode cX2_isNumber 4 = .ok (.iload_n 1, 1) := by decide +kernel
theorem dX2_isNumber_5 : decode cX2_isNumber 5 = .ok (.aload_n 0, 1) := by decide +kernel
theorem dX2_isNumber_6 : decode cX2_isNumber 6 = .ok (.getfield 7, 3) := by decide +kernel
theorem dX2_isNumber_9 : decode cX2_isNumber 9 = .ok (.arraylength, 1) := by decide +kernel
theorem dX2_isNumber_10 : decode cX2_isNumber 10 = .ok (.if_icmp .ge 7, 3) := by decide +kernel
theorem dX2_isNumber_13 : decode cX2_isNumber 13 = .ok (.iconst 1, 1) := by decide +kernel
theorem dX2_isNumber_14 : decode cX2_isNumber 14 = .ok (.goto 4, 3) := by decide +kernel
theorem dX2_isNumber_17 : decode cX2_isNumber 17 = .ok (.iconst 0, 1) := by decide +kernel
theorem dX2_isNumber_18 : decode cX2_isNumber 18 = .ok (.ireturn, 1) := by decide +kernel
theorem dX2_has_0 : decode cX2_has 0 = .ok (.iload_n 1, 1) := by decide +kernel
theorem dX2_has_1 : decode cX2_has 1 = .ok (.ifCond .le 25, 3) := by decide +kernel
theorem dX2_has_4 : decode cX2_has 4 = .ok (.iload_n 1, 1) := by decide +kernel
theorem dX2_has_5 : decode cX2_has 5 = .ok (.aload_n 0, 1) := by decide +kernel
theorem dX2_has_6 : decode cX2_has 6 = .ok (.getfield 7, 3) := by decide +kernel
theorem dX2_has_9 : decode cX2_has 9 = .ok (.arraylength, 1) := by decide +kernel
theorem dX2_has_10 : decode cX2_has 10 = .ok (.if_icmp .ge 16, 3) := by decide +kernel
theorem dX2_has_13 : decode cX2_has 13 = .ok (.aload_n 0, 1) := by decide +kernel
theorem dX2_has_14 : decode cX2_has 14 = .ok (.getfield 7, 3) := by decide +kernel
theorem dX2_has_17 : decode cX2_has 17 = .ok (.iload_n 1, 1) := by decide +kernel
theorem dX2_has_18 : decode cX2_has 18 = .ok (.iaload, 1) := by decide +kernel
theorem dX2_has_19 : decode cX2_has 19 = .ok (.ifCond .eq 7, 3) := by decide +kernel
theorem dX2_has_22 : decode cX2_has 22 = .ok (.iconst 1, 1) := by decide +kernel
theorem dX2_has_23 : decode cX2_has 23 = .ok (.goto 4, 3) := by decide +kernel
theorem dX2_has_26 : decode cX2_has 26 = .ok (.iconst 0, 1) := by decide +kernel
theorem dX2_has_27 : decode cX2_has 27 = .ok (.ireturn, 1) := by decide +kernel
theorem dX2_put_0 : decode cX2_put 0 = .ok (.aload_n 0, 1) := by decide +kernel
theorem dX2_put_1 : decode cX2_put 1 = .ok (.iload_n 1, 1) := by decide +kernel
theorem dX2_put_2 : decode cX2_put 2 = .ok (.invokevirtual 16, 3) := by decide +kernel
theorem dX2_put_5 : decode cX2_put 5 = .ok (.ifCond .eq 27, 3) := by decide +kernel
theorem dX2_put_8 : decode cX2_put 8 = .ok (.aload_n 0, 1) := by decide +kernel
theorem dX2_put_9 : decode cX2_put 9 = .ok (.getfield 7, 3) := by decide +kernel
theorem dX2_put_12 : decode cX2_put 12 = .ok (.iload_n 1, 1) := by decide +kernel
theorem dX2_put_13 : decode cX2_put 13 = .ok (.iload_n 2, 1) := by decide +kernel
theorem dX2_put_14 : decode cX2_put 14 = .ok (.iastore, 1) := by decide +kernel
theorem dX2_put_15 : decode cX2_put 15 = .ok (.aload_n 0, 1) := by decide +kernel
theorem dX2_put_16 : decode cX2_put 16 = .ok (.getfield 13, 3) := by decide +kernel
theorem dX2_put_19 : decode cX2_put 19 = .ok (.iload_n 1, 1) := by decide +kernel
theorem dX2_put_20 : decode cX2_put 20 = .ok (.iload_n 3, 1) := by decide +kernel
theorem dX2_put_21 : decode cX2_put 21 = .ok (.iastore, 1) := by decide +kernel
theorem dX2_put_22 : decode cX2_put 22 = .ok (.aload_n 0, 1) := by decide +kernel
theorem dX2_put_23 : decode cX2_put 23 = .ok (.dup, 1) := by decide +kernel
theorem dX2_put_24 : decode cX2_put 24 = .ok (.getfield 20, 3) := by decide +kernel
theorem dX2_put_27 : decode cX2_put 27 = .ok (.iconst 1, 1) := by decide +kernel
theorem dX2_put_28 : decode cX2_put 28 = .ok (.iadd, 1) := by decide +kernel
theorem dX2_put_29 : decode cX2_put 29 = .ok (.putfield 20, 3) := by decide +kernel
theorem dX2_put_32 : decode cX2_put 32 = .ok (.return_, 1) := by decide +kernel
theorem dX2_clear_0 : decode cX2_clear 0 = .ok (.aload_n 0, 1) := by decide +kernel
theorem dX2_clear_1 : decode cX2_clear 1 = .ok (.getfield 7, 3) := by decide +kernel
theorem dX2_clear_4 : decode cX2_clear 4 = .ok (.iconst 0, 1) := by decide +kernel
theorem dX2_clear_5 : decode cX2_clear 5 = .ok (.invokestatic 24, 3) := by decide +kernel
theorem dX2_clear_8 : decode cX2_clear 8 = .ok (.aload_n 0, 1) := by decide +kernel
theorem dX2_clear_9 : decode cX2_clear 9 = .ok (.getfield 13, 3) := by decide +kernel
theorem dX2_clear_12 : decode cX2_clear 12 = .ok (.iconst 0, 1) := by decide +kernel
theorem dX2_clear_13 : decode cX2_clear 13 = .ok (.invokestatic 24, 3) := by decide +kernel
theorem dX2_clear_16 : decode cX2_clear 16 = .ok (.aload_n 0, 1) := by decide +kernel
theorem dX2_clear_17 : decode cX2_clear 17 = .ok (.iconst 0, 1) := by decide +kernel
theorem dX2_clear_18 : decode cX2_clear 18 = .ok (.putfield 20, 3) := by decide +kernel
theorem dX2_clear_21 : decode cX2_clear 21 = .ok (.return_, 1) := by decide +kernel
theorem dX2_copyFrom_0 : decode cX2_copyFrom 0 = .ok (.aload_n 0, 1) := by decide +kernel
theorem dX2_copyFrom_1 : decode cX2_copyFrom 1 = .ok (.getfield 7, 3) := by decide +kernel
theorem dX2_copyFrom_4 : decode cX2_copyFrom 4 = .ok (.arraylength, 1) := by decide +kernel
theorem dX2_copyFrom_5 : decode cX2_copyFrom 5 = .ok (.aload_n 1, 1) := by decide +kernel
theorem dX2_copyFrom_6 : decode cX2_copyFrom 6 = .ok (.getfield 7, 3) := by decide +kernel
theorem dX2_copyFrom_9 : decode cX2_copyFrom 9 = .ok (.arraylength, 1) := by decide +kernel
theorem dX2_copyFrom_10 : decode cX2_copyFrom 10 = .ok (.invokestatic 30, 3) := by decide +kernel
theorem dX2_copyFrom_13 : decode cX2_copyFrom 13 = .ok (.istore_n 2, 1) := by decide +kernel
theorem dX2_copyFrom_14 : decode cX2_copyFrom 14 = .ok (.aload_n 1, 1) := by decide +kernel
theorem dX2_copyFrom_15 : decode cX2_copyFrom 15 = .ok (.getfield 7, 3) := by decide +kernel
theorem dX2_copyFrom_18 : decode cX2_copyFrom 18 = .ok (.iconst 0, 1) := by decide +kernel
theorem dX2_copyFrom_19 : decode cX2_copyFrom 19 = .ok (.aload_n 0, 1) := by decide +kernel
theorem dX2_copyFrom_20 : decode cX2_copyFrom 20 = .ok (.getfield 7, 3) := by decide +kernel
theorem dX2_copyFrom_23 : decode cX2_copyFrom 23 = .ok (.iconst 0, 1) := by decide +kernel
theorem dX2_copyFrom_24 : decode cX2_copyFrom 24 = .ok (.iload_n 2, 1) := by decide +kernel
theorem dX2_copyFrom_25 : decode cX2_copyFrom 25 = .ok (.invokestatic 36, 3) := by decide +kernel
theorem dX2_copyFrom_28 : decode cX2_copyFrom 28 = .ok (.aload_n 1, 1) := by decide +kernel
theorem dX2_copyFrom_29 : decode cX2_copyFrom 29 = .ok (.getfield 13, 3) := by decide +kernel
theorem dX2_copyFrom_32 : decode cX2_copyFrom 32 = .ok (.iconst 0, 1) := by decide +kernel
theorem dX2_copyFrom_33 : decode cX2_copyFrom 33 = .ok (.aload_n 0, 1) := by decide +kernel
theorem dX2_copyFrom_34 : decode cX2_copyFrom 34 = .ok (.getfield 13, 3) := by decide +kernel
theorem dX2_copyFrom_37 : decode cX2_copyFrom 37 = .ok (.iconst 0, 1) := by decide +kernel
theorem dX2_copyFrom_38 : decode cX2_copyFrom 38 = .ok (.iload_n 2, 1) := by decide +kernel
theorem dX2_copyFrom_39 : decode cX2_copyFrom 39 = .ok (.invokestatic 36, 3) := by decide +kernel
theorem dX2_copyFrom_42 : decode cX2_copyFrom 42 = .ok (.aload_n 0, 1) := by decide +kernel
theorem dX2_copyFrom_43 : decode cX2_copyFrom 43 = .ok (.aload_n 1, 1) := by decide +kernel
theorem dX2_copyFrom_44 : decode cX2_copyFrom 44 = .ok (.getfield 20, 3) := by decide +kernel
theorem dX2_copyFrom_47 : decode cX2_copyFrom 47 = .ok (.putfield 20, 3) := by decide +kernel
theorem dX2_copyFrom_50 : decode cX2_copyFrom 50 = .ok (.return_, 1) := by decide +kernel
theorem dX3_init_0 : decode cX3_init 0 = .ok (.aload_n 0, 1) := by decide +kernel
theorem dX3_init_1 : decode cX3_init 1 = .ok (.invokespecial 3, 3) := by decide +kernel
theorem dX3_init_4 : decode cX3_init 4 = .ok (.aload_n 0, 1) := by decide +kernel
theorem dX3_init_5 : decode cX3_init 5 = .ok (.new 9, 3) := by decide +kernel
theorem dX3_init_8 : decode cX3_init 8 = .ok (.dup, 1) := by decide +kernel
theorem dX3_init_9 : decode cX3_init 9 = .ok (.invokespecial 11, 3) := by decide +kernel
theorem dX3_init_12 : decode cX3_init 12 = .ok (.putfield 12, 3) := by decide +kernel
theorem dX3_init_15 : decode cX3_init 15 = .ok (.aload_n 0, 1) := by decide +kernel
theorem dX3_init_16 : decode cX3_init 16 = .ok (.new 18, 3) := by decide +kernel
theorem dX3_init_19 : decode cX3_init 19 = .ok (.dup, 1) := by decide +kernel
theorem dX3_init_20 : decode cX3_init 20 = .ok (.bipush 20, 2) := by decide +kernel
theorem dX3_init_22 : decode cX3_init 22 = .ok (.invokespecial 20, 3) := by decide +kernel
theorem dX3_init_25 : decode cX3_init 25 = .ok (.putfield 23, 3) := by decide +kernel
theorem dX3_init_28 : decode cX3_init 28 = .ok (.aload_n 0, 1) := by decide +kernel
theorem dX3_init_29 : decode cX3_init 29 = .ok (.new 18, 3) := by decide +kernel
theorem dX3_init_32 : decode cX3_init 32 = .ok (.dup, 1) := by decide +kernel
theorem dX3_init_33 : decode cX3_init 33 = .ok (.bipush 60, 2) := by decide +kernel
theorem dX3_init_35 : decode cX3_init 35 = .ok (.invokespecial 20, 3) := by decide +kernel
theorem dX3_init_38 : decode cX3_init 38 = .ok (.putfield 27, 3) := by decide +kernel
theorem dX3_init_41 : decode cX3_init 41 = .ok (.aload_n 0, 1) := by decide +kernel
theorem dX3_init_42 : decode cX3_init 42 = .ok (.new 18, 3) := by decide +kernel
theorem dX3_init_45 : decode cX3_init 45 = .ok (.dup, 1) := by decide +kernel
theorem dX3_init_46 : decode cX3_init 46 = .ok (.bipush 60, 2) := by decide +kernel
theorem dX3_init_48 : decode cX3_init 48 = .ok (.invokespecial 20, 3) := by decide +kernel
theorem dX3_init_51 : decode cX3_init 51 = .ok (.putfield 30, 3) := by decide +kernel
theorem dX3_init_54 : decode cX3_init 54 = .ok (.aload_n 0, 1) := by decide +kernel
theorem dX3_init_55 : decode cX3_init 55 = .ok (.new 18, 3) := by decide +kernel
theorem dX3_init_58 : decode cX3_init 58 = .ok (.dup, 1) := by decide +kernel
theorem dX3_init_59 : decode cX3_init 59 = .ok (.bipush 12, 2) := by decide +kernel
theorem dX3_init_61 : decode cX3_init 61 = .ok (.invokespecial 20, 3) := by decide +kernel
theorem dX3_init_64 : decode cX3_init 64 = .ok (.putfield 33, 3) := by decide +kernel
theorem dX3_init_67 : decode cX3_init 67 = .ok (.return_, 1) := by decide +kernel
theorem dX3_clear_0 : decode cX3_clear 0 = .ok (.aload_n 0, 1) := by decide +kernel
theorem dX3_clear_1 : decode cX3_clear 1 = .ok (.getfield 23, 3) := by decide +kernel
theorem dX3_clear_4 : decode cX3_clear 4 = .ok (.invokevirtual 36, 3) := by decide +kernel
theorem dX3_clear_7 : decode cX3_clear 7 = .ok (.aload_n 0, 1) := by decide +kernel
theorem dX3_clear_8 : decode cX3_clear 8 = .ok (.getfield 27, 3) := by decide +kernel
theorem dX3_clear_11 : decode cX3_clear 11 = .ok (.invokevirtual 36, 3) := by decide +kernel
theorem dX3_clear_14 : decode cX3_clear 14 = .ok (.aload_n 0, 1) := by decide +kernel
theorem dX3_clear_15 : decode cX3_clear 15 = .ok (.getfield 30, 3) := by decide +kernel
theorem dX3_clear_18 : decode cX3_clear 18 = .ok (.invokevirtual 36, 3) := by decide +kernel
theorem dX3_clear_21 : decode cX3_clear 21 = .ok (.aload_n 0, 1) := by decide +kernel
theorem dX3_clear_22 : decode cX3_clear 22 = .ok (.getfield 33, 3) := by decide +kernel
theorem dX3_clear_25 : decode cX3_clear 25 = .ok (.invokevirtual 36, 3) := by decide +kernel
theorem dX3_clear_28 : decode cX3_clear 28 = .ok (.return_, 1) := by decide +kernel
theorem dX3_copyFrom_0 : decode cX3_copyFrom 0 = .ok (.aload_n 0, 1) := by decide +kernel
theorem dX3_copyFrom_1 : decode cX3_copyFrom 1 = .ok (.getfield 12, 3) := by decide +kernel
theorem dX3_copyFrom_4 : decode cX3_copyFrom 4 = .ok (.aload_n 1, 1) := by decide +kernel
theorem dX3_copyFrom_5 : decode cX3_copyFrom 5 = .ok (.getfield 12, 3) := by decide +kernel
theorem dX3_copyFrom_8 : decode cX3_copyFrom 8 = .ok (.invokevirtual 39, 3) := by decide +kernel
theorem dX3_copyFrom_11 : decode cX3_copyFrom 11 = .ok (.aload_n 0, 1) := by decide +kernel
theorem dX3_copyFrom_12 : decode cX3_copyFrom 12 = .ok (.getfield 23, 3) := by decide +kernel
theorem dX3_copyFrom_15 : decode cX3_copyFrom 15 = .ok (.aload_n 1, 1) := by decide +kernel
theorem dX3_copyFrom_16 : decode cX3_copyFrom 16 = .ok (.getfield 23, 3) := by decide +kernel
theorem dX3_copyFrom_19 : decode cX3_copyFrom 19 = .ok (.invokevirtual 43, 3) := by decide +kernel
theorem dX3_copyFrom_22 : decode cX3_copyFrom 22 = .ok (.aload_n 0, 1) := by decide +kernel
theorem dX3_copyFrom_23 : decode cX3_copyFrom 23 = .ok (.getfield 27, 3) := by decide +kernel
theorem dX3_copyFrom_26 : decode cX3_copyFrom 26 = .ok (.aload_n 1, 1) := by decide +kernel
theorem dX3_copyFrom_27 : decode cX3_copyFrom 27 = .ok (.getfield 27, 3) := by decide +kernel
theorem dX3_copyFrom_30 : decode cX3_copyFrom 30 = .ok (.invokevirtual 43, 3) := by decide +kernel
theorem dX3_copyFrom_33 : decode cX3_copyFrom 33 = .ok (.aload_n 0, 1) := by decide +kernel
theorem dX3_copyFrom_34 : decode cX3_copyFrom 34 = .ok (.getfield 30, 3) := by decide +kernel
theorem dX3_copyFrom_37 : decode cX3_copyFrom 37 = .ok (.aload_n 1, 1) := by decide +kernel
theorem dX3_copyFrom_38 : decode cX3_copyFrom 38 = .ok (.getfield 30, 3) := by decide +kernel
theorem dX3_copyFrom_41 : decode cX3_copyFrom 41 = .ok (.invokevirtual 43, 3) := by decide +kernel
theorem dX3_copyFrom_44 : decode cX3_copyFrom 44 = .ok (.aload_n 0, 1) := by decide +kernel
theorem dX3_copyFrom_45 : decode cX3_copyFrom 45 = .ok (.getfield 33, 3) := by decide +kernel
theorem dX3_copyFrom_48 : decode cX3_copyFrom 48 = .ok (.aload_n 1, 1) := by decide +kernel
theorem dX3_copyFrom_49 : decode cX3_copyFrom 49 = .ok (.getfield 33, 3) := by decide +kernel
theorem dX3_copyFrom_52 : decode cX3_copyFrom 52 = .ok (.invokevirtual 43, 3) := by decide +kernel
theorem dX3_copyFrom_55 : decode cX3_copyFrom 55 = .ok (.return_, 1) := by decide +kernel
theorem dX3_boxesOf_0 : decode cX3_boxesOf 0 = .ok (.aload_n 0, 1) := by decide +kernel
theorem dX3_boxesOf_1 : decode cX3_boxesOf 1 = .ok (.getfield 23, 3) := by decide +kernel
theorem dX3_boxesOf_4 : decode cX3_boxesOf 4 = .ok (.iload_n 1, 1) := by decide +kernel
theorem dX3_boxesOf_5 : decode cX3_boxesOf 5 = .ok (.invokevirtual 46, 3) := by decide +kernel
theorem dX3_boxesOf_8 : decode cX3_boxesOf 8 = .ok (.ifCond .eq 24, 3) := by decide +kernel
theorem dX3_boxesOf_11 : decode cX3_boxesOf 11 = .ok (.aload_n 0, 1) := by decide +kernel
theorem dX3_boxesOf_12 : decode cX3_boxesOf 12 = .ok (.getfield 12, 3) := by decide +kernel
theorem dX3_boxesOf_15 : decode cX3_boxesOf 15 = .ok (.aload_n 0, 1) := by decide +kernel
theorem dX3_boxesOf_16 : decode cX3_boxesOf 16 = .ok (.getfield 23, 3) := by decide +kernel
theorem dX3_boxesOf_19 : decode cX3_boxesOf 19 = .ok (.getfield 50, 3) := by decide +kernel
theorem dX3_boxesOf_22 : decode cX3_boxesOf 22 = .ok (.iload_n 1, 1) := by decide +kernel
theorem dX3_boxesOf_23 : decode cX3_boxesOf 23 = .ok (.iaload, 1) := by decide +kernel
theorem dX3_boxesOf_24 : decode cX3_boxesOf 24 = .ok (.iconst 1, 1) := by decide +kernel
theorem dX3_boxesOf_25 : decode cX3_boxesOf 25 = .ok (.iadd, 1) := by decide +kernel
theorem dX3_boxesOf_26 : decode cX3_boxesOf 26 = .ok (.invokevirtual 54, 3) := by decide +kernel
theorem dX3_boxesOf_29 : decode cX3_boxesOf 29 = .ok (.goto 4, 3) := by decide +kernel
theorem dX3_boxesOf_32 : decode cX3_boxesOf 32 = .ok (.iconst 0, 1) := by decide +kernel
theorem dX3_boxesOf_33 : decode cX3_boxesOf 33 = .ok (.ireturn, 1) := by decide +kernel
theorem dX3_boxByte_0 : decode cX3_boxByte 0 = .ok (.aload_n 0, 1) := by decide +kernel
theorem dX3_boxByte_1 : decode cX3_boxByte 1 = .ok (.getfield 23, 3) := by decide +kernel
theorem dX3_boxByte_4 : decode cX3_boxByte 4 = .ok (.iload_n 1, 1) := by decide +kernel
theorem dX3_boxByte_5 : decode cX3_boxByte 5 = .ok (.invokevirtual 46, 3) := by decide +kernel
theorem dX3_boxByte_8 : decode cX3_boxByte 8 = .ok (.ifCond .ne 5, 3) := by decide +kernel
theorem dX3_boxByte_11 : decode cX3_boxByte 11 = .ok (.iconst (-1), 1) := by decide +kernel
theorem dX3_boxByte_12 : decode cX3_boxByte 12 = .ok (.ireturn, 1) := by decide +kernel
theorem dX3_boxByte_13 : decode cX3_boxByte 13 = .ok (.aload_n 0, 1) := by decide +kernel
theorem dX3_boxByte_14 : decode cX3_boxByte 14 = .ok (.getfield 12, 3) := by decide +kernel
theorem dX3_boxByte_17 : decode cX3_boxByte 17 = .ok (.aload_n 0, 1) := by decide +kernel
theorem dX3_boxByte_18 : decode cX3_boxByte 18 = .ok (.getfield 23, 3) := by decide +kernel
theorem dX3_boxByte_21 : decode cX3_boxByte 21 = .ok (.getfield 50, 3) := by decide +kernel
theorem dX3_boxByte_24 : decode cX3_boxByte 24 = .ok (.iload_n 1, 1) := by decide +kernel
theorem dX3_boxByte_25 : decode cX3_boxByte 25 = .ok (.iaload, 1) := by decide +kernel
theorem dX3_boxByte_26 : decode cX3_boxByte 26 = .ok (.iconst 2, 1) := by decide +kernel
theorem dX3_boxByte_27 : decode cX3_boxByte 27 = .ok (.iadd, 1) := by decide +kernel
theorem dX3_boxByte_28 : decode cX3_boxByte 28 = .ok (.iconst 5, 1) := by decide +kernel
theorem dX3_boxByte_29 : decode cX3_boxByte 29 = .ok (.iload_n 2, 1) := by decide +kernel
theorem dX3_boxByte_30 : decode cX3_boxByte 30 = .ok (.imul, 1) := by decide +kernel
theorem dX3_boxByte_31 : decode cX3_boxByte 31 = .ok (.iadd, 1) := by decide +kernel
theorem dX3_boxByte_32 : decode cX3_boxByte 32 = .ok (.iload_n 3, 1) := by decide +kernel
theorem dX3_boxByte_33 : decode cX3_boxByte 33 = .ok (.iadd, 1) := by decide +kernel
theorem dX3_boxByte_34 : decode cX3_boxByte 34 = .ok (.invokevirtual 54, 3) := by decide +kernel
theorem dX3_boxByte_37 : decode cX3_boxByte 37 = .ok (.ireturn, 1) := by decide +kernel
theorem dX3_actorByte_0 : decode cX3_actorByte 0 = .ok (.aload_n 0, 1) := by decide +kernel
theorem dX3_actorByte_1 : decode cX3_actorByte 1 = .ok (.getfield 33, 3) := by decide +kernel
theorem dX3_actorByte_4 : decode cX3_actorByte 4 = .ok (.iload_n 1, 1) := by decide +kernel
theorem dX3_actorByte_5 : decode cX3_actorByte 5 = .ok (.invokevirtual 46, 3) := by decide +kernel
theorem dX3_actorByte_8 : decode cX3_actorByte 8 = .ok (.ifCond .eq 26, 3) := by decide +kernel
theorem dX3_actorByte_11 : decode cX3_actorByte 11 = .ok (.aload_n 0, 1) := by decide +kernel
theorem dX3_actorByte_12 : decode cX3_actorByte 12 = .ok (.getfield 12, 3) := by decide +kernel
theorem dX3_actorByte_15 : decode cX3_actorByte 15 = .ok (.aload_n 0, 1) := by decide +kernel
theorem dX3_actorByte_16 : decode cX3_actorByte 16 = .ok (.getfield 33, 3) := by decide +kernel
theorem dX3_actorByte_19 : decode cX3_actorByte 19 = .ok (.getfield 50, 3) := by decide +kernel
theorem dX3_actorByte_22 : decode cX3_actorByte 22 = .ok (.iload_n 1, 1) := by decide +kernel
theorem dX3_actorByte_23 : decode cX3_actorByte 23 = .ok (.iaload, 1) := by decide +kernel
theorem dX3_actorByte_24 : decode cX3_actorByte 24 = .ok (.iconst 1, 1) := by decide +kernel
theorem dX3_actorByte_25 : decode cX3_actorByte 25 = .ok (.iadd, 1) := by decide +kernel
theorem dX3_actorByte_26 : decode cX3_actorByte 26 = .ok (.iload_n 2, 1) := by decide +kernel
theorem dX3_actorByte_27 : decode cX3_actorByte 27 = .ok (.iadd, 1) := by decide +kernel
theorem dX3_actorByte_28 : decode cX3_actorByte 28 = .ok (.invokevirtual 54, 3) := by decide +kernel
theorem dX3_actorByte_31 : decode cX3_actorByte 31 = .ok (.goto 4, 3) := by decide +kernel
theorem dX3_actorByte_34 : decode cX3_actorByte 34 = .ok (.iconst 0, 1) := by decide +kernel
theorem dX3_actorByte_35 : decode cX3_actorByte 35 = .ok (.ireturn, 1) := by decide +kernel
theorem dX3_whereIs_0 : decode cX3_whereIs 0 = .ok (.aload_n 0, 1) := by decide +kernel
theorem dX3_whereIs_1 : decode cX3_whereIs 1 = .ok (.getfield 30, 3) := by decide +kernel
theorem dX3_whereIs_4 : decode cX3_whereIs 4 = .ok (.iload_n 1, 1) := by decide +kernel
theorem dX3_whereIs_5 : decode cX3_whereIs 5 = .ok (.invokevirtual 46, 3) := by decide +kernel
theorem dX3_whereIs_8 : decode cX3_whereIs 8 = .ok (.ifCond .eq 26, 3) := by decide +kernel
theorem dX3_whereIs_11 : decode cX3_whereIs 11 = .ok (.aload_n 0, 1) := by decide +kernel
theorem dX3_whereIs_12 : decode cX3_whereIs 12 = .ok (.getfield 12, 3) := by decide +kernel
theorem dX3_whereIs_15 : decode cX3_whereIs 15 = .ok (.aload_n 0, 1) := by decide +kernel
theorem dX3_whereIs_16 : decode cX3_whereIs 16 = .ok (.getfield 30, 3) := by decide +kernel
theorem dX3_whereIs_19 : decode cX3_whereIs 19 = .ok (.getfield 50, 3) := by decide +kernel
theorem dX3_whereIs_22 : decode cX3_whereIs 22 = .ok (.iload_n 1, 1) := by decide +kernel
theorem dX3_whereIs_23 : decode cX3_whereIs 23 = .ok (.iaload, 1) := by decide +kernel
theorem dX3_whereIs_24 : decode cX3_whereIs 24 = .ok (.iconst 1, 1) := by decide +kernel
theorem dX3_whereIs_25 : decode cX3_whereIs 25 = .ok (.iadd, 1) := by decide +kernel
theorem dX3_whereIs_26 : decode cX3_whereIs 26 = .ok (.iload_n 2, 1) := by decide +kernel
theorem dX3_whereIs_27 : decode cX3_whereIs 27 = .ok (.iadd, 1) := by decide +kernel
theorem dX3_whereIs_28 : decode cX3_whereIs 28 = .ok (.invokevirtual 54, 3) := by decide +kernel
theorem dX3_whereIs_31 : decode cX3_whereIs 31 = .ok (.goto 4, 3) := by decide +kernel
theorem dX3_whereIs_34 : decode cX3_whereIs 34 = .ok (.iconst 0, 1) := by decide +kernel
theorem dX3_whereIs_35 : decode cX3_whereIs 35 = .ok (.ireturn, 1) := by decide +kernel
theorem dX3_verbsOf_0 : decode cX3_verbsOf 0 = .ok (.aload_n 0, 1) := by decide +kernel
theorem dX3_verbsOf_1 : decode cX3_verbsOf 1 = .ok (.getfield 30, 3) := by decide +kernel
theorem dX3_verbsOf_4 : decode cX3_verbsOf 4 = .ok (.iload_n 1, 1) := by decide +kernel
theorem dX3_verbsOf_5 : decode cX3_verbsOf 5 = .ok (.invokevirtual 46, 3) := by decide +kernel
theorem dX3_verbsOf_8 : decode cX3_verbsOf 8 = .ok (.ifCond .ne 5, 3) := by decide +kernel
theorem dX3_verbsOf_11 : decode cX3_verbsOf 11 = .ok (.iconst 0, 1) := by decide +kernel
theorem dX3_verbsOf_12 : decode cX3_verbsOf 12 = .ok (.ireturn, 1) := by decide +kernel
theorem dX3_verbsOf_13 : decode cX3_verbsOf 13 = .ok (.aload_n 0, 1) := by decide +kernel
theorem dX3_verbsOf_14 : decode cX3_verbsOf 14 = .ok (.getfield 30, 3) := by decide +kernel
theorem dX3_verbsOf_17 : decode cX3_verbsOf 17 = .ok (.getfield 58, 3) := by decide +kernel
theorem dX3_verbsOf_20 : decode cX3_verbsOf 20 = .ok (.iload_n 1, 1) := by decide +kernel
theorem dX3_verbsOf_21 : decode cX3_verbsOf 21 = .ok (.iaload, 1) := by decide +kernel
theorem dX3_verbsOf_22 : decode cX3_verbsOf 22 = .ok (.aload_n 0, 1) := by decide +kernel
theorem dX3_verbsOf_23 : decode cX3_verbsOf 23 = .ok (.getfield 30, 3) := by decide +kernel
theorem dX3_verbsOf_26 : decode cX3_verbsOf 26 = .ok (.getfield 50, 3) := by decide +kernel
theorem dX3_verbsOf_29 : decode cX3_verbsOf 29 = .ok (.iload_n 1, 1) := by decide +kernel
theorem dX3_verbsOf_30 : decode cX3_verbsOf 30 = .ok (.iaload, 1) := by decide +kernel
theorem dX3_verbsOf_31 : decode cX3_verbsOf 31 = .ok (.isub, 1) := by decide +kernel
theorem dX3_verbsOf_32 : decode cX3_verbsOf 32 = .ok (.iconst 5, 1) := by decide +kernel
theorem dX3_verbsOf_33 : decode cX3_verbsOf 33 = .ok (.isub, 1) := by decide +kernel
theorem dX3_verbsOf_34 : decode cX3_verbsOf 34 = .ok (.iconst 2, 1) := by decide +kernel
theorem dX3_verbsOf_35 : decode cX3_verbsOf 35 = .ok (.idiv, 1) := by decide +kernel
theorem dX3_verbsOf_36 : decode cX3_verbsOf 36 = .ok (.ireturn, 1) := by decide +kernel
theorem dX3_scriptFor_0 : decode cX3_scriptFor 0 = .ok (.aload_n 0, 1) := by decide +kernel
theorem dX3_scriptFor_1 : decode cX3_scriptFor 1 = .ok (.getfield 30, 3) := by decide +kernel
theorem dX3_scriptFor_4 : decode cX3_scriptFor 4 = .ok (.iload_n 1, 1) := by decide +kernel
theorem dX3_scriptFor_5 : decode cX3_scriptFor 5 = .ok (.invokevirtual 46, 3) := by decide +kernel
theorem dX3_scriptFor_8 : decode cX3_scriptFor 8 = .ok (.ifCond .ne 5, 3) := by decide +kernel
theorem dX3_scriptFor_11 : decode cX3_scriptFor 11 = .ok (.iconst 0, 1) := by decide +kernel
theorem dX3_scriptFor_12 : decode cX3_scriptFor 12 = .ok (.ireturn, 1) := by decide +kernel
theorem dX3_scriptFor_13 : decode cX3_scriptFor 13 = .ok (.aload_n 0, 1) := by decide +kernel
theorem dX3_scriptFor_14 : decode cX3_scriptFor 14 = .ok (.getfield 30, 3) := by decide +kernel
theorem dX3_scriptFor_17 : decode cX3_scriptFor 17 = .ok (.getfield 58, 3) := by decide +kernel
theorem dX3_scriptFor_20 : decode cX3_scriptFor 20 = .ok (.iload_n 1, 1) := by decide +kernel
theorem dX3_scriptFor_21 : decode cX3_scriptFor 21 = .ok (.iaload, 1) := by decide +kernel
theorem dX3_scriptFor_22 : decode cX3_scriptFor 22 = .ok (.istore_n 3, 1) := by decide +kernel
theorem dX3_scriptFor_23 : decode cX3_scriptFor 23 = .ok (.aload_n 0, 1) := by decide +kernel
theorem dX3_scriptFor_24 : decode cX3_scriptFor 24 = .ok (.getfield 30, 3) := by decide +kernel
theorem dX3_scriptFor_27 : decode cX3_scriptFor 27 = .ok (.getfield 50, 3) := by decide +kernel
theorem dX3_scriptFor_30 : decode cX3_scriptFor 30 = .ok (.iload_n 1, 1) := by decide +kernel
theorem dX3_scriptFor_31 : decode cX3_scriptFor 31 = .ok (.iaload, 1) := by decide +kernel
theorem dX3_scriptFor_32 : decode cX3_scriptFor 32 = .ok (.iconst 5, 1) := by decide +kernel
theorem dX3_scriptFor_33 : decode cX3_scriptFor 33 = .ok (.iadd, 1) := by decide +kernel
theorem dX3_scriptFor_34 : decode cX3_scriptFor 34 = .ok (.istore 4, 2) := by decide +kernel
theorem dX3_scriptFor_36 : decode cX3_scriptFor 36 = .ok (.iload 4, 2) := by decide +kernel
theorem dX3_scriptFor_38 : decode cX3_scriptFor 38 = .ok (.iload_n 3, 1) := by decide +kernel
theorem dX3_scriptFor_39 : decode cX3_scriptFor 39 = .ok (.if_icmp .ge 34, 3) := by decide +kernel
theorem dX3_scriptFor_42 : decode cX3_scriptFor 42 = .ok (.aload_n 0, 1) := by decide +kernel
theorem dX3_scriptFor_43 : decode cX3_scriptFor 43 = .ok (.getfield 12, 3) := by decide +kernel
theorem dX3_scriptFor_46 : decode cX3_scriptFor 46 = .ok (.iload 4, 2) := by decide +kernel
theorem dX3_scriptFor_48 : decode cX3_scriptFor 48 = .ok (.invokevirtual 54, 3) := by decide +kernel
theorem dX3_scriptFor_51 : decode cX3_scriptFor 51 = .ok (.iload_n 2, 1) := by decide +kernel
theorem dX3_scriptFor_52 : decode cX3_scriptFor 52 = .ok (.if_icmp .ne 15, 3) := by decide +kernel
theorem dX3_scriptFor_55 : decode cX3_scriptFor 55 = .ok (.aload_n 0, 1) := by decide +kernel
theorem dX3_scriptFor_56 : decode cX3_scriptFor 56 = .ok (.getfield 12, 3) := by decide +kernel
theorem dX3_scriptFor_59 : decode cX3_scriptFor 59 = .ok (.iload 4, 2) := by decide +kernel
theorem dX3_scriptFor_61 : decode cX3_scriptFor 61 = .ok (.iconst 1, 1) := by decide +kernel
theorem dX3_scriptFor_62 : decode cX3_scriptFor 62 = .ok (.iadd, 1) := by decide +kernel
theorem dX3_scriptFor_63 : decode cX3_scriptFor 63 = .ok (.invokevirtual 54, 3) := by decide +kernel
theorem dX3_scriptFor_66 : decode cX3_scriptFor 66 = .ok (.ireturn, 1) := by decide +kernel
theorem dX3_scriptFor_67 : decode cX3_scriptFor 67 = .ok (.iinc 4 2, 3) := by decide +kernel
theorem dX3_scriptFor_70 : decode cX3_scriptFor 70 = .ok (.goto (-34), 3) := by decide +kernel
theorem dX3_scriptFor_73 : decode cX3_scriptFor 73 = .ok (.iconst 0, 1) := by decide +kernel
theorem dX3_scriptFor_74 : decode cX3_scriptFor 74 = .ok (.ireturn, 1) := by decide +kernel
theorem dX6_init_0 : decode cX6_init 0 = .ok (.aload_n 0, 1) := by decide +kernel
theorem dX6_init_1 : decode cX6_init 1 = .ok (.invokespecial 3, 3) := by decide +kernel
theorem dX6_init_4 : decode cX6_init 4 = .ok (.aload_n 0, 1) := by decide +kernel
theorem dX6_init_5 : decode cX6_init 5 = .ok (.iconst 4, 1) := by decide +kernel
theorem dX6_init_6 : decode cX6_init 6 = .ok (.newarray .int, 2) := by decide +kernel
theorem dX6_init_8 : decode cX6_init 8 = .ok (.putfield 9, 3) := by decide +kernel
theorem dX6_init_11 : decode cX6_init 11 = .ok (.return_, 1) := by decide +kernel
theorem dX6_runs_0 : decode cX6_runs 0 = .ok (.aload_n 0, 1) := by decide +kernel
theorem dX6_runs_1 : decode cX6_runs 1 = .ok (.getfield 15, 3) := by decide +kernel
theorem dX6_runs_4 : decode cX6_runs 4 = .ok (.ifCond .eq 7, 3) := by decide +kernel
theorem dX6_runs_7 : decode cX6_runs 7 = .ok (.iconst 1, 1) := by decide +kernel
theorem dX6_runs_8 : decode cX6_runs 8 = .ok (.goto 4, 3) := by decide +kernel
theorem dX6_runs_11 : decode cX6_runs 11 = .ok (.iconst 0, 1) := by decide +kernel
theorem dX6_runs_12 : decode cX6_runs 12 = .ok (.ireturn, 1) := by decide +kernel
theorem dX6_begin_0 : decode cX6_begin 0 = .ok (.aload_n 0, 1) := by decide +kernel
theorem dX6_begin_1 : decode cX6_begin 1 = .ok (.iload_n 1, 1) := by decide +kernel
theorem dX6_begin_2 : decode cX6_begin 2 = .ok (.putfield 15, 3) := by decide +kernel
theorem dX6_begin_5 : decode cX6_begin 5 = .ok (.aload_n 0, 1) := by decide +kernel
theorem dX6_begin_6 : decode cX6_begin 6 = .ok (.iload_n 2, 1) := by decide +kernel
theorem dX6_begin_7 : decode cX6_begin 7 = .ok (.putfield 19, 3) := by decide +kernel
theorem dX6_begin_10 : decode cX6_begin 10 = .ok (.return_, 1) := by decide +kernel
theorem dX6_release_0 : decode cX6_release 0 = .ok (.aload_n 0, 1) := by decide +kernel
theorem dX6_release_1 : decode cX6_release 1 = .ok (.iconst 0, 1) := by decide +kernel
theorem dX6_release_2 : decode cX6_release 2 = .ok (.putfield 15, 3) := by decide +kernel
theorem dX6_release_5 : decode cX6_release 5 = .ok (.aload_n 0, 1) := by decide +kernel
theorem dX6_release_6 : decode cX6_release 6 = .ok (.iconst 0, 1) := by decide +kernel
theorem dX6_release_7 : decode cX6_release 7 = .ok (.putfield 23, 3) := by decide +kernel
theorem dX6_release_10 : decode cX6_release 10 = .ok (.aload_n 0, 1) := by decide +kernel
theorem dX6_release_11 : decode cX6_release 11 = .ok (.iconst 0, 1) := by decide +kernel
theorem dX6_release_12 : decode cX6_release 12 = .ok (.putfield 26, 3) := by decide +kernel
theorem dX6_release_15 : decode cX6_release 15 = .ok (.aload_n 0, 1) := by decide +kernel
theorem dX6_release_16 : decode cX6_release 16 = .ok (.iconst 0, 1) := by decide +kernel
theorem dX6_release_17 : decode cX6_release 17 = .ok (.putfield 29, 3) := by decide +kernel
theorem dX6_release_20 : decode cX6_release 20 = .ok (.aload_n 0, 1) := by decide +kernel
theorem dX6_release_21 : decode cX6_release 21 = .ok (.iconst 0, 1) := by decide +kernel
theorem dX6_release_22 : decode cX6_release 22 = .ok (.putfield 32, 3) := by decide +kernel
theorem dX6_release_25 : decode cX6_release 25 = .ok (.aload_n 0, 1) := by decide +kernel
theorem dX6_release_26 : decode cX6_release 26 = .ok (.iconst 0, 1) := by decide +kernel
theorem dX6_release_27 : decode cX6_release 27 = .ok (.putfield 19, 3) := by decide +kernel
theorem dX6_release_30 : decode cX6_release 30 = .ok (.aload_n 0, 1) := by decide +kernel
theorem dX6_release_31 : decode cX6_release 31 = .ok (.getfield 9, 3) := by decide +kernel
theorem dX6_release_34 : decode cX6_release 34 = .ok (.iconst 0, 1) := by decide +kernel
theorem dX6_release_35 : decode cX6_release 35 = .ok (.invokestatic 35, 3) := by decide +kernel
theorem dX6_release_38 : decode cX6_release 38 = .ok (.return_, 1) := by decide +kernel
theorem dX6_copyFrom_0 : decode cX6_copyFrom 0 = .ok (.aload_n 0, 1) := by decide +kernel
theorem dX6_copyFrom_1 : decode cX6_copyFrom 1 = .ok (.aload_n 1, 1) := by decide +kernel
theorem dX6_copyFrom_2 : decode cX6_copyFrom 2 = .ok (.getfield 15, 3) := by decide +kernel
theorem dX6_copyFrom_5 : decode cX6_copyFrom 5 = .ok (.putfield 15, 3) := by decide +kernel
theorem dX6_copyFrom_8 : decode cX6_copyFrom 8 = .ok (.aload_n 0, 1) := by decide +kernel
theorem dX6_copyFrom_9 : decode cX6_copyFrom 9 = .ok (.aload_n 1, 1) := by decide +kernel
theorem dX6_copyFrom_10 : decode cX6_copyFrom 10 = .ok (.getfield 23, 3) := by decide +kernel
theorem dX6_copyFrom_13 : decode cX6_copyFrom 13 = .ok (.putfield 23, 3) := by decide +kernel
theorem dX6_copyFrom_16 : decode cX6_copyFrom 16 = .ok (.aload_n 0, 1) := by decide +kernel
theorem dX6_copyFrom_17 : decode cX6_copyFrom 17 = .ok (.aload_n 1, 1) := by decide +kernel
theorem dX6_copyFrom_18 : decode cX6_copyFrom 18 = .ok (.getfield 26, 3) := by decide +kernel
theorem dX6_copyFrom_21 : decode cX6_copyFrom 21 = .ok (.putfield 26, 3) := by decide +kernel
theorem dX6_copyFrom_24 : decode cX6_copyFrom 24 = .ok (.aload_n 0, 1) := by decide +kernel
theorem dX6_copyFrom_25 : decode cX6_copyFrom 25 = .ok (.aload_n 1, 1) := by decide +kernel
theorem dX6_copyFrom_26 : decode cX6_copyFrom 26 = .ok (.getfield 29, 3) := by decide +kernel
theorem dX6_copyFrom_29 : decode cX6_copyFrom 29 = .ok (.putfield 29, 3) := by decide +kernel
theorem dX6_copyFrom_32 : decode cX6_copyFrom 32 = .ok (.aload_n 0, 1) := by decide +kernel
theorem dX6_copyFrom_33 : decode cX6_copyFrom 33 = .ok (.aload_n 1, 1) := by decide +kernel
theorem dX6_copyFrom_34 : decode cX6_copyFrom 34 = .ok (.getfield 32, 3) := by decide +kernel
theorem dX6_copyFrom_37 : decode cX6_copyFrom 37 = .ok (.putfield 32, 3) := by decide +kernel
theorem dX6_copyFrom_40 : decode cX6_copyFrom 40 = .ok (.aload_n 0, 1) := by decide +kernel
theorem dX6_copyFrom_41 : decode cX6_copyFrom 41 = .ok (.aload_n 1, 1) := by decide +kernel
theorem dX6_copyFrom_42 : decode cX6_copyFrom 42 = .ok (.getfield 19, 3) := by decide +kernel
theorem dX6_copyFrom_45 : decode cX6_copyFrom 45 = .ok (.putfield 19, 3) := by decide +kernel
theorem dX6_copyFrom_48 : decode cX6_copyFrom 48 = .ok (.aload_n 1, 1) := by decide +kernel
theorem dX6_copyFrom_49 : decode cX6_copyFrom 49 = .ok (.getfield 9, 3) := by decide +kernel
theorem dX6_copyFrom_52 : decode cX6_copyFrom 52 = .ok (.iconst 0, 1) := by decide +kernel
theorem dX6_copyFrom_53 : decode cX6_copyFrom 53 = .ok (.aload_n 0, 1) := by decide +kernel
theorem dX6_copyFrom_54 : decode cX6_copyFrom 54 = .ok (.getfield 9, 3) := by decide +kernel
theorem dX6_copyFrom_57 : decode cX6_copyFrom 57 = .ok (.iconst 0, 1) := by decide +kernel
theorem dX6_copyFrom_58 : decode cX6_copyFrom 58 = .ok (.iconst 4, 1) := by decide +kernel
theorem dX6_copyFrom_59 : decode cX6_copyFrom 59 = .ok (.invokestatic 41, 3) := by decide +kernel
theorem dX6_copyFrom_62 : decode cX6_copyFrom 62 = .ok (.return_, 1) := by decide +kernel
theorem dX6_number_0 : decode cX6_number 0 = .ok (.iload_n 1, 1) := by decide +kernel
theorem dX6_number_1 : decode cX6_number 1 = .ok (.tableswitch 85 0 5 #[39, 44, 49, 54, 59, 72], 39) := by decide +kernel
theorem dX6_number_40 : decode cX6_number 40 = .ok (.aload_n 0, 1) := by decide +kernel
theorem dX6_number_41 : decode cX6_number 41 = .ok (.getfield 15, 3) := by decide +kernel
theorem dX6_number_44 : decode cX6_number 44 = .ok (.ireturn, 1) := by decide +kernel
theorem dX6_number_45 : decode cX6_number 45 = .ok (.aload_n 0, 1) := by decide +kernel
theorem dX6_number_46 : decode cX6_number 46 = .ok (.getfield 23, 3) := by decide +kernel
theorem dX6_number_49 : decode cX6_number 49 = .ok (.ireturn, 1) := by decide +kernel
theorem dX6_number_50 : decode cX6_number 50 = .ok (.aload_n 0, 1) := by decide +kernel
theorem dX6_number_51 : decode cX6_number 51 = .ok (.getfield 26, 3) := by decide +kernel
theorem dX6_number_54 : decode cX6_number 54 = .ok (.ireturn, 1) := by decide +kernel
theorem dX6_number_55 : decode cX6_number 55 = .ok (.aload_n 0, 1) := by decide +kernel
theorem dX6_number_56 : decode cX6_number 56 = .ok (.getfield 29, 3) := by decide +kernel
theorem dX6_number_59 : decode cX6_number 59 = .ok (.ireturn, 1) := by decide +kernel
theorem dX6_number_60 : decode cX6_number 60 = .ok (.aload_n 0, 1) := by decide +kernel
theorem dX6_number_61 : decode cX6_number 61 = .ok (.getfield 32, 3) := by decide +kernel
theorem dX6_number_64 : decode cX6_number 64 = .ok (.ifCond .eq 7, 3) := by decide +kernel
theorem dX6_number_67 : decode cX6_number 67 = .ok (.iconst 1, 1) := by decide +kernel
theorem dX6_number_68 : decode cX6_number 68 = .ok (.goto 4, 3) := by decide +kernel
theorem dX6_number_71 : decode cX6_number 71 = .ok (.iconst 0, 1) := by decide +kernel
theorem dX6_number_72 : decode cX6_number 72 = .ok (.ireturn, 1) := by decide +kernel
theorem dX6_number_73 : decode cX6_number 73 = .ok (.aload_n 0, 1) := by decide +kernel
theorem dX6_number_74 : decode cX6_number 74 = .ok (.getfield 19, 3) := by decide +kernel
theorem dX6_number_77 : decode cX6_number 77 = .ok (.ifCond .eq 7, 3) := by decide +kernel
theorem dX6_number_80 : decode cX6_number 80 = .ok (.iconst 1, 1) := by decide +kernel
theorem dX6_number_81 : decode cX6_number 81 = .ok (.goto 4, 3) := by decide +kernel
theorem dX6_number_84 : decode cX6_number 84 = .ok (.iconst 0, 1) := by decide +kernel
theorem dX6_number_85 : decode cX6_number 85 = .ok (.ireturn, 1) := by decide +kernel
theorem dX6_number_86 : decode cX6_number 86 = .ok (.iload_n 1, 1) := by decide +kernel
theorem dX6_number_87 : decode cX6_number 87 = .ok (.bipush 6, 2) := by decide +kernel
theorem dX6_number_89 : decode cX6_number 89 = .ok (.if_icmp .lt 21, 3) := by decide +kernel
theorem dX6_number_92 : decode cX6_number 92 = .ok (.iload_n 1, 1) := by decide +kernel
theorem dX6_number_93 : decode cX6_number 93 = .ok (.bipush 10, 2) := by decide +kernel
theorem dX6_number_95 : decode cX6_number 95 = .ok (.if_icmp .ge 15, 3) := by decide +kernel
theorem dX6_number_98 : decode cX6_number 98 = .ok (.aload_n 0, 1) := by decide +kernel
theorem dX6_number_99 : decode cX6_number 99 = .ok (.getfield 9, 3) := by decide +kernel
theorem dX6_number_102 : decode cX6_number 102 = .ok (.iload_n 1, 1) := by decide +kernel
theorem dX6_number_103 : decode cX6_number 103 = .ok (.bipush 6, 2) := by decide +kernel
theorem dX6_number_105 : decode cX6_number 105 = .ok (.isub, 1) := by decide +kernel
theorem dX6_number_106 : decode cX6_number 106 = .ok (.iaload, 1) := by decide +kernel
theorem dX6_number_107 : decode cX6_number 107 = .ok (.goto 4, 3) := by decide +kernel
theorem dX6_number_110 : decode cX6_number 110 = .ok (.iconst (-1), 1) := by decide +kernel
theorem dX6_number_111 : decode cX6_number 111 = .ok (.ireturn, 1) := by decide +kernel
theorem dX8_init_0 : decode cX8_init 0 = .ok (.aload_n 0, 1) := by decide +kernel
theorem dX8_init_1 : decode cX8_init 1 = .ok (.invokespecial 3, 3) := by decide +kernel
theorem dX8_init_4 : decode cX8_init 4 = .ok (.aload_n 0, 1) := by decide +kernel
theorem dX8_init_5 : decode cX8_init 5 = .ok (.sipush 1500, 3) := by decide +kernel
theorem dX8_init_8 : decode cX8_init 8 = .ok (.newarray .int, 2) := by decide +kernel
theorem dX8_init_10 : decode cX8_init 10 = .ok (.putfield 9, 3) := by decide +kernel
theorem dX8_init_13 : decode cX8_init 13 = .ok (.return_, 1) := by decide +kernel
theorem dX8_at_0 : decode cX8_at 0 = .ok (.iload_n 1, 1) := by decide +kernel
theorem dX8_at_1 : decode cX8_at 1 = .ok (.ifCond .lt 11, 3) := by decide +kernel
theorem dX8_at_4 : decode cX8_at 4 = .ok (.iload_n 1, 1) := by decide +kernel
theorem dX8_at_5 : decode cX8_at 5 = .ok (.aload_n 0, 1) := by decide +kernel
theorem dX8_at_6 : decode cX8_at 6 = .ok (.getfield 15, 3) := by decide +kernel
theorem dX8_at_9 : decode cX8_at 9 = .ok (.if_icmp .lt 5, 3) := by decide +kernel
theorem dX8_at_12 : decode cX8_at 12 = .ok (.iconst (-1), 1) := by decide +kernel
theorem dX8_at_13 : decode cX8_at 13 = .ok (.ireturn, 1) := by decide +kernel
theorem dX8_at_14 : decode cX8_at 14 = .ok (.aload_n 0, 1) := by decide +kernel
theorem dX8_at_15 : decode cX8_at 15 = .ok (.getfield 9, 3) := by decide +kernel
theorem dX8_at_18 : decode cX8_at 18 = .ok (.iload_n 1, 1) := by decide +kernel
theorem dX8_at_19 : decode cX8_at 19 = .ok (.iconst 2, 1) := by decide +kernel
theorem dX8_at_20 : decode cX8_at 20 = .ok (.ishr, 1) := by decide +kernel
theorem dX8_at_21 : decode cX8_at 21 = .ok (.iaload, 1) := by decide +kernel
theorem dX8_at_22 : decode cX8_at 22 = .ok (.bipush 24, 2) := by decide +kernel
theorem dX8_at_24 : decode cX8_at 24 = .ok (.bipush 8, 2) := by decide +kernel
theorem dX8_at_26 : decode cX8_at 26 = .ok (.iload_n 1, 1) := by decide +kernel
theorem dX8_at_27 : decode cX8_at 27 = .ok (.iconst 3, 1) := by decide +kernel
theorem dX8_at_28 : decode cX8_at 28 = .ok (.iand, 1) := by decide +kernel
theorem dX8_at_29 : decode cX8_at 29 = .ok (.imul, 1) := by decide +kernel
theorem dX8_at_30 : decode cX8_at 30 = .ok (.isub, 1) := by decide +kernel
theorem dX8_at_31 : decode cX8_at 31 = .ok (.iushr, 1) := by decide +kernel
theorem dX8_at_32 : decode cX8_at 32 = .ok (.sipush 255, 3) := by decide +kernel
theorem dX8_at_35 : decode cX8_at 35 = .ok (.iand, 1) := by decide +kernel
theorem dX8_at_36 : decode cX8_at 36 = .ok (.ireturn, 1) := by decide +kernel
theorem dX8_addNumber_0 : decode cX8_addNumber 0 = .ok (.bipush 24, 2) := by decide +kernel
theorem dX8_addNumber_2 : decode cX8_addNumber 2 = .ok (.istore_n 2, 1) := by decide +kernel
theorem dX8_addNumber_3 : decode cX8_addNumber 3 = .ok (.iload_n 2, 1) := by decide +kernel
theorem dX8_addNumber_4 : decode cX8_addNumber 4 = .ok (.ifCond .lt 20, 3) := by decide +kernel
theorem dX8_addNumber_7 : decode cX8_addNumber 7 = .ok (.aload_n 0, 1) := by decide +kernel
theorem dX8_addNumber_8 : decode cX8_addNumber 8 = .ok (.iload_n 1, 1) := by decide +kernel
theorem dX8_addNumber_9 : decode cX8_addNumber 9 = .ok (.iload_n 2, 1) := by decide +kernel
theorem dX8_addNumber_10 : decode cX8_addNumber 10 = .ok (.iushr, 1) := by decide +kernel
theorem dX8_addNumber_11 : decode cX8_addNumber 11 = .ok (.sipush 255, 3) := by decide +kernel
theorem dX8_addNumber_14 : decode cX8_addNumber 14 = .ok (.iand, 1) := by decide +kernel
theorem dX8_addNumber_15 : decode cX8_addNumber 15 = .ok (.invokevirtual 19, 3) := by decide +kernel
theorem dX8_addNumber_18 : decode cX8_addNumber 18 = .ok (.iinc 2 (-8), 3) := by decide +kernel
theorem dX8_addNumber_21 : decode cX8_addNumber 21 = .ok (.goto (-18), 3) := by decide +kernel
theorem dX8_addNumber_24 : decode cX8_addNumber 24 = .ok (.return_, 1) := by decide +kernel
theorem dX8_cut_0 : decode cX8_cut 0 = .ok (.iload_n 1, 1) := by decide +kernel
theorem dX8_cut_1 : decode cX8_cut 1 = .ok (.ifCond .lt 11, 3) := by decide +kernel
theorem dX8_cut_4 : decode cX8_cut 4 = .ok (.iload_n 1, 1) := by decide +kernel
theorem dX8_cut_5 : decode cX8_cut 5 = .ok (.aload_n 0, 1) := by decide +kernel
theorem dX8_cut_6 : decode cX8_cut 6 = .ok (.getfield 15, 3) := by decide +kernel
theorem dX8_cut_9 : decode cX8_cut 9 = .ok (.if_icmp .le 5, 3) := by decide +kernel
theorem dX8_cut_12 : decode cX8_cut 12 = .ok (.iconst 0, 1) := by decide +kernel
theorem dX8_cut_13 : decode cX8_cut 13 = .ok (.ireturn, 1) := by decide +kernel
theorem dX8_cut_14 : decode cX8_cut 14 = .ok (.aload_n 0, 1) := by decide +kernel
theorem dX8_cut_15 : decode cX8_cut 15 = .ok (.iload_n 1, 1) := by decide +kernel
theorem dX8_cut_16 : decode cX8_cut 16 = .ok (.putfield 15, 3) := by decide +kernel
theorem dX8_cut_19 : decode cX8_cut 19 = .ok (.iconst 1, 1) := by decide +kernel
theorem dX8_cut_20 : decode cX8_cut 20 = .ok (.ireturn, 1) := by decide +kernel
theorem dX8_copyFrom_0 : decode cX8_copyFrom 0 = .ok (.aload_n 1, 1) := by decide +kernel
theorem dX8_copyFrom_1 : decode cX8_copyFrom 1 = .ok (.getfield 9, 3) := by decide +kernel
theorem dX8_copyFrom_4 : decode cX8_copyFrom 4 = .ok (.iconst 0, 1) := by decide +kernel
theorem dX8_copyFrom_5 : decode cX8_copyFrom 5 = .ok (.aload_n 0, 1) := by decide +kernel
theorem dX8_copyFrom_6 : decode cX8_copyFrom 6 = .ok (.getfield 9, 3) := by decide +kernel
theorem dX8_copyFrom_9 : decode cX8_copyFrom 9 = .ok (.iconst 0, 1) := by decide +kernel
theorem dX8_copyFrom_10 : decode cX8_copyFrom 10 = .ok (.sipush 1500, 3) := by decide +kernel
theorem dX8_copyFrom_13 : decode cX8_copyFrom 13 = .ok (.invokestatic 23, 3) := by decide +kernel
theorem dX8_copyFrom_16 : decode cX8_copyFrom 16 = .ok (.aload_n 0, 1) := by decide +kernel
theorem dX8_copyFrom_17 : decode cX8_copyFrom 17 = .ok (.aload_n 1, 1) := by decide +kernel
theorem dX8_copyFrom_18 : decode cX8_copyFrom 18 = .ok (.getfield 15, 3) := by decide +kernel
theorem dX8_copyFrom_21 : decode cX8_copyFrom 21 = .ok (.putfield 15, 3) := by decide +kernel
theorem dX8_copyFrom_24 : decode cX8_copyFrom 24 = .ok (.return_, 1) := by decide +kernel
theorem dX8_add_0 : decode cX8_add 0 = .ok (.aload_n 0, 1) := by decide +kernel
theorem dX8_add_1 : decode cX8_add 1 = .ok (.getfield 15, 3) := by decide +kernel
theorem dX8_add_4 : decode cX8_add 4 = .ok (.sipush 6000, 3) := by decide +kernel
theorem dX8_add_7 : decode cX8_add 7 = .ok (.if_icmp .lt 4, 3) := by decide +kernel
theorem dX8_add_10 : decode cX8_add 10 = .ok (.return_, 1) := by decide +kernel
theorem dX8_add_11 : decode cX8_add 11 = .ok (.bipush 24, 2) := by decide +kernel
theorem dX8_add_13 : decode cX8_add 13 = .ok (.bipush 8, 2) := by decide +kernel
theorem dX8_add_15 : decode cX8_add 15 = .ok (.aload_n 0, 1) := by decide +kernel
theorem dX8_add_16 : decode cX8_add 16 = .ok (.getfield 15, 3) := by decide +kernel
theorem dX8_add_19 : decode cX8_add 19 = .ok (.iconst 3, 1) := by decide +kernel
theorem dX8_add_20 : decode cX8_add 20 = .ok (.iand, 1) := by decide +kernel
theorem dX8_add_21 : decode cX8_add 21 = .ok (.imul, 1) := by decide +kernel
theorem dX8_add_22 : decode cX8_add 22 = .ok (.isub, 1) := by decide +kernel
theorem dX8_add_23 : decode cX8_add 23 = .ok (.istore_n 2, 1) := by decide +kernel
theorem dX8_add_24 : decode cX8_add 24 = .ok (.aload_n 0, 1) := by decide +kernel
theorem dX8_add_25 : decode cX8_add 25 = .ok (.getfield 9, 3) := by decide +kernel
theorem dX8_add_28 : decode cX8_add 28 = .ok (.aload_n 0, 1) := by decide +kernel
theorem dX8_add_29 : decode cX8_add 29 = .ok (.getfield 15, 3) := by decide +kernel
theorem dX8_add_32 : decode cX8_add 32 = .ok (.iconst 2, 1) := by decide +kernel
theorem dX8_add_33 : decode cX8_add 33 = .ok (.ishr, 1) := by decide +kernel
theorem dX8_add_34 : decode cX8_add 34 = .ok (.iaload, 1) := by decide +kernel
theorem dX8_add_35 : decode cX8_add 35 = .ok (.sipush 255, 3) := by decide +kernel
theorem dX8_add_38 : decode cX8_add 38 = .ok (.iload_n 2, 1) := by decide +kernel
theorem dX8_add_39 : decode cX8_add 39 = .ok (.ishl, 1) := by decide +kernel
theorem dX8_add_40 : decode cX8_add 40 = .ok (.iconst (-1), 1) := by decide +kernel
theorem dX8_add_41 : decode cX8_add 41 = .ok (.ixor, 1) := by decide +kernel
theorem dX8_add_42 : decode cX8_add 42 = .ok (.iand, 1) := by decide +kernel
theorem dX8_add_43 : decode cX8_add 43 = .ok (.istore_n 3, 1) := by decide +kernel
theorem dX8_add_44 : decode cX8_add 44 = .ok (.aload_n 0, 1) := by decide +kernel
theorem dX8_add_45 : decode cX8_add 45 = .ok (.getfield 9, 3) := by decide +kernel
theorem dX8_add_48 : decode cX8_add 48 = .ok (.aload_n 0, 1) := by decide +kernel
theorem dX8_add_49 : decode cX8_add 49 = .ok (.getfield 15, 3) := by decide +kernel
theorem dX8_add_52 : decode cX8_add 52 = .ok (.iconst 2, 1) := by decide +kernel
theorem dX8_add_53 : decode cX8_add 53 = .ok (.ishr, 1) := by decide +kernel
theorem dX8_add_54 : decode cX8_add 54 = .ok (.iload_n 3, 1) := by decide +kernel
theorem dX8_add_55 : decode cX8_add 55 = .ok (.iload_n 1, 1) := by decide +kernel
theorem dX8_add_56 : decode cX8_add 56 = .ok (.iload_n 2, 1) := by decide +kernel
theorem dX8_add_57 : decode cX8_add 57 = .ok (.ishl, 1) := by decide +kernel
theorem dX8_add_58 : decode cX8_add 58 = .ok (.ior, 1) := by decide +kernel
theorem dX8_add_59 : decode cX8_add 59 = .ok (.iastore, 1) := by decide +kernel
theorem dX8_add_60 : decode cX8_add 60 = .ok (.aload_n 0, 1) := by decide +kernel
theorem dX8_add_61 : decode cX8_add 61 = .ok (.dup, 1) := by decide +kernel
theorem dX8_add_62 : decode cX8_add 62 = .ok (.getfield 15, 3) := by decide +kernel
theorem dX8_add_65 : decode cX8_add 65 = .ok (.iconst 1, 1) := by decide +kernel
theorem dX8_add_66 : decode cX8_add 66 = .ok (.iadd, 1) := by decide +kernel
theorem dX8_add_67 : decode cX8_add 67 = .ok (.putfield 15, 3) := by decide +kernel
theorem dX8_add_70 : decode cX8_add 70 = .ok (.return_, 1) := by decide +kernel
theorem dJ6_compare_7cf53_0 : decode cJ6_compare_7cf53 0 = .ok (.iload_n 0, 1) := by decide +kernel
theorem dJ6_compare_7cf53_1 : decode cJ6_compare_7cf53 1 = .ok (.iload_n 1, 1) := by decide +kernel
theorem dJ6_compare_7cf53_2 : decode cJ6_compare_7cf53 2 = .ok (.if_icmp .ge 7, 3) := by decide +kernel
theorem dJ6_compare_7cf53_5 : decode cJ6_compare_7cf53 5 = .ok (.iconst (-1), 1) := by decide +kernel
theorem dJ6_compare_7cf53_6 : decode cJ6_compare_7cf53 6 = .ok (.goto 13, 3) := by decide +kernel
theorem dJ6_compare_7cf53_9 : decode cJ6_compare_7cf53 9 = .ok (.iload_n 0, 1) := by decide +kernel
theorem dJ6_compare_7cf53_10 : decode cJ6_compare_7cf53 10 = .ok (.iload_n 1, 1) := by decide +kernel
theorem dJ6_compare_7cf53_11 : decode cJ6_compare_7cf53 11 = .ok (.if_icmp .ne 7, 3) := by decide +kernel
theorem dJ6_compare_7cf53_14 : decode cJ6_compare_7cf53 14 = .ok (.iconst 0, 1) := by decide +kernel
theorem dJ6_compare_7cf53_15 : decode cJ6_compare_7cf53 15 = .ok (.goto 4, 3) := by decide +kernel
theorem dJ6_compare_7cf53_18 : decode cJ6_compare_7cf53 18 = .ok (.iconst 1, 1) := by decide +kernel
theorem dJ6_compare_7cf53_19 : decode cJ6_compare_7cf53 19 = .ok (.ireturn, 1) := by decide +kernel
theorem dJ6_signum_0f7a4_0 : decode cJ6_signum_0f7a4 0 = .ok (.iload_n 0, 1) := by decide +kernel
theorem dJ6_signum_0f7a4_1 : decode cJ6_signum_0f7a4 1 = .ok (.bipush 31, 2) := by decide +kernel
theorem dJ6_signum_0f7a4_3 : decode cJ6_signum_0f7a4 3 = .ok (.ishr, 1) := by decide +kernel
theorem dJ6_signum_0f7a4_4 : decode cJ6_signum_0f7a4 4 = .ok (.iload_n 0, 1) := by decide +kernel
theorem dJ6_signum_0f7a4_5 : decode cJ6_signum_0f7a4 5 = .ok (.ineg, 1) := by decide +kernel
theorem dJ6_signum_0f7a4_6 : decode cJ6_signum_0f7a4 6 = .ok (.bipush 31, 2) := by decide +kernel
theorem dJ6_signum_0f7a4_8 : decode cJ6_signum_0f7a4 8 = .ok (.iushr, 1) := by decide +kernel
theorem dJ6_signum_0f7a4_9 : decode cJ6_signum_0f7a4 9 = .ok (.ior, 1) := by decide +kernel
theorem dJ6_signum_0f7a4_10 : decode cJ6_signum_0f7a4 10 = .ok (.ireturn, 1) := by decide +kernel
theorem dJ9_floorMod_7cf53_0 : decode cJ9_floorMod_7cf53 0 = .ok (.iload_n 0, 1) := by decide +kernel
theorem dJ9_floorMod_7cf53_1 : decode cJ9_floorMod_7cf53 1 = .ok (.iload_n 1, 1) := by decide +kernel
theorem dJ9_floorMod_7cf53_2 : decode cJ9_floorMod_7cf53 2 = .ok (.irem, 1) := by decide +kernel
theorem dJ9_floorMod_7cf53_3 : decode cJ9_floorMod_7cf53 3 = .ok (.istore_n 2, 1) := by decide +kernel
theorem dJ9_floorMod_7cf53_4 : decode cJ9_floorMod_7cf53 4 = .ok (.iload_n 0, 1) := by decide +kernel
theorem dJ9_floorMod_7cf53_5 : decode cJ9_floorMod_7cf53 5 = .ok (.iload_n 1, 1) := by decide +kernel
theorem dJ9_floorMod_7cf53_6 : decode cJ9_floorMod_7cf53 6 = .ok (.ixor, 1) := by decide +kernel
theorem dJ9_floorMod_7cf53_7 : decode cJ9_floorMod_7cf53 7 = .ok (.ifCond .ge 11, 3) := by decide +kernel
theorem dJ9_floorMod_7cf53_10 : decode cJ9_floorMod_7cf53 10 = .ok (.iload_n 2, 1) := by decide +kernel
theorem dJ9_floorMod_7cf53_11 : decode cJ9_floorMod_7cf53 11 = .ok (.ifCond .eq 7, 3) := by decide +kernel
theorem dJ9_floorMod_7cf53_14 : decode cJ9_floorMod_7cf53 14 = .ok (.iload_n 2, 1) := by decide +kernel
theorem dJ9_floorMod_7cf53_15 : decode cJ9_floorMod_7cf53 15 = .ok (.iload_n 1, 1) := by decide +kernel
theorem dJ9_floorMod_7cf53_16 : decode cJ9_floorMod_7cf53 16 = .ok (.iadd, 1) := by decide +kernel
theorem dJ9_floorMod_7cf53_17 : decode cJ9_floorMod_7cf53 17 = .ok (.ireturn, 1) := by decide +kernel
theorem dJ9_floorMod_7cf53_18 : decode cJ9_floorMod_7cf53 18 = .ok (.iload_n 2, 1) := by decide +kernel
theorem dJ9_floorMod_7cf53_19 : decode cJ9_floorMod_7cf53 19 = .ok (.ireturn, 1) := by decide +kernel
theorem dJ9_abs_0f7a4_0 : decode cJ9_abs_0f7a4 0 = .ok (.iload_n 0, 1) := by decide +kernel
theorem dJ9_abs_0f7a4_1 : decode cJ9_abs_0f7a4 1 = .ok (.ifCond .ge 8, 3) := by decide +kernel
theorem dJ9_abs_0f7a4_4 : decode cJ9_abs_0f7a4 4 = .ok (.iload_n 0, 1) := by decide +kernel
theorem dJ9_abs_0f7a4_5 : decode cJ9_abs_0f7a4 5 = .ok (.ineg, 1) := by decide +kernel
theorem dJ9_abs_0f7a4_6 : decode cJ9_abs_0f7a4 6 = .ok (.goto 4, 3) := by decide +kernel
theorem dJ9_abs_0f7a4_9 : decode cJ9_abs_0f7a4 9 = .ok (.iload_n 0, 1) := by decide +kernel
theorem dJ9_abs_0f7a4_10 : decode cJ9_abs_0f7a4 10 = .ok (.ireturn, 1) := by decide +kernel
theorem dJ9_max_7cf53_0 : decode cJ9_max_7cf53 0 = .ok (.iload_n 0, 1) := by decide +kernel
theorem dJ9_max_7cf53_1 : decode cJ9_max_7cf53 1 = .ok (.iload_n 1, 1) := by decide +kernel
theorem dJ9_max_7cf53_2 : decode cJ9_max_7cf53 2 = .ok (.if_icmp .lt 7, 3) := by decide +kernel
theorem dJ9_max_7cf53_5 : decode cJ9_max_7cf53 5 = .ok (.iload_n 0, 1) := by decide +kernel
theorem dJ9_max_7cf53_6 : decode cJ9_max_7cf53 6 = .ok (.goto 4, 3) := by decide +kernel
theorem dJ9_max_7cf53_9 : decode cJ9_max_7cf53 9 = .ok (.iload_n 1, 1) := by decide +kernel
theorem dJ9_max_7cf53_10 : decode cJ9_max_7cf53 10 = .ok (.ireturn, 1) := by decide +kernel
theorem dJ9_min_7cf53_0 : decode cJ9_min_7cf53 0 = .ok (.iload_n 0, 1) := by decide +kernel
theorem dJ9_min_7cf53_1 : decode cJ9_min_7cf53 1 = .ok (.iload_n 1, 1) := by decide +kernel
theorem dJ9_min_7cf53_2 : decode cJ9_min_7cf53 2 = .ok (.if_icmp .gt 7, 3) := by decide +kernel
theorem dJ9_min_7cf53_5 : decode cJ9_min_7cf53 5 = .ok (.iload_n 0, 1) := by decide +kernel
theorem dJ9_min_7cf53_6 : decode cJ9_min_7cf53 6 = .ok (.goto 4, 3) := by decide +kernel
theorem dJ9_min_7cf53_9 : decode cJ9_min_7cf53 9 = .ok (.iload_n 1, 1) := by decide +kernel
theorem dJ9_min_7cf53_10 : decode cJ9_min_7cf53 10 = .ok (.ireturn, 1) := by decide +kernel
theorem dJ7_fill_53178_0 : decode cJ7_fill_53178 0 = .ok (.iconst 0, 1) := by decide +kernel
theorem dJ7_fill_53178_1 : decode cJ7_fill_53178 1 = .ok (.istore_n 2, 1) := by decide +kernel
theorem dJ7_fill_53178_2 : decode cJ7_fill_53178 2 = .ok (.aload_n 0, 1) := by decide +kernel
theorem dJ7_fill_53178_3 : decode cJ7_fill_53178 3 = .ok (.arraylength, 1) := by decide +kernel
theorem dJ7_fill_53178_4 : decode cJ7_fill_53178 4 = .ok (.istore_n 3, 1) := by decide +kernel
theorem dJ7_fill_53178_5 : decode cJ7_fill_53178 5 = .ok (.iload_n 2, 1) := by decide +kernel
theorem dJ7_fill_53178_6 : decode cJ7_fill_53178 6 = .ok (.iload_n 3, 1) := by decide +kernel
theorem dJ7_fill_53178_7 : decode cJ7_fill_53178 7 = .ok (.if_icmp .ge 13, 3) := by decide +kernel
theorem dJ7_fill_53178_10 : decode cJ7_fill_53178 10 = .ok (.aload_n 0, 1) := by decide +kernel
theorem dJ7_fill_53178_11 : decode cJ7_fill_53178 11 = .ok (.iload_n 2, 1) := by decide +kernel
theorem dJ7_fill_53178_12 : decode cJ7_fill_53178 12 = .ok (.iload_n 1, 1) := by decide +kernel
theorem dJ7_fill_53178_13 : decode cJ7_fill_53178 13 = .ok (.iastore, 1) := by decide +kernel
theorem dJ7_fill_53178_14 : decode cJ7_fill_53178 14 = .ok (.iinc 2 1, 3) := by decide +kernel
theorem dJ7_fill_53178_17 : decode cJ7_fill_53178 17 = .ok (.goto (-12), 3) := by decide +kernel
theorem dJ7_fill_53178_20 : decode cJ7_fill_53178 20 = .ok (.return_, 1) := by decide +kernel
