theorem dX5_init_0 : decode cX5_init 0 = .ok (.aload_n 0, 1) := by decide +kernel
theorem dX5_init_1 : decode cX5_init 1 = .ok (.invokespecial 3, 3) := by decide +kernel
theorem dX5_init_4 : decode cX5_init 4 = .ok (.aload_n 0, 1) := by decide +kernel
theorem dX5_init_5 : decode cX5_init 5 = .ok (.iconst 4, 1) := by decide +kernel
theorem dX5_init_6 : decode cX5_init 6 = .ok (.newarray .int, 2) := by decide +kernel
theorem dX5_init_8 : decode cX5_init 8 = .ok (.putfield 9, 3) := by decide +kernel
theorem dX5_init_11 : decode cX5_init 11 = .ok (.aload_n 0, 1) := by decide +kernel
theorem dX5_init_12 : decode cX5_init 12 = .ok (.aload_n 1, 1) := by decide +kernel
theorem dX5_init_13 : decode cX5_init 13 = .ok (.putfield 15, 3) := by decide +kernel
theorem dX5_init_16 : decode cX5_init 16 = .ok (.aload_n 0, 1) := by decide +kernel
theorem dX5_init_17 : decode cX5_init 17 = .ok (.aload_n 2, 1) := by decide +kernel
theorem dX5_init_18 : decode cX5_init 18 = .ok (.putfield 19, 3) := by decide +kernel
theorem dX5_init_21 : decode cX5_init 21 = .ok (.aload_n 0, 1) := by decide +kernel
theorem dX5_init_22 : decode cX5_init 22 = .ok (.aload_n 3, 1) := by decide +kernel
theorem dX5_init_23 : decode cX5_init 23 = .ok (.putfield 23, 3) := by decide +kernel
theorem dX5_init_26 : decode cX5_init 26 = .ok (.aload_n 0, 1) := by decide +kernel
theorem dX5_init_27 : decode cX5_init 27 = .ok (.aload 4, 2) := by decide +kernel
theorem dX5_init_29 : decode cX5_init 29 = .ok (.putfield 27, 3) := by decide +kernel
theorem dX5_init_32 : decode cX5_init 32 = .ok (.return_, 1) := by decide +kernel
theorem dX5_beat_0 : decode cX5_beat 0 = .ok (.aload_n 0, 1) := by decide +kernel
theorem dX5_beat_1 : decode cX5_beat 1 = .ok (.getfield 23, 3) := by decide +kernel
theorem dX5_beat_4 : decode cX5_beat 4 = .ok (.dup, 1) := by decide +kernel
theorem dX5_beat_5 : decode cX5_beat 5 = .ok (.getfield 31, 3) := by decide +kernel
theorem dX5_beat_8 : decode cX5_beat 8 = .ok (.iconst 1, 1) := by decide +kernel
theorem dX5_beat_9 : decode cX5_beat 9 = .ok (.iadd, 1) := by decide +kernel
theorem dX5_beat_10 : decode cX5_beat 10 = .ok (.putfield 31, 3) := by decide +kernel
theorem dX5_beat_13 : decode cX5_beat 13 = .ok (.aload_n 0, 1) := by decide +kernel
theorem dX5_beat_14 : decode cX5_beat 14 = .ok (.getfield 23, 3) := by decide +kernel
theorem dX5_beat_17 : decode cX5_beat 17 = .ok (.getfield 37, 3) := by decide +kernel
theorem dX5_beat_20 : decode cX5_beat 20 = .ok (.iconst 0, 1) := by decide +kernel
theorem dX5_beat_21 : decode cX5_beat 21 = .ok (.aload_n 0, 1) := by decide +kernel
theorem dX5_beat_22 : decode cX5_beat 22 = .ok (.getfield 23, 3) := by decide +kernel
theorem dX5_beat_25 : decode cX5_beat 25 = .ok (.getfield 31, 3) := by decide +kernel
theorem dX5_beat_28 : decode cX5_beat 28 = .ok (.iastore, 1) := by decide +kernel
theorem dX5_beat_29 : decode cX5_beat 29 = .ok (.aload_n 0, 1) := by decide +kernel
theorem dX5_beat_30 : decode cX5_beat 30 = .ok (.getfield 23, 3) := by decide +kernel
theorem dX5_beat_33 : decode cX5_beat 33 = .ok (.getfield 40, 3) := by decide +kernel
theorem dX5_beat_36 : decode cX5_beat 36 = .ok (.ifCond .le 17, 3) := by decide +kernel
theorem dX5_beat_39 : decode cX5_beat 39 = .ok (.aload_n 0, 1) := by decide +kernel
theorem dX5_beat_40 : decode cX5_beat 40 = .ok (.getfield 23, 3) := by decide +kernel
theorem dX5_beat_43 : decode cX5_beat 43 = .ok (.invokevirtual 43, 3) := by decide +kernel
theorem dX5_beat_46 : decode cX5_beat 46 = .ok (.ifCond .ne 7, 3) := by decide +kernel
theorem dX5_beat_49 : decode cX5_beat 49 = .ok (.aload_n 0, 1) := by decide +kernel
theorem dX5_beat_50 : decode cX5_beat 50 = .ok (.invokevirtual 47, 3) := by decide +kernel
theorem dX5_beat_53 : decode cX5_beat 53 = .ok (.iconst 0, 1) := by decide +kernel
theorem dX5_beat_54 : decode cX5_beat 54 = .ok (.istore_n 1, 1) := by decide +kernel
theorem dX5_beat_55 : decode cX5_beat 55 = .ok (.iconst 0, 1) := by decide +kernel
theorem dX5_beat_56 : decode cX5_beat 56 = .ok (.istore_n 2, 1) := by decide +kernel
theorem dX5_beat_57 : decode cX5_beat 57 = .ok (.iload_n 2, 1) := by decide +kernel
theorem dX5_beat_58 : decode cX5_beat 58 = .ok (.bipush 8, 2) := by decide +kernel
theorem dX5_beat_60 : decode cX5_beat 60 = .ok (.if_icmp .ge 25, 3) := by decide +kernel
theorem dX5_beat_63 : decode cX5_beat 63 = .ok (.iload_n 1, 1) := by decide +kernel
theorem dX5_beat_64 : decode cX5_beat 64 = .ok (.aload_n 0, 1) := by decide +kernel
theorem dX5_beat_65 : decode cX5_beat 65 = .ok (.aload_n 0, 1) := by decide +kernel
theorem dX5_beat_66 : decode cX5_beat 66 = .ok (.getfield 23, 3) := by decide +kernel
theorem dX5_beat_69 : decode cX5_beat 69 = .ok (.getfield 50, 3) := by decide +kernel
theorem dX5_beat_72 : decode cX5_beat 72 = .ok (.iload_n 2, 1) := by decide +kernel
theorem dX5_beat_73 : decode cX5_beat 73 = .ok (.aaload, 1) := by decide +kernel
theorem dX5_beat_74 : decode cX5_beat 74 = .ok (.invokevirtual 54, 3) := by decide +kernel
theorem dX5_beat_77 : decode cX5_beat 77 = .ok (.iadd, 1) := by decide +kernel
theorem dX5_beat_78 : decode cX5_beat 78 = .ok (.istore_n 1, 1) := by decide +kernel
theorem dX5_beat_79 : decode cX5_beat 79 = .ok (.iinc 2 1, 3) := by decide +kernel
theorem dX5_beat_82 : decode cX5_beat 82 = .ok (.goto (-25), 3) := by decide +kernel
theorem dX5_beat_85 : decode cX5_beat 85 = .ok (.aload_n 0, 1) := by decide +kernel
theorem dX5_beat_86 : decode cX5_beat 86 = .ok (.getfield 27, 3) := by decide +kernel
theorem dX5_beat_89 : decode cX5_beat 89 = .ok (.invokevirtual 58, 3) := by decide +kernel
theorem dX5_beat_92 : decode cX5_beat 92 = .ok (.iload_n 1, 1) := by decide +kernel
theorem dX5_beat_93 : decode cX5_beat 93 = .ok (.ireturn, 1) := by decide +kernel
theorem dX5_startScript_0 : decode cX5_startScript 0 = .ok (.aload_n 0, 1) := by decide +kernel
theorem dX5_startScript_1 : decode cX5_startScript 1 = .ok (.getfield 15, 3) := by decide +kernel
theorem dX5_startScript_4 : decode cX5_startScript 4 = .ok (.getfield 63, 3) := by decide +kernel
theorem dX5_startScript_7 : decode cX5_startScript 7 = .ok (.iload_n 1, 1) := by decide +kernel
theorem dX5_startScript_8 : decode cX5_startScript 8 = .ok (.invokevirtual 69, 3) := by decide +kernel
theorem dX5_startScript_11 : decode cX5_startScript 11 = .ok (.ifCond .ne 5, 3) := by decide +kernel
theorem dX5_startScript_14 : decode cX5_startScript 14 = .ok (.iconst (-1), 1) := by decide +kernel
theorem dX5_startScript_15 : decode cX5_startScript 15 = .ok (.ireturn, 1) := by decide +kernel
theorem dX5_startScript_16 : decode cX5_startScript 16 = .ok (.aload_n 0, 1) := by decide +kernel
theorem dX5_startScript_17 : decode cX5_startScript 17 = .ok (.getfield 23, 3) := by decide +kernel
theorem dX5_startScript_20 : decode cX5_startScript 20 = .ok (.invokevirtual 75, 3) := by decide +kernel
theorem dX5_startScript_23 : decode cX5_startScript 23 = .ok (.istore_n 3, 1) := by decide +kernel
theorem dX5_startScript_24 : decode cX5_startScript 24 = .ok (.iload_n 3, 1) := by decide +kernel
theorem dX5_startScript_25 : decode cX5_startScript 25 = .ok (.iconst (-1), 1) := by decide +kernel
theorem dX5_startScript_26 : decode cX5_startScript 26 = .ok (.if_icmp .ne 18, 3) := by decide +kernel
theorem dX5_startScript_29 : decode cX5_startScript 29 = .ok (.aload_n 0, 1) := by decide +kernel
theorem dX5_startScript_30 : decode cX5_startScript 30 = .ok (.getfield 23, 3) := by decide +kernel
theorem dX5_startScript_33 : decode cX5_startScript 33 = .ok (.dup, 1) := by decide +kernel
theorem dX5_startScript_34 : decode cX5_startScript 34 = .ok (.getfield 79, 3) := by decide +kernel
theorem dX5_startScript_37 : decode cX5_startScript 37 = .ok (.iconst 1, 1) := by decide +kernel
theorem dX5_startScript_38 : decode cX5_startScript 38 = .ok (.iadd, 1) := by decide +kernel
theorem dX5_startScript_39 : decode cX5_startScript 39 = .ok (.putfield 79, 3) := by decide +kernel
theorem dX5_startScript_42 : decode cX5_startScript 42 = .ok (.iconst (-1), 1) := by decide +kernel
theorem dX5_startScript_43 : decode cX5_startScript 43 = .ok (.ireturn, 1) := by decide +kernel
theorem dX5_startScript_44 : decode cX5_startScript 44 = .ok (.aload_n 0, 1) := by decide +kernel
theorem dX5_startScript_45 : decode cX5_startScript 45 = .ok (.getfield 23, 3) := by decide +kernel
theorem dX5_startScript_48 : decode cX5_startScript 48 = .ok (.getfield 50, 3) := by decide +kernel
theorem dX5_startScript_51 : decode cX5_startScript 51 = .ok (.iload_n 3, 1) := by decide +kernel
theorem dX5_startScript_52 : decode cX5_startScript 52 = .ok (.aaload, 1) := by decide +kernel
theorem dX5_startScript_53 : decode cX5_startScript 53 = .ok (.iload_n 1, 1) := by decide +kernel
theorem dX5_startScript_54 : decode cX5_startScript 54 = .ok (.iload_n 2, 1) := by decide +kernel
theorem dX5_startScript_55 : decode cX5_startScript 55 = .ok (.invokevirtual 82, 3) := by decide +kernel
theorem dX5_startScript_58 : decode cX5_startScript 58 = .ok (.iload_n 3, 1) := by decide +kernel
theorem dX5_startScript_59 : decode cX5_startScript 59 = .ok (.ireturn, 1) := by decide +kernel
theorem dX5_actOnSentence_0 : decode cX5_actOnSentence 0 = .ok (.aload_n 0, 1) := by decide +kernel
theorem dX5_actOnSentence_1 : decode cX5_actOnSentence 1 = .ok (.getfield 23, 3) := by decide +kernel
theorem dX5_actOnSentence_4 : decode cX5_actOnSentence 4 = .ok (.invokevirtual 88, 3) := by decide +kernel
theorem dX5_actOnSentence_7 : decode cX5_actOnSentence 7 = .ok (.aload_n 0, 1) := by decide +kernel
theorem dX5_actOnSentence_8 : decode cX5_actOnSentence 8 = .ok (.getfield 23, 3) := by decide +kernel
theorem dX5_actOnSentence_11 : decode cX5_actOnSentence 11 = .ok (.getfield 37, 3) := by decide +kernel
theorem dX5_actOnSentence_14 : decode cX5_actOnSentence 14 = .ok (.iconst 1, 1) := by decide +kernel
theorem dX5_actOnSentence_15 : decode cX5_actOnSentence 15 = .ok (.iaload, 1) := by decide +kernel
theorem dX5_actOnSentence_16 : decode cX5_actOnSentence 16 = .ok (.istore_n 1, 1) := by decide +kernel
theorem dX5_actOnSentence_17 : decode cX5_actOnSentence 17 = .ok (.aload_n 0, 1) := by decide +kernel
theorem dX5_actOnSentence_18 : decode cX5_actOnSentence 18 = .ok (.getfield 23, 3) := by decide +kernel
theorem dX5_actOnSentence_21 : decode cX5_actOnSentence 21 = .ok (.getfield 37, 3) := by decide +kernel
theorem dX5_actOnSentence_24 : decode cX5_actOnSentence 24 = .ok (.iconst 2, 1) := by decide +kernel
theorem dX5_actOnSentence_25 : decode cX5_actOnSentence 25 = .ok (.iaload, 1) := by decide +kernel
theorem dX5_actOnSentence_26 : decode cX5_actOnSentence 26 = .ok (.istore_n 2, 1) := by decide +kernel
theorem dX5_actOnSentence_27 : decode cX5_actOnSentence 27 = .ok (.aload_n 0, 1) := by decide +kernel
theorem dX5_actOnSentence_28 : decode cX5_actOnSentence 28 = .ok (.getfield 15, 3) := by decide +kernel
theorem dX5_actOnSentence_31 : decode cX5_actOnSentence 31 = .ok (.iload_n 2, 1) := by decide +kernel
theorem dX5_actOnSentence_32 : decode cX5_actOnSentence 32 = .ok (.iload_n 1, 1) := by decide +kernel
theorem dX5_actOnSentence_33 : decode cX5_actOnSentence 33 = .ok (.invokevirtual 91, 3) := by decide +kernel
theorem dX5_actOnSentence_36 : decode cX5_actOnSentence 36 = .ok (.istore_n 3, 1) := by decide +kernel
theorem dX5_actOnSentence_37 : decode cX5_actOnSentence 37 = .ok (.iload_n 3, 1) := by decide +kernel
theorem dX5_actOnSentence_38 : decode cX5_actOnSentence 38 = .ok (.ifCond .ne 15, 3) := by decide +kernel
theorem dX5_actOnSentence_41 : decode cX5_actOnSentence 41 = .ok (.aload_n 0, 1) := by decide +kernel
theorem dX5_actOnSentence_42 : decode cX5_actOnSentence 42 = .ok (.getfield 15, 3) := by decide +kernel
theorem dX5_actOnSentence_45 : decode cX5_actOnSentence 45 = .ok (.iload_n 2, 1) := by decide +kernel
theorem dX5_actOnSentence_46 : decode cX5_actOnSentence 46 = .ok (.sipush 255, 3) := by decide +kernel
theorem dX5_actOnSentence_49 : decode cX5_actOnSentence 49 = .ok (.invokevirtual 91, 3) := by decide +kernel
theorem dX5_actOnSentence_52 : decode cX5_actOnSentence 52 = .ok (.istore_n 3, 1) := by decide +kernel
theorem dX5_actOnSentence_53 : decode cX5_actOnSentence 53 = .ok (.aload_n 0, 1) := by decide +kernel
theorem dX5_actOnSentence_54 : decode cX5_actOnSentence 54 = .ok (.iload_n 3, 1) := by decide +kernel
theorem dX5_actOnSentence_55 : decode cX5_actOnSentence 55 = .ok (.iconst 1, 1) := by decide +kernel
theorem dX5_actOnSentence_56 : decode cX5_actOnSentence 56 = .ok (.invokevirtual 95, 3) := by decide +kernel
theorem dX5_actOnSentence_59 : decode cX5_actOnSentence 59 = .ok (.pop, 1) := by decide +kernel
theorem dX5_actOnSentence_60 : decode cX5_actOnSentence 60 = .ok (.return_, 1) := by decide +kernel
theorem dX5_turn_0 : decode cX5_turn 0 = .ok (.aload_n 0, 1) := by decide +kernel
theorem dX5_turn_1 : decode cX5_turn 1 = .ok (.aload_n 1, 1) := by decide +kernel
theorem dX5_turn_2 : decode cX5_turn 2 = .ok (.invokevirtual 99, 3) := by decide +kernel
theorem dX5_turn_5 : decode cX5_turn 5 = .ok (.ifCond .ne 5, 3) := by decide +kernel
theorem dX5_turn_8 : decode cX5_turn 8 = .ok (.iconst 0, 1) := by decide +kernel
theorem dX5_turn_9 : decode cX5_turn 9 = .ok (.ireturn, 1) := by decide +kernel
theorem dX5_turn_10 : decode cX5_turn 10 = .ok (.aload_n 0, 1) := by decide +kernel
theorem dX5_turn_11 : decode cX5_turn 11 = .ok (.aload_n 1, 1) := by decide +kernel
theorem dX5_turn_12 : decode cX5_turn 12 = .ok (.getfield 103, 3) := by decide +kernel
theorem dX5_turn_15 : decode cX5_turn 15 = .ok (.invokevirtual 106, 3) := by decide +kernel
theorem dX5_turn_18 : decode cX5_turn 18 = .ok (.iconst 0, 1) := by decide +kernel
theorem dX5_turn_19 : decode cX5_turn 19 = .ok (.istore_n 2, 1) := by decide +kernel
theorem dX5_turn_20 : decode cX5_turn 20 = .ok (.iload_n 2, 1) := by decide +kernel
theorem dX5_turn_21 : decode cX5_turn 21 = .ok (.sipush 300, 3) := by decide +kernel
theorem dX5_turn_24 : decode cX5_turn 24 = .ok (.if_icmp .ge 67, 3) := by decide +kernel
theorem dX5_turn_27 : decode cX5_turn 27 = .ok (.aload_n 0, 1) := by decide +kernel
theorem dX5_turn_28 : decode cX5_turn 28 = .ok (.aload_n 1, 1) := by decide +kernel
theorem dX5_turn_29 : decode cX5_turn 29 = .ok (.invokevirtual 110, 3) := by decide +kernel
theorem dX5_turn_32 : decode cX5_turn 32 = .ok (.istore_n 3, 1) := by decide +kernel
theorem dX5_turn_33 : decode cX5_turn 33 = .ok (.iload_n 3, 1) := by decide +kernel
theorem dX5_turn_34 : decode cX5_turn 34 = .ok (.iconst (-1), 1) := by decide +kernel
theorem dX5_turn_35 : decode cX5_turn 35 = .ok (.if_icmp .ne 7, 3) := by decide +kernel
theorem dX5_turn_38 : decode cX5_turn 38 = .ok (.iconst 2, 1) := by decide +kernel
theorem dX5_turn_39 : decode cX5_turn 39 = .ok (.goto 9, 3) := by decide +kernel
theorem dX5_turn_42 : decode cX5_turn 42 = .ok (.aload_n 0, 1) := by decide +kernel
theorem dX5_turn_43 : decode cX5_turn 43 = .ok (.aload_n 1, 1) := by decide +kernel
theorem dX5_turn_44 : decode cX5_turn 44 = .ok (.iload_n 3, 1) := by decide +kernel
theorem dX5_turn_45 : decode cX5_turn 45 = .ok (.invokevirtual 113, 3) := by decide +kernel
theorem dX5_turn_48 : decode cX5_turn 48 = .ok (.istore 4, 2) := by decide +kernel
theorem dX5_turn_50 : decode cX5_turn 50 = .ok (.iload 4, 2) := by decide +kernel
theorem dX5_turn_52 : decode cX5_turn 52 = .ok (.iconst 2, 1) := by decide +kernel
theorem dX5_turn_53 : decode cX5_turn 53 = .ok (.if_icmp .ne 22, 3) := by decide +kernel
theorem dX5_turn_56 : decode cX5_turn 56 = .ok (.aload_n 1, 1) := by decide +kernel
theorem dX5_turn_57 : decode cX5_turn 57 = .ok (.invokevirtual 117, 3) := by decide +kernel
theorem dX5_turn_60 : decode cX5_turn 60 = .ok (.aload_n 0, 1) := by decide +kernel
theorem dX5_turn_61 : decode cX5_turn 61 = .ok (.getfield 23, 3) := by decide +kernel
theorem dX5_turn_64 : decode cX5_turn 64 = .ok (.dup, 1) := by decide +kernel
theorem dX5_turn_65 : decode cX5_turn 65 = .ok (.getfield 120, 3) := by decide +kernel
theorem dX5_turn_68 : decode cX5_turn 68 = .ok (.iconst 1, 1) := by decide +kernel
theorem dX5_turn_69 : decode cX5_turn 69 = .ok (.iadd, 1) := by decide +kernel
theorem dX5_turn_70 : decode cX5_turn 70 = .ok (.putfield 120, 3) := by decide +kernel
theorem dX5_turn_73 : decode cX5_turn 73 = .ok (.iload_n 2, 1) := by decide +kernel
theorem dX5_turn_74 : decode cX5_turn 74 = .ok (.ireturn, 1) := by decide +kernel
theorem dX5_turn_75 : decode cX5_turn 75 = .ok (.iload 4, 2) := by decide +kernel
theorem dX5_turn_77 : decode cX5_turn 77 = .ok (.iconst 1, 1) := by decide +kernel
theorem dX5_turn_78 : decode cX5_turn 78 = .ok (.if_icmp .ne 7, 3) := by decide +kernel
theorem dX5_turn_81 : decode cX5_turn 81 = .ok (.iload_n 2, 1) := by decide +kernel
theorem dX5_turn_82 : decode cX5_turn 82 = .ok (.iconst 1, 1) := by decide +kernel
theorem dX5_turn_83 : decode cX5_turn 83 = .ok (.iadd, 1) := by decide +kernel
theorem dX5_turn_84 : decode cX5_turn 84 = .ok (.ireturn, 1) := by decide +kernel
theorem dX5_turn_85 : decode cX5_turn 85 = .ok (.iinc 2 1, 3) := by decide +kernel
theorem dX5_turn_88 : decode cX5_turn 88 = .ok (.goto (-68), 3) := by decide +kernel
theorem dX5_turn_91 : decode cX5_turn 91 = .ok (.sipush 300, 3) := by decide +kernel
theorem dX5_turn_94 : decode cX5_turn 94 = .ok (.ireturn, 1) := by decide +kernel
theorem dX5_comesToOrders_0 : decode cX5_comesToOrders 0 = .ok (.aload_n 1, 1) := by decide +kernel
theorem dX5_comesToOrders_1 : decode cX5_comesToOrders 1 = .ok (.invokevirtual 123, 3) := by decide +kernel
theorem dX5_comesToOrders_4 : decode cX5_comesToOrders 4 = .ok (.ifCond .eq 10, 3) := by decide +kernel
theorem dX5_comesToOrders_7 : decode cX5_comesToOrders 7 = .ok (.aload_n 1, 1) := by decide +kernel
theorem dX5_comesToOrders_8 : decode cX5_comesToOrders 8 = .ok (.getfield 126, 3) := by decide +kernel
theorem dX5_comesToOrders_11 : decode cX5_comesToOrders 11 = .ok (.ifCond .eq 5, 3) := by decide +kernel
theorem dX5_comesToOrders_14 : decode cX5_comesToOrders 14 = .ok (.iconst 0, 1) := by decide +kernel
theorem dX5_comesToOrders_15 : decode cX5_comesToOrders 15 = .ok (.ireturn, 1) := by decide +kernel
theorem dX5_comesToOrders_16 : decode cX5_comesToOrders 16 = .ok (.aload_n 1, 1) := by decide +kernel
theorem dX5_comesToOrders_17 : decode cX5_comesToOrders 17 = .ok (.getfield 130, 3) := by decide +kernel
theorem dX5_comesToOrders_20 : decode cX5_comesToOrders 20 = .ok (.ifCond .le 22, 3) := by decide +kernel
theorem dX5_comesToOrders_23 : decode cX5_comesToOrders 23 = .ok (.aload_n 1, 1) := by decide +kernel
theorem dX5_comesToOrders_24 : decode cX5_comesToOrders 24 = .ok (.dup, 1) := by decide +kernel
theorem dX5_comesToOrders_25 : decode cX5_comesToOrders 25 = .ok (.getfield 130, 3) := by decide +kernel
theorem dX5_comesToOrders_28 : decode cX5_comesToOrders 28 = .ok (.iconst 1, 1) := by decide +kernel
theorem dX5_comesToOrders_29 : decode cX5_comesToOrders 29 = .ok (.isub, 1) := by decide +kernel
theorem dX5_comesToOrders_30 : decode cX5_comesToOrders 30 = .ok (.putfield 130, 3) := by decide +kernel
theorem dX5_comesToOrders_33 : decode cX5_comesToOrders 33 = .ok (.aload_n 1, 1) := by decide +kernel
theorem dX5_comesToOrders_34 : decode cX5_comesToOrders 34 = .ok (.getfield 130, 3) := by decide +kernel
theorem dX5_comesToOrders_37 : decode cX5_comesToOrders 37 = .ok (.ifCond .le 5, 3) := by decide +kernel
theorem dX5_comesToOrders_40 : decode cX5_comesToOrders 40 = .ok (.iconst 0, 1) := by decide +kernel
theorem dX5_comesToOrders_41 : decode cX5_comesToOrders 41 = .ok (.ireturn, 1) := by decide +kernel
theorem dX5_comesToOrders_42 : decode cX5_comesToOrders 42 = .ok (.aload_n 0, 1) := by decide +kernel
theorem dX5_comesToOrders_43 : decode cX5_comesToOrders 43 = .ok (.getfield 15, 3) := by decide +kernel
theorem dX5_comesToOrders_46 : decode cX5_comesToOrders 46 = .ok (.getfield 133, 3) := by decide +kernel
theorem dX5_comesToOrders_49 : decode cX5_comesToOrders 49 = .ok (.aload_n 1, 1) := by decide +kernel
theorem dX5_comesToOrders_50 : decode cX5_comesToOrders 50 = .ok (.getfield 136, 3) := by decide +kernel
theorem dX5_comesToOrders_53 : decode cX5_comesToOrders 53 = .ok (.invokevirtual 69, 3) := by decide +kernel
theorem dX5_comesToOrders_56 : decode cX5_comesToOrders 56 = .ok (.ifCond .eq 23, 3) := by decide +kernel
theorem dX5_comesToOrders_59 : decode cX5_comesToOrders 59 = .ok (.aload_n 0, 1) := by decide +kernel
theorem dX5_comesToOrders_60 : decode cX5_comesToOrders 60 = .ok (.getfield 23, 3) := by decide +kernel
theorem dX5_comesToOrders_63 : decode cX5_comesToOrders 63 = .ok (.getfield 139, 3) := by decide +kernel
theorem dX5_comesToOrders_66 : decode cX5_comesToOrders 66 = .ok (.aload_n 1, 1) := by decide +kernel
theorem dX5_comesToOrders_67 : decode cX5_comesToOrders 67 = .ok (.getfield 136, 3) := by decide +kernel
theorem dX5_comesToOrders_70 : decode cX5_comesToOrders 70 = .ok (.aaload, 1) := by decide +kernel
theorem dX5_comesToOrders_71 : decode cX5_comesToOrders 71 = .ok (.getfield 142, 3) := by decide +kernel
theorem dX5_comesToOrders_74 : decode cX5_comesToOrders 74 = .ok (.ifCond .eq 5, 3) := by decide +kernel
theorem dX5_comesToOrders_77 : decode cX5_comesToOrders 77 = .ok (.iconst 0, 1) := by decide +kernel
theorem dX5_comesToOrders_78 : decode cX5_comesToOrders 78 = .ok (.ireturn, 1) := by decide +kernel
theorem dX5_comesToOrders_79 : decode cX5_comesToOrders 79 = .ok (.aload_n 1, 1) := by decide +kernel
theorem dX5_comesToOrders_80 : decode cX5_comesToOrders 80 = .ok (.iconst 0, 1) := by decide +kernel
theorem dX5_comesToOrders_81 : decode cX5_comesToOrders 81 = .ok (.putfield 136, 3) := by decide +kernel
theorem dX5_comesToOrders_84 : decode cX5_comesToOrders 84 = .ok (.iconst 1, 1) := by decide +kernel
theorem dX5_comesToOrders_85 : decode cX5_comesToOrders 85 = .ok (.ireturn, 1) := by decide +kernel
theorem dX5_openCode_0 : decode cX5_openCode 0 = .ok (.aload_n 0, 1) := by decide +kernel
theorem dX5_openCode_1 : decode cX5_openCode 1 = .ok (.iconst 0, 1) := by decide +kernel
theorem dX5_openCode_2 : decode cX5_openCode 2 = .ok (.putfield 147, 3) := by decide +kernel
theorem dX5_openCode_5 : decode cX5_openCode 5 = .ok (.aload_n 0, 1) := by decide +kernel
theorem dX5_openCode_6 : decode cX5_openCode 6 = .ok (.iconst 0, 1) := by decide +kernel
theorem dX5_openCode_7 : decode cX5_openCode 7 = .ok (.putfield 150, 3) := by decide +kernel
theorem dX5_openCode_10 : decode cX5_openCode 10 = .ok (.aload_n 0, 1) := by decide +kernel
theorem dX5_openCode_11 : decode cX5_openCode 11 = .ok (.getfield 15, 3) := by decide +kernel
theorem dX5_openCode_14 : decode cX5_openCode 14 = .ok (.getfield 63, 3) := by decide +kernel
theorem dX5_openCode_17 : decode cX5_openCode 17 = .ok (.iload_n 1, 1) := by decide +kernel
theorem dX5_openCode_18 : decode cX5_openCode 18 = .ok (.invokevirtual 69, 3) := by decide +kernel
theorem dX5_openCode_21 : decode cX5_openCode 21 = .ok (.ifCond .eq 42, 3) := by decide +kernel
theorem dX5_openCode_24 : decode cX5_openCode 24 = .ok (.aload_n 0, 1) := by decide +kernel
theorem dX5_openCode_25 : decode cX5_openCode 25 = .ok (.aload_n 0, 1) := by decide +kernel
theorem dX5_openCode_26 : decode cX5_openCode 26 = .ok (.getfield 15, 3) := by decide +kernel
theorem dX5_openCode_29 : decode cX5_openCode 29 = .ok (.getfield 63, 3) := by decide +kernel
theorem dX5_openCode_32 : decode cX5_openCode 32 = .ok (.getfield 153, 3) := by decide +kernel
theorem dX5_openCode_35 : decode cX5_openCode 35 = .ok (.iload_n 1, 1) := by decide +kernel
theorem dX5_openCode_36 : decode cX5_openCode 36 = .ok (.iaload, 1) := by decide +kernel
theorem dX5_openCode_37 : decode cX5_openCode 37 = .ok (.iconst 1, 1) := by decide +kernel
theorem dX5_openCode_38 : decode cX5_openCode 38 = .ok (.iadd, 1) := by decide +kernel
theorem dX5_openCode_39 : decode cX5_openCode 39 = .ok (.putfield 147, 3) := by decide +kernel
theorem dX5_openCode_42 : decode cX5_openCode 42 = .ok (.aload_n 0, 1) := by decide +kernel
theorem dX5_openCode_43 : decode cX5_openCode 43 = .ok (.aload_n 0, 1) := by decide +kernel
theorem dX5_openCode_44 : decode cX5_openCode 44 = .ok (.getfield 15, 3) := by decide +kernel
theorem dX5_openCode_47 : decode cX5_openCode 47 = .ok (.getfield 63, 3) := by decide +kernel
theorem dX5_openCode_50 : decode cX5_openCode 50 = .ok (.getfield 156, 3) := by decide +kernel
theorem dX5_openCode_53 : decode cX5_openCode 53 = .ok (.iload_n 1, 1) := by decide +kernel
theorem dX5_openCode_54 : decode cX5_openCode 54 = .ok (.iaload, 1) := by decide +kernel
theorem dX5_openCode_55 : decode cX5_openCode 55 = .ok (.aload_n 0, 1) := by decide +kernel
theorem dX5_openCode_56 : decode cX5_openCode 56 = .ok (.getfield 147, 3) := by decide +kernel
theorem dX5_openCode_59 : decode cX5_openCode 59 = .ok (.isub, 1) := by decide +kernel
theorem dX5_openCode_60 : decode cX5_openCode 60 = .ok (.putfield 150, 3) := by decide +kernel
theorem dX5_openCode_63 : decode cX5_openCode 63 = .ok (.return_, 1) := by decide +kernel
theorem dX5_readOrder_0 : decode cX5_readOrder 0 = .ok (.aload_n 0, 1) := by decide +kernel
theorem dX5_readOrder_1 : decode cX5_readOrder 1 = .ok (.iconst 0, 1) := by decide +kernel
theorem dX5_readOrder_2 : decode cX5_readOrder 2 = .ok (.putfield 159, 3) := by decide +kernel
theorem dX5_readOrder_5 : decode cX5_readOrder 5 = .ok (.aload_n 0, 1) := by decide +kernel
theorem dX5_readOrder_6 : decode cX5_readOrder 6 = .ok (.aload_n 1, 1) := by decide +kernel
theorem dX5_readOrder_7 : decode cX5_readOrder 7 = .ok (.invokevirtual 162, 3) := by decide +kernel
theorem dX5_readOrder_10 : decode cX5_readOrder 10 = .ok (.istore_n 2, 1) := by decide +kernel
theorem dX5_readOrder_11 : decode cX5_readOrder 11 = .ok (.iload_n 2, 1) := by decide +kernel
theorem dX5_readOrder_12 : decode cX5_readOrder 12 = .ok (.ifCond .lt 9, 3) := by decide +kernel
theorem dX5_readOrder_15 : decode cX5_readOrder 15 = .ok (.iload_n 2, 1) := by decide +kernel
theorem dX5_readOrder_16 : decode cX5_readOrder 16 = .ok (.bipush 34, 2) := by decide +kernel
theorem dX5_readOrder_18 : decode cX5_readOrder 18 = .ok (.if_icmp .lt 5, 3) := by decide +kernel
theorem dX5_readOrder_21 : decode cX5_readOrder 21 = .ok (.iconst (-1), 1) := by decide +kernel
theorem dX5_readOrder_22 : decode cX5_readOrder 22 = .ok (.ireturn, 1) := by decide +kernel
theorem dX5_readOrder_23 : decode cX5_readOrder 23 = .ok (.getstatic 165, 3) := by decide +kernel
theorem dX5_readOrder_26 : decode cX5_readOrder 26 = .ok (.iload_n 2, 1) := by decide +kernel
theorem dX5_readOrder_27 : decode cX5_readOrder 27 = .ok (.iaload, 1) := by decide +kernel
theorem dX5_readOrder_28 : decode cX5_readOrder 28 = .ok (.ifCond .eq 12, 3) := by decide +kernel
theorem dX5_readOrder_31 : decode cX5_readOrder 31 = .ok (.aload_n 0, 1) := by decide +kernel
theorem dX5_readOrder_32 : decode cX5_readOrder 32 = .ok (.aload_n 0, 1) := by decide +kernel
theorem dX5_readOrder_33 : decode cX5_readOrder 33 = .ok (.aload_n 1, 1) := by decide +kernel
theorem dX5_readOrder_34 : decode cX5_readOrder 34 = .ok (.invokevirtual 168, 3) := by decide +kernel
theorem dX5_readOrder_37 : decode cX5_readOrder 37 = .ok (.putfield 171, 3) := by decide +kernel
theorem dX5_readOrder_40 : decode cX5_readOrder 40 = .ok (.iconst 0, 1) := by decide +kernel
theorem dX5_readOrder_41 : decode cX5_readOrder 41 = .ok (.istore_n 3, 1) := by decide +kernel
theorem dX5_readOrder_42 : decode cX5_readOrder 42 = .ok (.iload_n 3, 1) := by decide +kernel
theorem dX5_readOrder_43 : decode cX5_readOrder 43 = .ok (.getstatic 174, 3) := by decide +kernel
theorem dX5_readOrder_46 : decode cX5_readOrder 46 = .ok (.iload_n 2, 1) := by decide +kernel
theorem dX5_readOrder_47 : decode cX5_readOrder 47 = .ok (.iaload, 1) := by decide +kernel
theorem dX5_readOrder_48 : decode cX5_readOrder 48 = .ok (.if_icmp .ge 20, 3) := by decide +kernel
theorem dX5_readOrder_51 : decode cX5_readOrder 51 = .ok (.aload_n 0, 1) := by decide +kernel
theorem dX5_readOrder_52 : decode cX5_readOrder 52 = .ok (.getfield 9, 3) := by decide +kernel
theorem dX5_readOrder_55 : decode cX5_readOrder 55 = .ok (.iload_n 3, 1) := by decide +kernel
theorem dX5_readOrder_56 : decode cX5_readOrder 56 = .ok (.aload_n 0, 1) := by decide +kernel
theorem dX5_readOrder_57 : decode cX5_readOrder 57 = .ok (.aload_n 1, 1) := by decide +kernel
theorem dX5_readOrder_58 : decode cX5_readOrder 58 = .ok (.invokevirtual 177, 3) := by decide +kernel
theorem dX5_readOrder_61 : decode cX5_readOrder 61 = .ok (.iastore, 1) := by decide +kernel
theorem dX5_readOrder_62 : decode cX5_readOrder 62 = .ok (.iinc 3 1, 3) := by decide +kernel
theorem dX5_readOrder_65 : decode cX5_readOrder 65 = .ok (.goto (-23), 3) := by decide +kernel
theorem dX5_readOrder_68 : decode cX5_readOrder 68 = .ok (.getstatic 180, 3) := by decide +kernel
theorem dX5_readOrder_71 : decode cX5_readOrder 71 = .ok (.iload_n 2, 1) := by decide +kernel
theorem dX5_readOrder_72 : decode cX5_readOrder 72 = .ok (.iaload, 1) := by decide +kernel
theorem dX5_readOrder_73 : decode cX5_readOrder 73 = .ok (.ifCond .eq 12, 3) := by decide +kernel
theorem dX5_readOrder_76 : decode cX5_readOrder 76 = .ok (.aload_n 0, 1) := by decide +kernel
theorem dX5_readOrder_77 : decode cX5_readOrder 77 = .ok (.aload_n 0, 1) := by decide +kernel
theorem dX5_readOrder_78 : decode cX5_readOrder 78 = .ok (.aload_n 1, 1) := by decide +kernel
theorem dX5_readOrder_79 : decode cX5_readOrder 79 = .ok (.invokevirtual 183, 3) := by decide +kernel
theorem dX5_readOrder_82 : decode cX5_readOrder 82 = .ok (.putfield 186, 3) := by decide +kernel
theorem dX5_readOrder_85 : decode cX5_readOrder 85 = .ok (.aload_n 0, 1) := by decide +kernel
theorem dX5_readOrder_86 : decode cX5_readOrder 86 = .ok (.getfield 159, 3) := by decide +kernel
theorem dX5_readOrder_89 : decode cX5_readOrder 89 = .ok (.ifCond .eq 7, 3) := by decide +kernel
theorem dX5_readOrder_92 : decode cX5_readOrder 92 = .ok (.iconst (-1), 1) := by decide +kernel
theorem dX5_readOrder_93 : decode cX5_readOrder 93 = .ok (.goto 4, 3) := by decide +kernel
theorem dX5_readOrder_96 : decode cX5_readOrder 96 = .ok (.iload_n 2, 1) := by decide +kernel
theorem dX5_readOrder_97 : decode cX5_readOrder 97 = .ok (.ireturn, 1) := by decide +kernel
theorem dX5_nextByte_0 : decode cX5_nextByte 0 = .ok (.aload_n 1, 1) := by decide +kernel
theorem dX5_nextByte_1 : decode cX5_nextByte 1 = .ok (.getfield 189, 3) := by decide +kernel
theorem dX5_nextByte_4 : decode cX5_nextByte 4 = .ok (.ifCond .lt 14, 3) := by decide +kernel
theorem dX5_nextByte_7 : decode cX5_nextByte 7 = .ok (.aload_n 1, 1) := by decide +kernel
theorem dX5_nextByte_8 : decode cX5_nextByte 8 = .ok (.getfield 189, 3) := by decide +kernel
theorem dX5_nextByte_11 : decode cX5_nextByte 11 = .ok (.aload_n 0, 1) := by decide +kernel
theorem dX5_nextByte_12 : decode cX5_nextByte 12 = .ok (.getfield 150, 3) := by decide +kernel
theorem dX5_nextByte_15 : decode cX5_nextByte 15 = .ok (.if_icmp .lt 10, 3) := by decide +kernel
theorem dX5_nextByte_18 : decode cX5_nextByte 18 = .ok (.aload_n 0, 1) := by decide +kernel
theorem dX5_nextByte_19 : decode cX5_nextByte 19 = .ok (.iconst 1, 1) := by decide +kernel
theorem dX5_nextByte_20 : decode cX5_nextByte 20 = .ok (.putfield 159, 3) := by decide +kernel
theorem dX5_nextByte_23 : decode cX5_nextByte 23 = .ok (.iconst (-1), 1) := by decide +kernel
theorem dX5_nextByte_24 : decode cX5_nextByte 24 = .ok (.ireturn, 1) := by decide +kernel
theorem dX5_nextByte_25 : decode cX5_nextByte 25 = .ok (.aload_n 0, 1) := by decide +kernel
theorem dX5_nextByte_26 : decode cX5_nextByte 26 = .ok (.getfield 15, 3) := by decide +kernel
theorem dX5_nextByte_29 : decode cX5_nextByte 29 = .ok (.getfield 192, 3) := by decide +kernel
theorem dX5_nextByte_32 : decode cX5_nextByte 32 = .ok (.aload_n 0, 1) := by decide +kernel
theorem dX5_nextByte_33 : decode cX5_nextByte 33 = .ok (.getfield 147, 3) := by decide +kernel
theorem dX5_nextByte_36 : decode cX5_nextByte 36 = .ok (.aload_n 1, 1) := by decide +kernel
theorem dX5_nextByte_37 : decode cX5_nextByte 37 = .ok (.getfield 189, 3) := by decide +kernel
theorem dX5_nextByte_40 : decode cX5_nextByte 40 = .ok (.iadd, 1) := by decide +kernel
theorem dX5_nextByte_41 : decode cX5_nextByte 41 = .ok (.invokevirtual 196, 3) := by decide +kernel
theorem dX5_nextByte_44 : decode cX5_nextByte 44 = .ok (.istore_n 2, 1) := by decide +kernel
theorem dX5_nextByte_45 : decode cX5_nextByte 45 = .ok (.aload_n 1, 1) := by decide +kernel
theorem dX5_nextByte_46 : decode cX5_nextByte 46 = .ok (.dup, 1) := by decide +kernel
theorem dX5_nextByte_47 : decode cX5_nextByte 47 = .ok (.getfield 189, 3) := by decide +kernel
theorem dX5_nextByte_50 : decode cX5_nextByte 50 = .ok (.iconst 1, 1) := by decide +kernel
theorem dX5_nextByte_51 : decode cX5_nextByte 51 = .ok (.iadd, 1) := by decide +kernel
theorem dX5_nextByte_52 : decode cX5_nextByte 52 = .ok (.putfield 189, 3) := by decide +kernel
theorem dX5_nextByte_55 : decode cX5_nextByte 55 = .ok (.iload_n 2, 1) := by decide +kernel
theorem dX5_nextByte_56 : decode cX5_nextByte 56 = .ok (.ireturn, 1) := by decide +kernel
theorem dX5_readTarget_0 : decode cX5_readTarget 0 = .ok (.aload_n 0, 1) := by decide +kernel
theorem dX5_readTarget_1 : decode cX5_readTarget 1 = .ok (.aload_n 1, 1) := by decide +kernel
theorem dX5_readTarget_2 : decode cX5_readTarget 2 = .ok (.invokevirtual 162, 3) := by decide +kernel
theorem dX5_readTarget_5 : decode cX5_readTarget 5 = .ok (.istore_n 2, 1) := by decide +kernel
theorem dX5_readTarget_6 : decode cX5_readTarget 6 = .ok (.aload_n 0, 1) := by decide +kernel
theorem dX5_readTarget_7 : decode cX5_readTarget 7 = .ok (.iload_n 2, 1) := by decide +kernel
theorem dX5_readTarget_8 : decode cX5_readTarget 8 = .ok (.aload_n 0, 1) := by decide +kernel
theorem dX5_readTarget_9 : decode cX5_readTarget 9 = .ok (.aload_n 1, 1) := by decide +kernel
theorem dX5_readTarget_10 : decode cX5_readTarget 10 = .ok (.invokevirtual 162, 3) := by decide +kernel
theorem dX5_readTarget_13 : decode cX5_readTarget 13 = .ok (.invokevirtual 202, 3) := by decide +kernel
theorem dX5_readTarget_16 : decode cX5_readTarget 16 = .ok (.ireturn, 1) := by decide +kernel
theorem dX5_readValue_0 : decode cX5_readValue 0 = .ok (.aload_n 0, 1) := by decide +kernel
theorem dX5_readValue_1 : decode cX5_readValue 1 = .ok (.aload_n 1, 1) := by decide +kernel
theorem dX5_readValue_2 : decode cX5_readValue 2 = .ok (.invokevirtual 162, 3) := by decide +kernel
theorem dX5_readValue_5 : decode cX5_readValue 5 = .ok (.istore_n 2, 1) := by decide +kernel
theorem dX5_readValue_6 : decode cX5_readValue 6 = .ok (.aload_n 0, 1) := by decide +kernel
theorem dX5_readValue_7 : decode cX5_readValue 7 = .ok (.aload_n 1, 1) := by decide +kernel
theorem dX5_readValue_8 : decode cX5_readValue 8 = .ok (.invokevirtual 162, 3) := by decide +kernel
theorem dX5_readValue_11 : decode cX5_readValue 11 = .ok (.istore_n 3, 1) := by decide +kernel
theorem dX5_readValue_12 : decode cX5_readValue 12 = .ok (.iload_n 2, 1) := by decide +kernel
theorem dX5_readValue_13 : decode cX5_readValue 13 = .ok (.ifCond .ne 15, 3) := by decide +kernel
theorem dX5_readValue_16 : decode cX5_readValue 16 = .ok (.iload_n 3, 1) := by decide +kernel
theorem dX5_readValue_17 : decode cX5_readValue 17 = .ok (.bipush 8, 2) := by decide +kernel
theorem dX5_readValue_19 : decode cX5_readValue 19 = .ok (.ishl, 1) := by decide +kernel
theorem dX5_readValue_20 : decode cX5_readValue 20 = .ok (.aload_n 0, 1) := by decide +kernel
theorem dX5_readValue_21 : decode cX5_readValue 21 = .ok (.aload_n 1, 1) := by decide +kernel
theorem dX5_readValue_22 : decode cX5_readValue 22 = .ok (.invokevirtual 162, 3) := by decide +kernel
theorem dX5_readValue_25 : decode cX5_readValue 25 = .ok (.ior, 1) := by decide +kernel
theorem dX5_readValue_26 : decode cX5_readValue 26 = .ok (.i2s, 1) := by decide +kernel
theorem dX5_readValue_27 : decode cX5_readValue 27 = .ok (.ireturn, 1) := by decide +kernel
theorem dX5_readValue_28 : decode cX5_readValue 28 = .ok (.aload_n 0, 1) := by decide +kernel
theorem dX5_readValue_29 : decode cX5_readValue 29 = .ok (.iload_n 2, 1) := by decide +kernel
theorem dX5_readValue_30 : decode cX5_readValue 30 = .ok (.iload_n 3, 1) := by decide +kernel
theorem dX5_readValue_31 : decode cX5_readValue 31 = .ok (.invokevirtual 202, 3) := by decide +kernel
theorem dX5_readValue_34 : decode cX5_readValue 34 = .ok (.istore 4, 2) := by decide +kernel
theorem dX5_readValue_36 : decode cX5_readValue 36 = .ok (.iload 4, 2) := by decide +kernel
theorem dX5_readValue_38 : decode cX5_readValue 38 = .ok (.iconst (-1), 1) := by decide +kernel
theorem dX5_readValue_39 : decode cX5_readValue 39 = .ok (.if_icmp .ne 7, 3) := by decide +kernel
theorem dX5_readValue_42 : decode cX5_readValue 42 = .ok (.iconst 0, 1) := by decide +kernel
theorem dX5_readValue_43 : decode cX5_readValue 43 = .ok (.goto 10, 3) := by decide +kernel
theorem dX5_readValue_46 : decode cX5_readValue 46 = .ok (.aload_n 0, 1) := by decide +kernel
theorem dX5_readValue_47 : decode cX5_readValue 47 = .ok (.aload_n 1, 1) := by decide +kernel
theorem dX5_readValue_48 : decode cX5_readValue 48 = .ok (.iload 4, 2) := by decide +kernel
theorem dX5_readValue_50 : decode cX5_readValue 50 = .ok (.invokevirtual 205, 3) := by decide +kernel
theorem dX5_readValue_53 : decode cX5_readValue 53 = .ok (.ireturn, 1) := by decide +kernel
theorem dX5_readJump_0 : decode cX5_readJump 0 = .ok (.aload_n 0, 1) := by decide +kernel
theorem dX5_readJump_1 : decode cX5_readJump 1 = .ok (.aload_n 1, 1) := by decide +kernel
theorem dX5_readJump_2 : decode cX5_readJump 2 = .ok (.invokevirtual 162, 3) := by decide +kernel
theorem dX5_readJump_5 : decode cX5_readJump 5 = .ok (.istore_n 2, 1) := by decide +kernel
theorem dX5_readJump_6 : decode cX5_readJump 6 = .ok (.iload_n 2, 1) := by decide +kernel
theorem dX5_readJump_7 : decode cX5_readJump 7 = .ok (.bipush 8, 2) := by decide +kernel
theorem dX5_readJump_9 : decode cX5_readJump 9 = .ok (.ishl, 1) := by decide +kernel
theorem dX5_readJump_10 : decode cX5_readJump 10 = .ok (.aload_n 0, 1) := by decide +kernel
theorem dX5_readJump_11 : decode cX5_readJump 11 = .ok (.aload_n 1, 1) := by decide +kernel
theorem dX5_readJump_12 : decode cX5_readJump 12 = .ok (.invokevirtual 162, 3) := by decide +kernel
theorem dX5_readJump_15 : decode cX5_readJump 15 = .ok (.ior, 1) := by decide +kernel
theorem dX5_readJump_16 : decode cX5_readJump 16 = .ok (.istore_n 3, 1) := by decide +kernel
theorem dX5_readJump_17 : decode cX5_readJump 17 = .ok (.iload_n 3, 1) := by decide +kernel
theorem dX5_readJump_18 : decode cX5_readJump 18 = .ok (.ifCond .lt 11, 3) := by decide +kernel
theorem dX5_readJump_21 : decode cX5_readJump 21 = .ok (.iload_n 3, 1) := by decide +kernel
theorem dX5_readJump_22 : decode cX5_readJump 22 = .ok (.aload_n 0, 1) := by decide +kernel
theorem dX5_readJump_23 : decode cX5_readJump 23 = .ok (.getfield 150, 3) := by decide +kernel
theorem dX5_readJump_26 : decode cX5_readJump 26 = .ok (.if_icmp .lt 8, 3) := by decide +kernel
theorem dX5_readJump_29 : decode cX5_readJump 29 = .ok (.aload_n 0, 1) := by decide +kernel
theorem dX5_readJump_30 : decode cX5_readJump 30 = .ok (.iconst 1, 1) := by decide +kernel
theorem dX5_readJump_31 : decode cX5_readJump 31 = .ok (.putfield 159, 3) := by decide +kernel
theorem dX5_readJump_34 : decode cX5_readJump 34 = .ok (.iload_n 3, 1) := by decide +kernel
theorem dX5_readJump_35 : decode cX5_readJump 35 = .ok (.ireturn, 1) := by decide +kernel
theorem dX5_addressOf_0 : decode cX5_addressOf 0 = .ok (.iload_n 1, 1) := by decide +kernel
theorem dX5_addressOf_1 : decode cX5_addressOf 1 = .ok (.iconst 1, 1) := by decide +kernel
theorem dX5_addressOf_2 : decode cX5_addressOf 2 = .ok (.if_icmp .ne 15, 3) := by decide +kernel
theorem dX5_addressOf_5 : decode cX5_addressOf 5 = .ok (.iload_n 2, 1) := by decide +kernel
theorem dX5_addressOf_6 : decode cX5_addressOf 6 = .ok (.ifCond .lt 11, 3) := by decide +kernel
theorem dX5_addressOf_9 : decode cX5_addressOf 9 = .ok (.iload_n 2, 1) := by decide +kernel
theorem dX5_addressOf_10 : decode cX5_addressOf 10 = .ok (.bipush 64, 2) := by decide +kernel
theorem dX5_addressOf_12 : decode cX5_addressOf 12 = .ok (.if_icmp .ge 5, 3) := by decide +kernel
theorem dX5_addressOf_15 : decode cX5_addressOf 15 = .ok (.iload_n 2, 1) := by decide +kernel
theorem dX5_addressOf_16 : decode cX5_addressOf 16 = .ok (.ireturn, 1) := by decide +kernel
theorem dX5_addressOf_17 : decode cX5_addressOf 17 = .ok (.iload_n 1, 1) := by decide +kernel
theorem dX5_addressOf_18 : decode cX5_addressOf 18 = .ok (.iconst 2, 1) := by decide +kernel
theorem dX5_addressOf_19 : decode cX5_addressOf 19 = .ok (.if_icmp .ne 17, 3) := by decide +kernel
theorem dX5_addressOf_22 : decode cX5_addressOf 22 = .ok (.iload_n 2, 1) := by decide +kernel
theorem dX5_addressOf_23 : decode cX5_addressOf 23 = .ok (.ifCond .lt 13, 3) := by decide +kernel
theorem dX5_addressOf_26 : decode cX5_addressOf 26 = .ok (.iload_n 2, 1) := by decide +kernel
theorem dX5_addressOf_27 : decode cX5_addressOf 27 = .ok (.iconst 4, 1) := by decide +kernel
theorem dX5_addressOf_28 : decode cX5_addressOf 28 = .ok (.if_icmp .ge 8, 3) := by decide +kernel
theorem dX5_addressOf_31 : decode cX5_addressOf 31 = .ok (.bipush 64, 2) := by decide +kernel
theorem dX5_addressOf_33 : decode cX5_addressOf 33 = .ok (.iload_n 2, 1) := by decide +kernel
theorem dX5_addressOf_34 : decode cX5_addressOf 34 = .ok (.iadd, 1) := by decide +kernel
theorem dX5_addressOf_35 : decode cX5_addressOf 35 = .ok (.ireturn, 1) := by decide +kernel
theorem dX5_addressOf_36 : decode cX5_addressOf 36 = .ok (.aload_n 0, 1) := by decide +kernel
theorem dX5_addressOf_37 : decode cX5_addressOf 37 = .ok (.iconst 1, 1) := by decide +kernel
theorem dX5_addressOf_38 : decode cX5_addressOf 38 = .ok (.putfield 159, 3) := by decide +kernel
theorem dX5_addressOf_41 : decode cX5_addressOf 41 = .ok (.iconst (-1), 1) := by decide +kernel
theorem dX5_addressOf_42 : decode cX5_addressOf 42 = .ok (.ireturn, 1) := by decide +kernel
theorem dX5_fetch_0 : decode cX5_fetch 0 = .ok (.iload_n 2, 1) := by decide +kernel
theorem dX5_fetch_1 : decode cX5_fetch 1 = .ok (.bipush 64, 2) := by decide +kernel
theorem dX5_fetch_3 : decode cX5_fetch 3 = .ok (.if_icmp .ge 15, 3) := by decide +kernel
theorem dX5_fetch_6 : decode cX5_fetch 6 = .ok (.aload_n 0, 1) := by decide +kernel
theorem dX5_fetch_7 : decode cX5_fetch 7 = .ok (.getfield 23, 3) := by decide +kernel
theorem dX5_fetch_10 : decode cX5_fetch 10 = .ok (.getfield 37, 3) := by decide +kernel
theorem dX5_fetch_13 : decode cX5_fetch 13 = .ok (.iload_n 2, 1) := by decide +kernel
theorem dX5_fetch_14 : decode cX5_fetch 14 = .ok (.iaload, 1) := by decide +kernel
theorem dX5_fetch_15 : decode cX5_fetch 15 = .ok (.goto 12, 3) := by decide +kernel
theorem dX5_fetch_18 : decode cX5_fetch 18 = .ok (.aload_n 1, 1) := by decide +kernel
theorem dX5_fetch_19 : decode cX5_fetch 19 = .ok (.getfield 208, 3) := by decide +kernel
theorem dX5_fetch_22 : decode cX5_fetch 22 = .ok (.iload_n 2, 1) := by decide +kernel
theorem dX5_fetch_23 : decode cX5_fetch 23 = .ok (.bipush 64, 2) := by decide +kernel
theorem dX5_fetch_25 : decode cX5_fetch 25 = .ok (.isub, 1) := by decide +kernel
theorem dX5_fetch_26 : decode cX5_fetch 26 = .ok (.iaload, 1) := by decide +kernel
theorem dX5_fetch_27 : decode cX5_fetch 27 = .ok (.ireturn, 1) := by decide +kernel
theorem dX5_store_0 : decode cX5_store 0 = .ok (.aload_n 0, 1) := by decide +kernel
theorem dX5_store_1 : decode cX5_store 1 = .ok (.getfield 171, 3) := by decide +kernel
theorem dX5_store_4 : decode cX5_store 4 = .ok (.bipush 64, 2) := by decide +kernel
theorem dX5_store_6 : decode cX5_store 6 = .ok (.if_icmp .ge 19, 3) := by decide +kernel
theorem dX5_store_9 : decode cX5_store 9 = .ok (.aload_n 0, 1) := by decide +kernel
theorem dX5_store_10 : decode cX5_store 10 = .ok (.getfield 23, 3) := by decide +kernel
theorem dX5_store_13 : decode cX5_store 13 = .ok (.getfield 37, 3) := by decide +kernel
theorem dX5_store_16 : decode cX5_store 16 = .ok (.aload_n 0, 1) := by decide +kernel
theorem dX5_store_17 : decode cX5_store 17 = .ok (.getfield 171, 3) := by decide +kernel
theorem dX5_store_20 : decode cX5_store 20 = .ok (.iload_n 2, 1) := by decide +kernel
theorem dX5_store_21 : decode cX5_store 21 = .ok (.iastore, 1) := by decide +kernel
theorem dX5_store_22 : decode cX5_store 22 = .ok (.goto 16, 3) := by decide +kernel
theorem dX5_store_25 : decode cX5_store 25 = .ok (.aload_n 1, 1) := by decide +kernel
theorem dX5_store_26 : decode cX5_store 26 = .ok (.getfield 208, 3) := by decide +kernel
theorem dX5_store_29 : decode cX5_store 29 = .ok (.aload_n 0, 1) := by decide +kernel
theorem dX5_store_30 : decode cX5_store 30 = .ok (.getfield 171, 3) := by decide +kernel
theorem dX5_store_33 : decode cX5_store 33 = .ok (.bipush 64, 2) := by decide +kernel
theorem dX5_store_35 : decode cX5_store 35 = .ok (.isub, 1) := by decide +kernel
theorem dX5_store_36 : decode cX5_store 36 = .ok (.iload_n 2, 1) := by decide +kernel
theorem dX5_store_37 : decode cX5_store 37 = .ok (.iastore, 1) := by decide +kernel
theorem dX5_store_38 : decode cX5_store 38 = .ok (.iconst 0, 1) := by decide +kernel
theorem dX5_store_39 : decode cX5_store 39 = .ok (.ireturn, 1) := by decide +kernel
theorem dX5_perform_0 : decode cX5_perform 0 = .ok (.aload_n 0, 1) := by decide +kernel
theorem dX5_perform_1 : decode cX5_perform 1 = .ok (.getfield 9, 3) := by decide +kernel
theorem dX5_perform_4 : decode cX5_perform 4 = .ok (.iconst 0, 1) := by decide +kernel
theorem dX5_perform_5 : decode cX5_perform 5 = .ok (.iaload, 1) := by decide +kernel
theorem dX5_perform_6 : decode cX5_perform 6 = .ok (.istore_n 3, 1) := by decide +kernel
theorem dX5_perform_7 : decode cX5_perform 7 = .ok (.iload_n 2, 1) := by decide +kernel
theorem dX5_perform_8 : decode cX5_perform 8 = .ok (.tableswitch 311 0 33 #[152, 158, 160, 311, 311, 311, 311, 311, 167, 188, 209, 220, 229, 311, 311, 243, 311, 311, 311, 311, 250, 260, 283, 298, 298, 298, 298, 298, 311, 311, 311, 305, 311, 236], 152) := by decide +kernel
theorem dX5_perform_160 : decode cX5_perform 160 = .ok (.aload_n 1, 1) := by decide +kernel
theorem dX5_perform_161 : decode cX5_perform 161 = .ok (.invokevirtual 117, 3) := by decide +kernel
theorem dX5_perform_164 : decode cX5_perform 164 = .ok (.iconst 1, 1) := by decide +kernel
theorem dX5_perform_165 : decode cX5_perform 165 = .ok (.ireturn, 1) := by decide +kernel
theorem dX5_perform_166 : decode cX5_perform 166 = .ok (.iconst 1, 1) := by decide +kernel
theorem dX5_perform_167 : decode cX5_perform 167 = .ok (.ireturn, 1) := by decide +kernel
theorem dX5_perform_168 : decode cX5_perform 168 = .ok (.aload_n 0, 1) := by decide +kernel
theorem dX5_perform_169 : decode cX5_perform 169 = .ok (.aload_n 1, 1) := by decide +kernel
theorem dX5_perform_170 : decode cX5_perform 170 = .ok (.iconst 1, 1) := by decide +kernel
theorem dX5_perform_171 : decode cX5_perform 171 = .ok (.invokevirtual 211, 3) := by decide +kernel
theorem dX5_perform_174 : decode cX5_perform 174 = .ok (.ireturn, 1) := by decide +kernel
theorem dX5_perform_175 : decode cX5_perform 175 = .ok (.aload_n 0, 1) := by decide +kernel
theorem dX5_perform_176 : decode cX5_perform 176 = .ok (.aload_n 1, 1) := by decide +kernel
theorem dX5_perform_177 : decode cX5_perform 177 = .ok (.iload_n 3, 1) := by decide +kernel
theorem dX5_perform_178 : decode cX5_perform 178 = .ok (.aload_n 0, 1) := by decide +kernel
theorem dX5_perform_179 : decode cX5_perform 179 = .ok (.getfield 9, 3) := by decide +kernel
theorem dX5_perform_182 : decode cX5_perform 182 = .ok (.iconst 1, 1) := by decide +kernel
theorem dX5_perform_183 : decode cX5_perform 183 = .ok (.iaload, 1) := by decide +kernel
theorem dX5_perform_184 : decode cX5_perform 184 = .ok (.if_icmp .ne 7, 3) := by decide +kernel
theorem dX5_perform_187 : decode cX5_perform 187 = .ok (.iconst 1, 1) := by decide +kernel
theorem dX5_perform_188 : decode cX5_perform 188 = .ok (.goto 4, 3) := by decide +kernel
theorem dX5_perform_191 : decode cX5_perform 191 = .ok (.iconst 0, 1) := by decide +kernel
theorem dX5_perform_192 : decode cX5_perform 192 = .ok (.invokevirtual 211, 3) := by decide +kernel
theorem dX5_perform_195 : decode cX5_perform 195 = .ok (.ireturn, 1) := by decide +kernel
theorem dX5_perform_196 : decode cX5_perform 196 = .ok (.aload_n 0, 1) := by decide +kernel
theorem dX5_perform_197 : decode cX5_perform 197 = .ok (.aload_n 1, 1) := by decide +kernel
theorem dX5_perform_198 : decode cX5_perform 198 = .ok (.iload_n 3, 1) := by decide +kernel
theorem dX5_perform_199 : decode cX5_perform 199 = .ok (.aload_n 0, 1) := by decide +kernel
theorem dX5_perform_200 : decode cX5_perform 200 = .ok (.getfield 9, 3) := by decide +kernel
theorem dX5_perform_203 : decode cX5_perform 203 = .ok (.iconst 1, 1) := by decide +kernel
theorem dX5_perform_204 : decode cX5_perform 204 = .ok (.iaload, 1) := by decide +kernel
theorem dX5_perform_205 : decode cX5_perform 205 = .ok (.if_icmp .ge 7, 3) := by decide +kernel
theorem dX5_perform_208 : decode cX5_perform 208 = .ok (.iconst 1, 1) := by decide +kernel
theorem dX5_perform_209 : decode cX5_perform 209 = .ok (.goto 4, 3) := by decide +kernel
theorem dX5_perform_212 : decode cX5_perform 212 = .ok (.iconst 0, 1) := by decide +kernel
theorem dX5_perform_213 : decode cX5_perform 213 = .ok (.invokevirtual 211, 3) := by decide +kernel
theorem dX5_perform_216 : decode cX5_perform 216 = .ok (.ireturn, 1) := by decide +kernel
theorem dX5_perform_217 : decode cX5_perform 217 = .ok (.aload_n 1, 1) := by decide +kernel
theorem dX5_perform_218 : decode cX5_perform 218 = .ok (.iconst 0, 1) := by decide +kernel
theorem dX5_perform_219 : decode cX5_perform 219 = .ok (.iload_n 3, 1) := by decide +kernel
theorem dX5_perform_220 : decode cX5_perform 220 = .ok (.invokestatic 215, 3) := by decide +kernel
theorem dX5_perform_223 : decode cX5_perform 223 = .ok (.putfield 130, 3) := by decide +kernel
theorem dX5_perform_226 : decode cX5_perform 226 = .ok (.iconst 1, 1) := by decide +kernel
theorem dX5_perform_227 : decode cX5_perform 227 = .ok (.ireturn, 1) := by decide +kernel
theorem dX5_perform_228 : decode cX5_perform 228 = .ok (.aload_n 0, 1) := by decide +kernel
theorem dX5_perform_229 : decode cX5_perform 229 = .ok (.iload_n 3, 1) := by decide +kernel
theorem dX5_perform_230 : decode cX5_perform 230 = .ok (.iconst 0, 1) := by decide +kernel
theorem dX5_perform_231 : decode cX5_perform 231 = .ok (.invokevirtual 95, 3) := by decide +kernel
theorem dX5_perform_234 : decode cX5_perform 234 = .ok (.pop, 1) := by decide +kernel
theorem dX5_perform_235 : decode cX5_perform 235 = .ok (.iconst 0, 1) := by decide +kernel
theorem dX5_perform_236 : decode cX5_perform 236 = .ok (.ireturn, 1) := by decide +kernel
theorem dX5_perform_237 : decode cX5_perform 237 = .ok (.aload_n 0, 1) := by decide +kernel
theorem dX5_perform_238 : decode cX5_perform 238 = .ok (.aload_n 1, 1) := by decide +kernel
theorem dX5_perform_239 : decode cX5_perform 239 = .ok (.iload_n 3, 1) := by decide +kernel
theorem dX5_perform_240 : decode cX5_perform 240 = .ok (.invokevirtual 220, 3) := by decide +kernel
theorem dX5_perform_243 : decode cX5_perform 243 = .ok (.ireturn, 1) := by decide +kernel
theorem dX5_perform_244 : decode cX5_perform 244 = .ok (.aload_n 0, 1) := by decide +kernel
theorem dX5_perform_245 : decode cX5_perform 245 = .ok (.aload_n 1, 1) := by decide +kernel
theorem dX5_perform_246 : decode cX5_perform 246 = .ok (.iload_n 3, 1) := by decide +kernel
theorem dX5_perform_247 : decode cX5_perform 247 = .ok (.invokevirtual 223, 3) := by decide +kernel
theorem dX5_perform_250 : decode cX5_perform 250 = .ok (.ireturn, 1) := by decide +kernel
theorem dX5_perform_251 : decode cX5_perform 251 = .ok (.aload_n 0, 1) := by decide +kernel
theorem dX5_perform_252 : decode cX5_perform 252 = .ok (.aload_n 1, 1) := by decide +kernel
theorem dX5_perform_253 : decode cX5_perform 253 = .ok (.iload_n 3, 1) := by decide +kernel
theorem dX5_perform_254 : decode cX5_perform 254 = .ok (.invokevirtual 226, 3) := by decide +kernel
theorem dX5_perform_257 : decode cX5_perform 257 = .ok (.ireturn, 1) := by decide +kernel
theorem dX5_perform_258 : decode cX5_perform 258 = .ok (.aload_n 0, 1) := by decide +kernel
theorem dX5_perform_259 : decode cX5_perform 259 = .ok (.getfield 23, 3) := by decide +kernel
theorem dX5_perform_262 : decode cX5_perform 262 = .ok (.iload_n 3, 1) := by decide +kernel
theorem dX5_perform_263 : decode cX5_perform 263 = .ok (.invokevirtual 229, 3) := by decide +kernel
theorem dX5_perform_266 : decode cX5_perform 266 = .ok (.iconst 0, 1) := by decide +kernel
theorem dX5_perform_267 : decode cX5_perform 267 = .ok (.ireturn, 1) := by decide +kernel
theorem dX5_perform_268 : decode cX5_perform 268 = .ok (.aload_n 0, 1) := by decide +kernel
theorem dX5_perform_269 : decode cX5_perform 269 = .ok (.getfield 23, 3) := by decide +kernel
theorem dX5_perform_272 : decode cX5_perform 272 = .ok (.iload_n 3, 1) := by decide +kernel
theorem dX5_perform_273 : decode cX5_perform 273 = .ok (.aload_n 0, 1) := by decide +kernel
theorem dX5_perform_274 : decode cX5_perform 274 = .ok (.getfield 9, 3) := by decide +kernel
theorem dX5_perform_277 : decode cX5_perform 277 = .ok (.iconst 1, 1) := by decide +kernel
theorem dX5_perform_278 : decode cX5_perform 278 = .ok (.iaload, 1) := by decide +kernel
theorem dX5_perform_279 : decode cX5_perform 279 = .ok (.aload_n 0, 1) := by decide +kernel
theorem dX5_perform_280 : decode cX5_perform 280 = .ok (.getfield 9, 3) := by decide +kernel
theorem dX5_perform_283 : decode cX5_perform 283 = .ok (.iconst 2, 1) := by decide +kernel
theorem dX5_perform_284 : decode cX5_perform 284 = .ok (.iaload, 1) := by decide +kernel
theorem dX5_perform_285 : decode cX5_perform 285 = .ok (.invokevirtual 232, 3) := by decide +kernel
theorem dX5_perform_288 : decode cX5_perform 288 = .ok (.pop, 1) := by decide +kernel
theorem dX5_perform_289 : decode cX5_perform 289 = .ok (.iconst 0, 1) := by decide +kernel
theorem dX5_perform_290 : decode cX5_perform 290 = .ok (.ireturn, 1) := by decide +kernel
theorem dX5_perform_291 : decode cX5_perform 291 = .ok (.aload_n 0, 1) := by decide +kernel
theorem dX5_perform_292 : decode cX5_perform 292 = .ok (.aload_n 1, 1) := by decide +kernel
theorem dX5_perform_293 : decode cX5_perform 293 = .ok (.iload_n 3, 1) := by decide +kernel
theorem dX5_perform_294 : decode cX5_perform 294 = .ok (.ifCond .eq 7, 3) := by decide +kernel
theorem dX5_perform_297 : decode cX5_perform 297 = .ok (.iconst 1, 1) := by decide +kernel
theorem dX5_perform_298 : decode cX5_perform 298 = .ok (.goto 4, 3) := by decide +kernel
theorem dX5_perform_301 : decode cX5_perform 301 = .ok (.iconst 0, 1) := by decide +kernel
theorem dX5_perform_302 : decode cX5_perform 302 = .ok (.invokevirtual 236, 3) := by decide +kernel
theorem dX5_perform_305 : decode cX5_perform 305 = .ok (.ireturn, 1) := by decide +kernel
theorem dX5_perform_306 : decode cX5_perform 306 = .ok (.aload_n 0, 1) := by decide +kernel
theorem dX5_perform_307 : decode cX5_perform 307 = .ok (.aload_n 1, 1) := by decide +kernel
theorem dX5_perform_308 : decode cX5_perform 308 = .ok (.iload_n 2, 1) := by decide +kernel
theorem dX5_perform_309 : decode cX5_perform 309 = .ok (.invokevirtual 239, 3) := by decide +kernel
theorem dX5_perform_312 : decode cX5_perform 312 = .ok (.ireturn, 1) := by decide +kernel
theorem dX5_perform_313 : decode cX5_perform 313 = .ok (.aload_n 0, 1) := by decide +kernel
theorem dX5_perform_314 : decode cX5_perform 314 = .ok (.aload_n 1, 1) := by decide +kernel
theorem dX5_perform_315 : decode cX5_perform 315 = .ok (.invokevirtual 242, 3) := by decide +kernel
theorem dX5_perform_318 : decode cX5_perform 318 = .ok (.ireturn, 1) := by decide +kernel
theorem dX5_perform_319 : decode cX5_perform 319 = .ok (.getstatic 165, 3) := by decide +kernel
theorem dX5_perform_322 : decode cX5_perform 322 = .ok (.iload_n 2, 1) := by decide +kernel
theorem dX5_perform_323 : decode cX5_perform 323 = .ok (.iaload, 1) := by decide +kernel
theorem dX5_perform_324 : decode cX5_perform 324 = .ok (.ifCond .eq 12, 3) := by decide +kernel
theorem dX5_perform_327 : decode cX5_perform 327 = .ok (.aload_n 0, 1) := by decide +kernel
theorem dX5_perform_328 : decode cX5_perform 328 = .ok (.aload_n 1, 1) := by decide +kernel
theorem dX5_perform_329 : decode cX5_perform 329 = .ok (.iload_n 2, 1) := by decide +kernel
theorem dX5_perform_330 : decode cX5_perform 330 = .ok (.invokevirtual 245, 3) := by decide +kernel
theorem dX5_perform_333 : decode cX5_perform 333 = .ok (.goto 8, 3) := by decide +kernel
theorem dX5_perform_336 : decode cX5_perform 336 = .ok (.aload_n 0, 1) := by decide +kernel
theorem dX5_perform_337 : decode cX5_perform 337 = .ok (.iload_n 2, 1) := by decide +kernel
theorem dX5_perform_338 : decode cX5_perform 338 = .ok (.invokevirtual 248, 3) := by decide +kernel
theorem dX5_perform_341 : decode cX5_perform 341 = .ok (.ireturn, 1) := by decide +kernel
theorem dX5_goIf_0 : decode cX5_goIf 0 = .ok (.iload_n 2, 1) := by decide +kernel
theorem dX5_goIf_1 : decode cX5_goIf 1 = .ok (.ifCond .eq 11, 3) := by decide +kernel
theorem dX5_goIf_4 : decode cX5_goIf 4 = .ok (.aload_n 1, 1) := by decide +kernel
theorem dX5_goIf_5 : decode cX5_goIf 5 = .ok (.aload_n 0, 1) := by decide +kernel
theorem dX5_goIf_6 : decode cX5_goIf 6 = .ok (.getfield 186, 3) := by decide +kernel
theorem dX5_goIf_9 : decode cX5_goIf 9 = .ok (.putfield 189, 3) := by decide +kernel
theorem dX5_goIf_12 : decode cX5_goIf 12 = .ok (.iconst 0, 1) := by decide +kernel
theorem dX5_goIf_13 : decode cX5_goIf 13 = .ok (.ireturn, 1) := by decide +kernel
theorem dX5_stopScript_0 : decode cX5_stopScript 0 = .ok (.iconst 0, 1) := by decide +kernel
theorem dX5_stopScript_1 : decode cX5_stopScript 1 = .ok (.istore_n 3, 1) := by decide +kernel
theorem dX5_stopScript_2 : decode cX5_stopScript 2 = .ok (.iload_n 3, 1) := by decide +kernel
theorem dX5_stopScript_3 : decode cX5_stopScript 3 = .ok (.bipush 8, 2) := by decide +kernel
theorem dX5_stopScript_5 : decode cX5_stopScript 5 = .ok (.if_icmp .ge 37, 3) := by decide +kernel
theorem dX5_stopScript_8 : decode cX5_stopScript 8 = .ok (.aload_n 0, 1) := by decide +kernel
theorem dX5_stopScript_9 : decode cX5_stopScript 9 = .ok (.getfield 23, 3) := by decide +kernel
theorem dX5_stopScript_12 : decode cX5_stopScript 12 = .ok (.getfield 50, 3) := by decide +kernel
theorem dX5_stopScript_15 : decode cX5_stopScript 15 = .ok (.iload_n 3, 1) := by decide +kernel
theorem dX5_stopScript_16 : decode cX5_stopScript 16 = .ok (.aaload, 1) := by decide +kernel
theorem dX5_stopScript_17 : decode cX5_stopScript 17 = .ok (.getfield 103, 3) := by decide +kernel
theorem dX5_stopScript_20 : decode cX5_stopScript 20 = .ok (.iload_n 2, 1) := by decide +kernel
theorem dX5_stopScript_21 : decode cX5_stopScript 21 = .ok (.if_icmp .ne 15, 3) := by decide +kernel
theorem dX5_stopScript_24 : decode cX5_stopScript 24 = .ok (.aload_n 0, 1) := by decide +kernel
theorem dX5_stopScript_25 : decode cX5_stopScript 25 = .ok (.getfield 23, 3) := by decide +kernel
theorem dX5_stopScript_28 : decode cX5_stopScript 28 = .ok (.getfield 50, 3) := by decide +kernel
theorem dX5_stopScript_31 : decode cX5_stopScript 31 = .ok (.iload_n 3, 1) := by decide +kernel
theorem dX5_stopScript_32 : decode cX5_stopScript 32 = .ok (.aaload, 1) := by decide +kernel
theorem dX5_stopScript_33 : decode cX5_stopScript 33 = .ok (.invokevirtual 117, 3) := by decide +kernel
theorem dX5_stopScript_36 : decode cX5_stopScript 36 = .ok (.iinc 3 1, 3) := by decide +kernel
theorem dX5_stopScript_39 : decode cX5_stopScript 39 = .ok (.goto (-37), 3) := by decide +kernel
theorem dX5_stopScript_42 : decode cX5_stopScript 42 = .ok (.aload_n 1, 1) := by decide +kernel
theorem dX5_stopScript_43 : decode cX5_stopScript 43 = .ok (.invokevirtual 123, 3) := by decide +kernel
theorem dX5_stopScript_46 : decode cX5_stopScript 46 = .ok (.ifCond .eq 7, 3) := by decide +kernel
theorem dX5_stopScript_49 : decode cX5_stopScript 49 = .ok (.iconst 0, 1) := by decide +kernel
theorem dX5_stopScript_50 : decode cX5_stopScript 50 = .ok (.goto 4, 3) := by decide +kernel
theorem dX5_stopScript_53 : decode cX5_stopScript 53 = .ok (.iconst 1, 1) := by decide +kernel
theorem dX5_stopScript_54 : decode cX5_stopScript 54 = .ok (.ireturn, 1) := by decide +kernel
theorem dX5_chain_0 : decode cX5_chain 0 = .ok (.aload_n 0, 1) := by decide +kernel
theorem dX5_chain_1 : decode cX5_chain 1 = .ok (.getfield 15, 3) := by decide +kernel
theorem dX5_chain_4 : decode cX5_chain 4 = .ok (.getfield 63, 3) := by decide +kernel
theorem dX5_chain_7 : decode cX5_chain 7 = .ok (.iload_n 2, 1) := by decide +kernel
theorem dX5_chain_8 : decode cX5_chain 8 = .ok (.invokevirtual 69, 3) := by decide +kernel
theorem dX5_chain_11 : decode cX5_chain 11 = .ok (.ifCond .ne 9, 3) := by decide +kernel
theorem dX5_chain_14 : decode cX5_chain 14 = .ok (.aload_n 1, 1) := by decide +kernel
theorem dX5_chain_15 : decode cX5_chain 15 = .ok (.invokevirtual 117, 3) := by decide +kernel
theorem dX5_chain_18 : decode cX5_chain 18 = .ok (.iconst 1, 1) := by decide +kernel
theorem dX5_chain_19 : decode cX5_chain 19 = .ok (.ireturn, 1) := by decide +kernel
theorem dX5_chain_20 : decode cX5_chain 20 = .ok (.aload_n 1, 1) := by decide +kernel
theorem dX5_chain_21 : decode cX5_chain 21 = .ok (.iload_n 2, 1) := by decide +kernel
theorem dX5_chain_22 : decode cX5_chain 22 = .ok (.putfield 103, 3) := by decide +kernel
theorem dX5_chain_25 : decode cX5_chain 25 = .ok (.aload_n 1, 1) := by decide +kernel
theorem dX5_chain_26 : decode cX5_chain 26 = .ok (.iconst 0, 1) := by decide +kernel
theorem dX5_chain_27 : decode cX5_chain 27 = .ok (.putfield 189, 3) := by decide +kernel
theorem dX5_chain_30 : decode cX5_chain 30 = .ok (.aload_n 0, 1) := by decide +kernel
theorem dX5_chain_31 : decode cX5_chain 31 = .ok (.iload_n 2, 1) := by decide +kernel
theorem dX5_chain_32 : decode cX5_chain 32 = .ok (.invokevirtual 106, 3) := by decide +kernel
theorem dX5_chain_35 : decode cX5_chain 35 = .ok (.iconst 0, 1) := by decide +kernel
theorem dX5_chain_36 : decode cX5_chain 36 = .ok (.ireturn, 1) := by decide +kernel
theorem dX5_await_0 : decode cX5_await 0 = .ok (.aload_n 0, 1) := by decide +kernel
theorem dX5_await_1 : decode cX5_await 1 = .ok (.getfield 15, 3) := by decide +kernel
theorem dX5_await_4 : decode cX5_await 4 = .ok (.getfield 133, 3) := by decide +kernel
theorem dX5_await_7 : decode cX5_await 7 = .ok (.iload_n 2, 1) := by decide +kernel
theorem dX5_await_8 : decode cX5_await 8 = .ok (.invokevirtual 69, 3) := by decide +kernel
theorem dX5_await_11 : decode cX5_await 11 = .ok (.ifCond .ne 5, 3) := by decide +kernel
theorem dX5_await_14 : decode cX5_await 14 = .ok (.iconst 2, 1) := by decide +kernel
theorem dX5_await_15 : decode cX5_await 15 = .ok (.ireturn, 1) := by decide +kernel
theorem dX5_await_16 : decode cX5_await 16 = .ok (.aload_n 1, 1) := by decide +kernel
theorem dX5_await_17 : decode cX5_await 17 = .ok (.iload_n 2, 1) := by decide +kernel
theorem dX5_await_18 : decode cX5_await 18 = .ok (.putfield 136, 3) := by decide +kernel
theorem dX5_await_21 : decode cX5_await 21 = .ok (.iconst 1, 1) := by decide +kernel
theorem dX5_await_22 : decode cX5_await 22 = .ok (.ireturn, 1) := by decide +kernel
theorem dX5_freezeOthers_0 : decode cX5_freezeOthers 0 = .ok (.iconst 0, 1) := by decide +kernel
theorem dX5_freezeOthers_1 : decode cX5_freezeOthers 1 = .ok (.istore_n 3, 1) := by decide +kernel
theorem dX5_freezeOthers_2 : decode cX5_freezeOthers 2 = .ok (.iload_n 3, 1) := by decide +kernel
theorem dX5_freezeOthers_3 : decode cX5_freezeOthers 3 = .ok (.bipush 8, 2) := by decide +kernel
theorem dX5_freezeOthers_5 : decode cX5_freezeOthers 5 = .ok (.if_icmp .ge 48, 3) := by decide +kernel
theorem dX5_freezeOthers_8 : decode cX5_freezeOthers 8 = .ok (.aload_n 0, 1) := by decide +kernel
theorem dX5_freezeOthers_9 : decode cX5_freezeOthers 9 = .ok (.getfield 23, 3) := by decide +kernel
theorem dX5_freezeOthers_12 : decode cX5_freezeOthers 12 = .ok (.getfield 50, 3) := by decide +kernel
theorem dX5_freezeOthers_15 : decode cX5_freezeOthers 15 = .ok (.iload_n 3, 1) := by decide +kernel
theorem dX5_freezeOthers_16 : decode cX5_freezeOthers 16 = .ok (.aaload, 1) := by decide +kernel
theorem dX5_freezeOthers_17 : decode cX5_freezeOthers 17 = .ok (.astore 4, 2) := by decide +kernel
theorem dX5_freezeOthers_19 : decode cX5_freezeOthers 19 = .ok (.aload 4, 2) := by decide +kernel
theorem dX5_freezeOthers_21 : decode cX5_freezeOthers 21 = .ok (.iload_n 2, 1) := by decide +kernel
theorem dX5_freezeOthers_22 : decode cX5_freezeOthers 22 = .ok (.ifCond .eq 21, 3) := by decide +kernel
theorem dX5_freezeOthers_25 : decode cX5_freezeOthers 25 = .ok (.aload 4, 2) := by decide +kernel
theorem dX5_freezeOthers_27 : decode cX5_freezeOthers 27 = .ok (.invokevirtual 123, 3) := by decide +kernel
theorem dX5_freezeOthers_30 : decode cX5_freezeOthers 30 = .ok (.ifCond .eq 13, 3) := by decide +kernel
theorem dX5_freezeOthers_33 : decode cX5_freezeOthers 33 = .ok (.aload 4, 2) := by decide +kernel
theorem dX5_freezeOthers_35 : decode cX5_freezeOthers 35 = .ok (.aload_n 1, 1) := by decide +kernel
theorem dX5_freezeOthers_36 : decode cX5_freezeOthers 36 = .ok (.if_acmp .eq 7, 3) := by decide +kernel
theorem dX5_freezeOthers_39 : decode cX5_freezeOthers 39 = .ok (.iconst 1, 1) := by decide +kernel
theorem dX5_freezeOthers_40 : decode cX5_freezeOthers 40 = .ok (.goto 4, 3) := by decide +kernel
theorem dX5_freezeOthers_43 : decode cX5_freezeOthers 43 = .ok (.iconst 0, 1) := by decide +kernel
theorem dX5_freezeOthers_44 : decode cX5_freezeOthers 44 = .ok (.putfield 126, 3) := by decide +kernel
theorem dX5_freezeOthers_47 : decode cX5_freezeOthers 47 = .ok (.iinc 3 1, 3) := by decide +kernel
theorem dX5_freezeOthers_50 : decode cX5_freezeOthers 50 = .ok (.goto (-48), 3) := by decide +kernel
theorem dX5_freezeOthers_53 : decode cX5_freezeOthers 53 = .ok (.iconst 0, 1) := by decide +kernel
theorem dX5_freezeOthers_54 : decode cX5_freezeOthers 54 = .ok (.ireturn, 1) := by decide +kernel
theorem dX5_changeStage_0 : decode cX5_changeStage 0 = .ok (.aload_n 0, 1) := by decide +kernel
theorem dX5_changeStage_1 : decode cX5_changeStage 1 = .ok (.getfield 9, 3) := by decide +kernel
theorem dX5_changeStage_4 : decode cX5_changeStage 4 = .ok (.iconst 0, 1) := by decide +kernel
theorem dX5_changeStage_5 : decode cX5_changeStage 5 = .ok (.iaload, 1) := by decide +kernel
theorem dX5_changeStage_6 : decode cX5_changeStage 6 = .ok (.istore_n 2, 1) := by decide +kernel
theorem dX5_changeStage_7 : decode cX5_changeStage 7 = .ok (.iload_n 1, 1) := by decide +kernel
theorem dX5_changeStage_8 : decode cX5_changeStage 8 = .ok (.tableswitch 159 13 19 #[44, 68, 159, 97, 109, 121, 133], 44) := by decide +kernel
theorem dX5_changeStage_52 : decode cX5_changeStage 52 = .ok (.aload_n 0, 1) := by decide +kernel
theorem dX5_changeStage_53 : decode cX5_changeStage 53 = .ok (.iload_n 2, 1) := by decide +kernel
theorem dX5_changeStage_54 : decode cX5_changeStage 54 = .ok (.aload_n 0, 1) := by decide +kernel
theorem dX5_changeStage_55 : decode cX5_changeStage 55 = .ok (.getfield 9, 3) := by decide +kernel
theorem dX5_changeStage_58 : decode cX5_changeStage 58 = .ok (.iconst 1, 1) := by decide +kernel
theorem dX5_changeStage_59 : decode cX5_changeStage 59 = .ok (.iaload, 1) := by decide +kernel
theorem dX5_changeStage_60 : decode cX5_changeStage 60 = .ok (.aload_n 0, 1) := by decide +kernel
theorem dX5_changeStage_61 : decode cX5_changeStage 61 = .ok (.getfield 9, 3) := by decide +kernel
theorem dX5_changeStage_64 : decode cX5_changeStage 64 = .ok (.iconst 2, 1) := by decide +kernel
theorem dX5_changeStage_65 : decode cX5_changeStage 65 = .ok (.iaload, 1) := by decide +kernel
theorem dX5_changeStage_66 : decode cX5_changeStage 66 = .ok (.aload_n 0, 1) := by decide +kernel
theorem dX5_changeStage_67 : decode cX5_changeStage 67 = .ok (.getfield 9, 3) := by decide +kernel
theorem dX5_changeStage_70 : decode cX5_changeStage 70 = .ok (.iconst 3, 1) := by decide +kernel
theorem dX5_changeStage_71 : decode cX5_changeStage 71 = .ok (.iaload, 1) := by decide +kernel
theorem dX5_changeStage_72 : decode cX5_changeStage 72 = .ok (.invokevirtual 251, 3) := by decide +kernel
theorem dX5_changeStage_75 : decode cX5_changeStage 75 = .ok (.ireturn, 1) := by decide +kernel
theorem dX5_changeStage_76 : decode cX5_changeStage 76 = .ok (.aload_n 0, 1) := by decide +kernel
theorem dX5_changeStage_77 : decode cX5_changeStage 77 = .ok (.getfield 27, 3) := by decide +kernel
theorem dX5_changeStage_80 : decode cX5_changeStage 80 = .ok (.iload_n 2, 1) := by decide +kernel
theorem dX5_changeStage_81 : decode cX5_changeStage 81 = .ok (.aload_n 0, 1) := by decide +kernel
theorem dX5_changeStage_82 : decode cX5_changeStage 82 = .ok (.getfield 9, 3) := by decide +kernel
theorem dX5_changeStage_85 : decode cX5_changeStage 85 = .ok (.iconst 1, 1) := by decide +kernel
theorem dX5_changeStage_86 : decode cX5_changeStage 86 = .ok (.iaload, 1) := by decide +kernel
theorem dX5_changeStage_87 : decode cX5_changeStage 87 = .ok (.aload_n 0, 1) := by decide +kernel
theorem dX5_changeStage_88 : decode cX5_changeStage 88 = .ok (.getfield 9, 3) := by decide +kernel
theorem dX5_changeStage_91 : decode cX5_changeStage 91 = .ok (.iconst 2, 1) := by decide +kernel
theorem dX5_changeStage_92 : decode cX5_changeStage 92 = .ok (.iaload, 1) := by decide +kernel
theorem dX5_changeStage_93 : decode cX5_changeStage 93 = .ok (.invokevirtual 255, 3) := by decide +kernel
theorem dX5_changeStage_96 : decode cX5_changeStage 96 = .ok (.ifCond .eq 7, 3) := by decide +kernel
theorem dX5_changeStage_99 : decode cX5_changeStage 99 = .ok (.iconst 0, 1) := by decide +kernel
theorem dX5_changeStage_100 : decode cX5_changeStage 100 = .ok (.goto 4, 3) := by decide +kernel
theorem dX5_changeStage_103 : decode cX5_changeStage 103 = .ok (.iconst 2, 1) := by decide +kernel
theorem dX5_changeStage_104 : decode cX5_changeStage 104 = .ok (.ireturn, 1) := by decide +kernel
theorem dX5_changeStage_105 : decode cX5_changeStage 105 = .ok (.aload_n 0, 1) := by decide +kernel
theorem dX5_changeStage_106 : decode cX5_changeStage 106 = .ok (.iload_n 2, 1) := by decide +kernel
theorem dX5_changeStage_107 : decode cX5_changeStage 107 = .ok (.aload_n 0, 1) := by decide +kernel
theorem dX5_changeStage_108 : decode cX5_changeStage 108 = .ok (.getfield 9, 3) := by decide +kernel
theorem dX5_changeStage_111 : decode cX5_changeStage 111 = .ok (.iconst 1, 1) := by decide +kernel
theorem dX5_changeStage_112 : decode cX5_changeStage 112 = .ok (.iaload, 1) := by decide +kernel
theorem dX5_changeStage_113 : decode cX5_changeStage 113 = .ok (.invokevirtual 258, 3) := by decide +kernel
theorem dX5_changeStage_116 : decode cX5_changeStage 116 = .ok (.ireturn, 1) := by decide +kernel
theorem dX5_changeStage_117 : decode cX5_changeStage 117 = .ok (.aload_n 0, 1) := by decide +kernel
theorem dX5_changeStage_118 : decode cX5_changeStage 118 = .ok (.iload_n 2, 1) := by decide +kernel
theorem dX5_changeStage_119 : decode cX5_changeStage 119 = .ok (.aload_n 0, 1) := by decide +kernel
theorem dX5_changeStage_120 : decode cX5_changeStage 120 = .ok (.getfield 9, 3) := by decide +kernel
theorem dX5_changeStage_123 : decode cX5_changeStage 123 = .ok (.iconst 1, 1) := by decide +kernel
theorem dX5_changeStage_124 : decode cX5_changeStage 124 = .ok (.iaload, 1) := by decide +kernel
theorem dX5_changeStage_125 : decode cX5_changeStage 125 = .ok (.invokevirtual 261, 3) := by decide +kernel
theorem dX5_changeStage_128 : decode cX5_changeStage 128 = .ok (.ireturn, 1) := by decide +kernel
theorem dX5_changeStage_129 : decode cX5_changeStage 129 = .ok (.aload_n 0, 1) := by decide +kernel
theorem dX5_changeStage_130 : decode cX5_changeStage 130 = .ok (.iload_n 2, 1) := by decide +kernel
theorem dX5_changeStage_131 : decode cX5_changeStage 131 = .ok (.aload_n 0, 1) := by decide +kernel
theorem dX5_changeStage_132 : decode cX5_changeStage 132 = .ok (.getfield 9, 3) := by decide +kernel
theorem dX5_changeStage_135 : decode cX5_changeStage 135 = .ok (.iconst 1, 1) := by decide +kernel
theorem dX5_changeStage_136 : decode cX5_changeStage 136 = .ok (.iaload, 1) := by decide +kernel
theorem dX5_changeStage_137 : decode cX5_changeStage 137 = .ok (.invokevirtual 264, 3) := by decide +kernel
theorem dX5_changeStage_140 : decode cX5_changeStage 140 = .ok (.ireturn, 1) := by decide +kernel
theorem dX5_changeStage_141 : decode cX5_changeStage 141 = .ok (.aload_n 0, 1) := by decide +kernel
theorem dX5_changeStage_142 : decode cX5_changeStage 142 = .ok (.iload_n 2, 1) := by decide +kernel
theorem dX5_changeStage_143 : decode cX5_changeStage 143 = .ok (.aload_n 0, 1) := by decide +kernel
theorem dX5_changeStage_144 : decode cX5_changeStage 144 = .ok (.getfield 9, 3) := by decide +kernel
theorem dX5_changeStage_147 : decode cX5_changeStage 147 = .ok (.iconst 1, 1) := by decide +kernel
theorem dX5_changeStage_148 : decode cX5_changeStage 148 = .ok (.iaload, 1) := by decide +kernel
theorem dX5_changeStage_149 : decode cX5_changeStage 149 = .ok (.aload_n 0, 1) := by decide +kernel
theorem dX5_changeStage_150 : decode cX5_changeStage 150 = .ok (.getfield 9, 3) := by decide +kernel
theorem dX5_changeStage_153 : decode cX5_changeStage 153 = .ok (.iconst 2, 1) := by decide +kernel
theorem dX5_changeStage_154 : decode cX5_changeStage 154 = .ok (.iaload, 1) := by decide +kernel
theorem dX5_changeStage_155 : decode cX5_changeStage 155 = .ok (.ifCond .eq 7, 3) := by decide +kernel
theorem dX5_changeStage_158 : decode cX5_changeStage 158 = .ok (.iconst 1, 1) := by decide +kernel
theorem dX5_changeStage_159 : decode cX5_changeStage 159 = .ok (.goto 4, 3) := by decide +kernel
theorem dX5_changeStage_162 : decode cX5_changeStage 162 = .ok (.iconst 0, 1) := by decide +kernel
theorem dX5_changeStage_163 : decode cX5_changeStage 163 = .ok (.invokevirtual 267, 3) := by decide +kernel
theorem dX5_changeStage_166 : decode cX5_changeStage 166 = .ok (.ireturn, 1) := by decide +kernel
theorem dX5_changeStage_167 : decode cX5_changeStage 167 = .ok (.iconst 2, 1) := by decide +kernel
theorem dX5_changeStage_168 : decode cX5_changeStage 168 = .ok (.ireturn, 1) := by decide +kernel
theorem dX5_putActor_0 : decode cX5_putActor 0 = .ok (.aload_n 0, 1) := by decide +kernel
theorem dX5_putActor_1 : decode cX5_putActor 1 = .ok (.getfield 15, 3) := by decide +kernel
theorem dX5_putActor_4 : decode cX5_putActor 4 = .ok (.getfield 133, 3) := by decide +kernel
theorem dX5_putActor_7 : decode cX5_putActor 7 = .ok (.iload_n 1, 1) := by decide +kernel
theorem dX5_putActor_8 : decode cX5_putActor 8 = .ok (.invokevirtual 69, 3) := by decide +kernel
theorem dX5_putActor_11 : decode cX5_putActor 11 = .ok (.ifCond .eq 28, 3) := by decide +kernel
theorem dX5_putActor_14 : decode cX5_putActor 14 = .ok (.iload_n 2, 1) := by decide +kernel
theorem dX5_putActor_15 : decode cX5_putActor 15 = .ok (.ifCond .lt 24, 3) := by decide +kernel
theorem dX5_putActor_18 : decode cX5_putActor 18 = .ok (.iload_n 2, 1) := by decide +kernel
theorem dX5_putActor_19 : decode cX5_putActor 19 = .ok (.bipush 20, 2) := by decide +kernel
theorem dX5_putActor_21 : decode cX5_putActor 21 = .ok (.if_icmp .gt 18, 3) := by decide +kernel
theorem dX5_putActor_24 : decode cX5_putActor 24 = .ok (.iload_n 3, 1) := by decide +kernel
theorem dX5_putActor_25 : decode cX5_putActor 25 = .ok (.invokestatic 271, 3) := by decide +kernel
theorem dX5_putActor_28 : decode cX5_putActor 28 = .ok (.ifCond .eq 11, 3) := by decide +kernel
theorem dX5_putActor_31 : decode cX5_putActor 31 = .ok (.iload 4, 2) := by decide +kernel
theorem dX5_putActor_33 : decode cX5_putActor 33 = .ok (.invokestatic 271, 3) := by decide +kernel
theorem dX5_putActor_36 : decode cX5_putActor 36 = .ok (.ifCond .ne 5, 3) := by decide +kernel
theorem dX5_putActor_39 : decode cX5_putActor 39 = .ok (.iconst 2, 1) := by decide +kernel
theorem dX5_putActor_40 : decode cX5_putActor 40 = .ok (.ireturn, 1) := by decide +kernel
theorem dX5_putActor_41 : decode cX5_putActor 41 = .ok (.aload_n 0, 1) := by decide +kernel
theorem dX5_putActor_42 : decode cX5_putActor 42 = .ok (.getfield 23, 3) := by decide +kernel
theorem dX5_putActor_45 : decode cX5_putActor 45 = .ok (.getfield 139, 3) := by decide +kernel
theorem dX5_putActor_48 : decode cX5_putActor 48 = .ok (.iload_n 1, 1) := by decide +kernel
theorem dX5_putActor_49 : decode cX5_putActor 49 = .ok (.aaload, 1) := by decide +kernel
theorem dX5_putActor_50 : decode cX5_putActor 50 = .ok (.iload_n 2, 1) := by decide +kernel
theorem dX5_putActor_51 : decode cX5_putActor 51 = .ok (.iload_n 3, 1) := by decide +kernel
theorem dX5_putActor_52 : decode cX5_putActor 52 = .ok (.iload 4, 2) := by decide +kernel
theorem dX5_putActor_54 : decode cX5_putActor 54 = .ok (.invokevirtual 274, 3) := by decide +kernel
theorem dX5_putActor_57 : decode cX5_putActor 57 = .ok (.iconst 0, 1) := by decide +kernel
theorem dX5_putActor_58 : decode cX5_putActor 58 = .ok (.ireturn, 1) := by decide +kernel
theorem dX5_setSpeed_0 : decode cX5_setSpeed 0 = .ok (.aload_n 0, 1) := by decide +kernel
theorem dX5_setSpeed_1 : decode cX5_setSpeed 1 = .ok (.getfield 15, 3) := by decide +kernel
theorem dX5_setSpeed_4 : decode cX5_setSpeed 4 = .ok (.getfield 133, 3) := by decide +kernel
theorem dX5_setSpeed_7 : decode cX5_setSpeed 7 = .ok (.iload_n 1, 1) := by decide +kernel
theorem dX5_setSpeed_8 : decode cX5_setSpeed 8 = .ok (.invokevirtual 69, 3) := by decide +kernel
theorem dX5_setSpeed_11 : decode cX5_setSpeed 11 = .ok (.ifCond .eq 13, 3) := by decide +kernel
theorem dX5_setSpeed_14 : decode cX5_setSpeed 14 = .ok (.iload_n 2, 1) := by decide +kernel
theorem dX5_setSpeed_15 : decode cX5_setSpeed 15 = .ok (.ifCond .lt 9, 3) := by decide +kernel
theorem dX5_setSpeed_18 : decode cX5_setSpeed 18 = .ok (.iload_n 2, 1) := by decide +kernel
theorem dX5_setSpeed_19 : decode cX5_setSpeed 19 = .ok (.bipush 8, 2) := by decide +kernel
theorem dX5_setSpeed_21 : decode cX5_setSpeed 21 = .ok (.if_icmp .le 5, 3) := by decide +kernel
theorem dX5_setSpeed_24 : decode cX5_setSpeed 24 = .ok (.iconst 2, 1) := by decide +kernel
theorem dX5_setSpeed_25 : decode cX5_setSpeed 25 = .ok (.ireturn, 1) := by decide +kernel
theorem dX5_setSpeed_26 : decode cX5_setSpeed 26 = .ok (.aload_n 0, 1) := by decide +kernel
theorem dX5_setSpeed_27 : decode cX5_setSpeed 27 = .ok (.getfield 23, 3) := by decide +kernel
theorem dX5_setSpeed_30 : decode cX5_setSpeed 30 = .ok (.getfield 139, 3) := by decide +kernel
theorem dX5_setSpeed_33 : decode cX5_setSpeed 33 = .ok (.iload_n 1, 1) := by decide +kernel
theorem dX5_setSpeed_34 : decode cX5_setSpeed 34 = .ok (.aaload, 1) := by decide +kernel
theorem dX5_setSpeed_35 : decode cX5_setSpeed 35 = .ok (.iload_n 2, 1) := by decide +kernel
theorem dX5_setSpeed_36 : decode cX5_setSpeed 36 = .ok (.putfield 278, 3) := by decide +kernel
theorem dX5_setSpeed_39 : decode cX5_setSpeed 39 = .ok (.iconst 0, 1) := by decide +kernel
theorem dX5_setSpeed_40 : decode cX5_setSpeed 40 = .ok (.ireturn, 1) := by decide +kernel
theorem dX5_setState_0 : decode cX5_setState 0 = .ok (.aload_n 0, 1) := by decide +kernel
theorem dX5_setState_1 : decode cX5_setState 1 = .ok (.getfield 15, 3) := by decide +kernel
theorem dX5_setState_4 : decode cX5_setState 4 = .ok (.getfield 281, 3) := by decide +kernel
theorem dX5_setState_7 : decode cX5_setState 7 = .ok (.iload_n 1, 1) := by decide +kernel
theorem dX5_setState_8 : decode cX5_setState 8 = .ok (.invokevirtual 69, 3) := by decide +kernel
theorem dX5_setState_11 : decode cX5_setState 11 = .ok (.ifCond .eq 10, 3) := by decide +kernel
theorem dX5_setState_14 : decode cX5_setState 14 = .ok (.iload_n 2, 1) := by decide +kernel
theorem dX5_setState_15 : decode cX5_setState 15 = .ok (.invokestatic 271, 3) := by decide +kernel
theorem dX5_setState_18 : decode cX5_setState 18 = .ok (.ifCond .ne 5, 3) := by decide +kernel
theorem dX5_setState_21 : decode cX5_setState 21 = .ok (.iconst 2, 1) := by decide +kernel
theorem dX5_setState_22 : decode cX5_setState 22 = .ok (.ireturn, 1) := by decide +kernel
theorem dX5_setState_23 : decode cX5_setState 23 = .ok (.aload_n 0, 1) := by decide +kernel
theorem dX5_setState_24 : decode cX5_setState 24 = .ok (.getfield 23, 3) := by decide +kernel
theorem dX5_setState_27 : decode cX5_setState 27 = .ok (.getfield 284, 3) := by decide +kernel
theorem dX5_setState_30 : decode cX5_setState 30 = .ok (.iload_n 1, 1) := by decide +kernel
theorem dX5_setState_31 : decode cX5_setState 31 = .ok (.iload_n 2, 1) := by decide +kernel
theorem dX5_setState_32 : decode cX5_setState 32 = .ok (.iastore, 1) := by decide +kernel
theorem dX5_setState_33 : decode cX5_setState 33 = .ok (.iconst 0, 1) := by decide +kernel
theorem dX5_setState_34 : decode cX5_setState 34 = .ok (.ireturn, 1) := by decide +kernel
theorem dX5_setOwner_0 : decode cX5_setOwner 0 = .ok (.aload_n 0, 1) := by decide +kernel
theorem dX5_setOwner_1 : decode cX5_setOwner 1 = .ok (.getfield 15, 3) := by decide +kernel
theorem dX5_setOwner_4 : decode cX5_setOwner 4 = .ok (.getfield 281, 3) := by decide +kernel
theorem dX5_setOwner_7 : decode cX5_setOwner 7 = .ok (.iload_n 1, 1) := by decide +kernel
theorem dX5_setOwner_8 : decode cX5_setOwner 8 = .ok (.invokevirtual 69, 3) := by decide +kernel
theorem dX5_setOwner_11 : decode cX5_setOwner 11 = .ok (.ifCond .eq 21, 3) := by decide +kernel
theorem dX5_setOwner_14 : decode cX5_setOwner 14 = .ok (.iload_n 2, 1) := by decide +kernel
theorem dX5_setOwner_15 : decode cX5_setOwner 15 = .ok (.ifCond .eq 19, 3) := by decide +kernel
theorem dX5_setOwner_18 : decode cX5_setOwner 18 = .ok (.aload_n 0, 1) := by decide +kernel
theorem dX5_setOwner_19 : decode cX5_setOwner 19 = .ok (.getfield 15, 3) := by decide +kernel
theorem dX5_setOwner_22 : decode cX5_setOwner 22 = .ok (.getfield 133, 3) := by decide +kernel
theorem dX5_setOwner_25 : decode cX5_setOwner 25 = .ok (.iload_n 2, 1) := by decide +kernel
theorem dX5_setOwner_26 : decode cX5_setOwner 26 = .ok (.invokevirtual 69, 3) := by decide +kernel
theorem dX5_setOwner_29 : decode cX5_setOwner 29 = .ok (.ifCond .ne 5, 3) := by decide +kernel
theorem dX5_setOwner_32 : decode cX5_setOwner 32 = .ok (.iconst 2, 1) := by decide +kernel
theorem dX5_setOwner_33 : decode cX5_setOwner 33 = .ok (.ireturn, 1) := by decide +kernel
theorem dX5_setOwner_34 : decode cX5_setOwner 34 = .ok (.aload_n 0, 1) := by decide +kernel
theorem dX5_setOwner_35 : decode cX5_setOwner 35 = .ok (.getfield 23, 3) := by decide +kernel
theorem dX5_setOwner_38 : decode cX5_setOwner 38 = .ok (.getfield 287, 3) := by decide +kernel
theorem dX5_setOwner_41 : decode cX5_setOwner 41 = .ok (.iload_n 1, 1) := by decide +kernel
theorem dX5_setOwner_42 : decode cX5_setOwner 42 = .ok (.iload_n 2, 1) := by decide +kernel
theorem dX5_setOwner_43 : decode cX5_setOwner 43 = .ok (.iastore, 1) := by decide +kernel
theorem dX5_setOwner_44 : decode cX5_setOwner 44 = .ok (.iconst 0, 1) := by decide +kernel
theorem dX5_setOwner_45 : decode cX5_setOwner 45 = .ok (.ireturn, 1) := by decide +kernel
theorem dX5_shutBox_0 : decode cX5_shutBox 0 = .ok (.aload_n 0, 1) := by decide +kernel
theorem dX5_shutBox_1 : decode cX5_shutBox 1 = .ok (.getfield 19, 3) := by decide +kernel
theorem dX5_shutBox_4 : decode cX5_shutBox 4 = .ok (.iload_n 1, 1) := by decide +kernel
theorem dX5_shutBox_5 : decode cX5_shutBox 5 = .ok (.iload_n 2, 1) := by decide +kernel
theorem dX5_shutBox_6 : decode cX5_shutBox 6 = .ok (.invokevirtual 290, 3) := by decide +kernel
theorem dX5_shutBox_9 : decode cX5_shutBox 9 = .ok (.ifCond .ne 5, 3) := by decide +kernel
theorem dX5_shutBox_12 : decode cX5_shutBox 12 = .ok (.iconst 2, 1) := by decide +kernel
theorem dX5_shutBox_13 : decode cX5_shutBox 13 = .ok (.ireturn, 1) := by decide +kernel
theorem dX5_shutBox_14 : decode cX5_shutBox 14 = .ok (.aload_n 0, 1) := by decide +kernel
theorem dX5_shutBox_15 : decode cX5_shutBox 15 = .ok (.getfield 23, 3) := by decide +kernel
theorem dX5_shutBox_18 : decode cX5_shutBox 18 = .ok (.iload_n 1, 1) := by decide +kernel
theorem dX5_shutBox_19 : decode cX5_shutBox 19 = .ok (.iload_n 2, 1) := by decide +kernel
theorem dX5_shutBox_20 : decode cX5_shutBox 20 = .ok (.iload_n 3, 1) := by decide +kernel
theorem dX5_shutBox_21 : decode cX5_shutBox 21 = .ok (.invokevirtual 296, 3) := by decide +kernel
theorem dX5_shutBox_24 : decode cX5_shutBox 24 = .ok (.iconst 0, 1) := by decide +kernel
theorem dX5_shutBox_25 : decode cX5_shutBox 25 = .ok (.ireturn, 1) := by decide +kernel
theorem dX5_assign_0 : decode cX5_assign 0 = .ok (.aload_n 0, 1) := by decide +kernel
theorem dX5_assign_1 : decode cX5_assign 1 = .ok (.getfield 9, 3) := by decide +kernel
theorem dX5_assign_4 : decode cX5_assign 4 = .ok (.iconst 0, 1) := by decide +kernel
theorem dX5_assign_5 : decode cX5_assign 5 = .ok (.iaload, 1) := by decide +kernel
theorem dX5_assign_6 : decode cX5_assign 6 = .ok (.istore_n 3, 1) := by decide +kernel
theorem dX5_assign_7 : decode cX5_assign 7 = .ok (.iload_n 2, 1) := by decide +kernel
theorem dX5_assign_8 : decode cX5_assign 8 = .ok (.tableswitch 313 3 32 #[136, 143, 160, 177, 194, 313, 313, 313, 313, 313, 313, 313, 313, 313, 313, 313, 313, 313, 313, 313, 313, 313, 313, 313, 313, 219, 252, 285, 313, 299], 136) := by decide +kernel
theorem dX5_assign_144 : decode cX5_assign 144 = .ok (.aload_n 0, 1) := by decide +kernel
theorem dX5_assign_145 : decode cX5_assign 145 = .ok (.aload_n 1, 1) := by decide +kernel
theorem dX5_assign_146 : decode cX5_assign 146 = .ok (.iload_n 3, 1) := by decide +kernel
theorem dX5_assign_147 : decode cX5_assign 147 = .ok (.invokevirtual 299, 3) := by decide +kernel
theorem dX5_assign_150 : decode cX5_assign 150 = .ok (.ireturn, 1) := by decide +kernel
theorem dX5_assign_151 : decode cX5_assign 151 = .ok (.aload_n 0, 1) := by decide +kernel
theorem dX5_assign_152 : decode cX5_assign 152 = .ok (.aload_n 1, 1) := by decide +kernel
theorem dX5_assign_153 : decode cX5_assign 153 = .ok (.aload_n 0, 1) := by decide +kernel
theorem dX5_assign_154 : decode cX5_assign 154 = .ok (.aload_n 1, 1) := by decide +kernel
theorem dX5_assign_155 : decode cX5_assign 155 = .ok (.aload_n 0, 1) := by decide +kernel
theorem dX5_assign_156 : decode cX5_assign 156 = .ok (.getfield 171, 3) := by decide +kernel
theorem dX5_assign_159 : decode cX5_assign 159 = .ok (.invokevirtual 205, 3) := by decide +kernel
theorem dX5_assign_162 : decode cX5_assign 162 = .ok (.iload_n 3, 1) := by decide +kernel
theorem dX5_assign_163 : decode cX5_assign 163 = .ok (.iadd, 1) := by decide +kernel
theorem dX5_assign_164 : decode cX5_assign 164 = .ok (.invokevirtual 299, 3) := by decide +kernel
theorem dX5_assign_167 : decode cX5_assign 167 = .ok (.ireturn, 1) := by decide +kernel
theorem dX5_assign_168 : decode cX5_assign 168 = .ok (.aload_n 0, 1) := by decide +kernel
theorem dX5_assign_169 : decode cX5_assign 169 = .ok (.aload_n 1, 1) := by decide +kernel
theorem dX5_assign_170 : decode cX5_assign 170 = .ok (.aload_n 0, 1) := by decide +kernel
theorem dX5_assign_171 : decode cX5_assign 171 = .ok (.aload_n 1, 1) := by decide +kernel
theorem dX5_assign_172 : decode cX5_assign 172 = .ok (.aload_n 0, 1) := by decide +kernel
theorem dX5_assign_173 : decode cX5_assign 173 = .ok (.getfield 171, 3) := by decide +kernel
theorem dX5_assign_176 : decode cX5_assign 176 = .ok (.invokevirtual 205, 3) := by decide +kernel
theorem dX5_assign_179 : decode cX5_assign 179 = .ok (.iload_n 3, 1) := by decide +kernel
theorem dX5_assign_180 : decode cX5_assign 180 = .ok (.isub, 1) := by decide +kernel
theorem dX5_assign_181 : decode cX5_assign 181 = .ok (.invokevirtual 299, 3) := by decide +kernel
theorem dX5_assign_184 : decode cX5_assign 184 = .ok (.ireturn, 1) := by decide +kernel
theorem dX5_assign_185 : decode cX5_assign 185 = .ok (.aload_n 0, 1) := by decide +kernel
theorem dX5_assign_186 : decode cX5_assign 186 = .ok (.aload_n 1, 1) := by decide +kernel
theorem dX5_assign_187 : decode cX5_assign 187 = .ok (.aload_n 0, 1) := by decide +kernel
theorem dX5_assign_188 : decode cX5_assign 188 = .ok (.aload_n 1, 1) := by decide +kernel
theorem dX5_assign_189 : decode cX5_assign 189 = .ok (.aload_n 0, 1) := by decide +kernel
theorem dX5_assign_190 : decode cX5_assign 190 = .ok (.getfield 171, 3) := by decide +kernel
theorem dX5_assign_193 : decode cX5_assign 193 = .ok (.invokevirtual 205, 3) := by decide +kernel
theorem dX5_assign_196 : decode cX5_assign 196 = .ok (.iload_n 3, 1) := by decide +kernel
theorem dX5_assign_197 : decode cX5_assign 197 = .ok (.imul, 1) := by decide +kernel
theorem dX5_assign_198 : decode cX5_assign 198 = .ok (.invokevirtual 299, 3) := by decide +kernel
theorem dX5_assign_201 : decode cX5_assign 201 = .ok (.ireturn, 1) := by decide +kernel
theorem dX5_assign_202 : decode cX5_assign 202 = .ok (.iload_n 3, 1) := by decide +kernel
theorem dX5_assign_203 : decode cX5_assign 203 = .ok (.ifCond .ne 7, 3) := by decide +kernel
theorem dX5_assign_206 : decode cX5_assign 206 = .ok (.iconst 2, 1) := by decide +kernel
theorem dX5_assign_207 : decode cX5_assign 207 = .ok (.goto 19, 3) := by decide +kernel
theorem dX5_assign_210 : decode cX5_assign 210 = .ok (.aload_n 0, 1) := by decide +kernel
theorem dX5_assign_211 : decode cX5_assign 211 = .ok (.aload_n 1, 1) := by decide +kernel
theorem dX5_assign_212 : decode cX5_assign 212 = .ok (.aload_n 0, 1) := by decide +kernel
theorem dX5_assign_213 : decode cX5_assign 213 = .ok (.aload_n 1, 1) := by decide +kernel
theorem dX5_assign_214 : decode cX5_assign 214 = .ok (.aload_n 0, 1) := by decide +kernel
theorem dX5_assign_215 : decode cX5_assign 215 = .ok (.getfield 171, 3) := by decide +kernel
theorem dX5_assign_218 : decode cX5_assign 218 = .ok (.invokevirtual 205, 3) := by decide +kernel
theorem dX5_assign_221 : decode cX5_assign 221 = .ok (.iload_n 3, 1) := by decide +kernel
theorem dX5_assign_222 : decode cX5_assign 222 = .ok (.idiv, 1) := by decide +kernel
theorem dX5_assign_223 : decode cX5_assign 223 = .ok (.invokevirtual 299, 3) := by decide +kernel
theorem dX5_assign_226 : decode cX5_assign 226 = .ok (.ireturn, 1) := by decide +kernel
theorem dX5_assign_227 : decode cX5_assign 227 = .ok (.aload_n 0, 1) := by decide +kernel
theorem dX5_assign_228 : decode cX5_assign 228 = .ok (.getfield 15, 3) := by decide +kernel
theorem dX5_assign_231 : decode cX5_assign 231 = .ok (.getfield 281, 3) := by decide +kernel
theorem dX5_assign_234 : decode cX5_assign 234 = .ok (.iload_n 3, 1) := by decide +kernel
theorem dX5_assign_235 : decode cX5_assign 235 = .ok (.invokevirtual 69, 3) := by decide +kernel
theorem dX5_assign_238 : decode cX5_assign 238 = .ok (.ifCond .eq 20, 3) := by decide +kernel
theorem dX5_assign_241 : decode cX5_assign 241 = .ok (.aload_n 0, 1) := by decide +kernel
theorem dX5_assign_242 : decode cX5_assign 242 = .ok (.aload_n 1, 1) := by decide +kernel
theorem dX5_assign_243 : decode cX5_assign 243 = .ok (.aload_n 0, 1) := by decide +kernel
theorem dX5_assign_244 : decode cX5_assign 244 = .ok (.getfield 23, 3) := by decide +kernel
theorem dX5_assign_247 : decode cX5_assign 247 = .ok (.getfield 284, 3) := by decide +kernel
theorem dX5_assign_250 : decode cX5_assign 250 = .ok (.iload_n 3, 1) := by decide +kernel
theorem dX5_assign_251 : decode cX5_assign 251 = .ok (.iaload, 1) := by decide +kernel
theorem dX5_assign_252 : decode cX5_assign 252 = .ok (.invokevirtual 299, 3) := by decide +kernel
theorem dX5_assign_255 : decode cX5_assign 255 = .ok (.goto 4, 3) := by decide +kernel
theorem dX5_assign_258 : decode cX5_assign 258 = .ok (.iconst 2, 1) := by decide +kernel
theorem dX5_assign_259 : decode cX5_assign 259 = .ok (.ireturn, 1) := by decide +kernel
theorem dX5_assign_260 : decode cX5_assign 260 = .ok (.aload_n 0, 1) := by decide +kernel
theorem dX5_assign_261 : decode cX5_assign 261 = .ok (.getfield 15, 3) := by decide +kernel
theorem dX5_assign_264 : decode cX5_assign 264 = .ok (.getfield 281, 3) := by decide +kernel
theorem dX5_assign_267 : decode cX5_assign 267 = .ok (.iload_n 3, 1) := by decide +kernel
theorem dX5_assign_268 : decode cX5_assign 268 = .ok (.invokevirtual 69, 3) := by decide +kernel
theorem dX5_assign_271 : decode cX5_assign 271 = .ok (.ifCond .eq 20, 3) := by decide +kernel
theorem dX5_assign_274 : decode cX5_assign 274 = .ok (.aload_n 0, 1) := by decide +kernel
theorem dX5_assign_275 : decode cX5_assign 275 = .ok (.aload_n 1, 1) := by decide +kernel
theorem dX5_assign_276 : decode cX5_assign 276 = .ok (.aload_n 0, 1) := by decide +kernel
theorem dX5_assign_277 : decode cX5_assign 277 = .ok (.getfield 23, 3) := by decide +kernel
theorem dX5_assign_280 : decode cX5_assign 280 = .ok (.getfield 287, 3) := by decide +kernel
theorem dX5_assign_283 : decode cX5_assign 283 = .ok (.iload_n 3, 1) := by decide +kernel
theorem dX5_assign_284 : decode cX5_assign 284 = .ok (.iaload, 1) := by decide +kernel
theorem dX5_assign_285 : decode cX5_assign 285 = .ok (.invokevirtual 299, 3) := by decide +kernel
theorem dX5_assign_288 : decode cX5_assign 288 = .ok (.goto 4, 3) := by decide +kernel
theorem dX5_assign_291 : decode cX5_assign 291 = .ok (.iconst 2, 1) := by decide +kernel
theorem dX5_assign_292 : decode cX5_assign 292 = .ok (.ireturn, 1) := by decide +kernel
theorem dX5_assign_293 : decode cX5_assign 293 = .ok (.aload_n 0, 1) := by decide +kernel
theorem dX5_assign_294 : decode cX5_assign 294 = .ok (.aload_n 1, 1) := by decide +kernel
theorem dX5_assign_295 : decode cX5_assign 295 = .ok (.aload_n 0, 1) := by decide +kernel
theorem dX5_assign_296 : decode cX5_assign 296 = .ok (.getfield 23, 3) := by decide +kernel
theorem dX5_assign_299 : decode cX5_assign 299 = .ok (.iload_n 3, 1) := by decide +kernel
theorem dX5_assign_300 : decode cX5_assign 300 = .ok (.invokevirtual 302, 3) := by decide +kernel
theorem dX5_assign_303 : decode cX5_assign 303 = .ok (.invokevirtual 299, 3) := by decide +kernel
theorem dX5_assign_306 : decode cX5_assign 306 = .ok (.ireturn, 1) := by decide +kernel
theorem dX5_assign_307 : decode cX5_assign 307 = .ok (.aload_n 0, 1) := by decide +kernel
theorem dX5_assign_308 : decode cX5_assign 308 = .ok (.aload_n 1, 1) := by decide +kernel
theorem dX5_assign_309 : decode cX5_assign 309 = .ok (.aload_n 0, 1) := by decide +kernel
theorem dX5_assign_310 : decode cX5_assign 310 = .ok (.getfield 23, 3) := by decide +kernel
theorem dX5_assign_313 : decode cX5_assign 313 = .ok (.iload_n 3, 1) := by decide +kernel
theorem dX5_assign_314 : decode cX5_assign 314 = .ok (.invokevirtual 305, 3) := by decide +kernel
theorem dX5_assign_317 : decode cX5_assign 317 = .ok (.invokevirtual 299, 3) := by decide +kernel
theorem dX5_assign_320 : decode cX5_assign 320 = .ok (.ireturn, 1) := by decide +kernel
theorem dX5_assign_321 : decode cX5_assign 321 = .ok (.iconst 2, 1) := by decide +kernel
theorem dX5_assign_322 : decode cX5_assign 322 = .ok (.ireturn, 1) := by decide +kernel
theorem dX5_askActor_0 : decode cX5_askActor 0 = .ok (.aload_n 0, 1) := by decide +kernel
theorem dX5_askActor_1 : decode cX5_askActor 1 = .ok (.getfield 15, 3) := by decide +kernel
theorem dX5_askActor_4 : decode cX5_askActor 4 = .ok (.getfield 133, 3) := by decide +kernel
theorem dX5_askActor_7 : decode cX5_askActor 7 = .ok (.aload_n 0, 1) := by decide +kernel
theorem dX5_askActor_8 : decode cX5_askActor 8 = .ok (.getfield 9, 3) := by decide +kernel
theorem dX5_askActor_11 : decode cX5_askActor 11 = .ok (.iconst 0, 1) := by decide +kernel
theorem dX5_askActor_12 : decode cX5_askActor 12 = .ok (.iaload, 1) := by decide +kernel
theorem dX5_askActor_13 : decode cX5_askActor 13 = .ok (.invokevirtual 69, 3) := by decide +kernel
theorem dX5_askActor_16 : decode cX5_askActor 16 = .ok (.ifCond .ne 5, 3) := by decide +kernel
theorem dX5_askActor_19 : decode cX5_askActor 19 = .ok (.iconst 2, 1) := by decide +kernel
theorem dX5_askActor_20 : decode cX5_askActor 20 = .ok (.ireturn, 1) := by decide +kernel
theorem dX5_askActor_21 : decode cX5_askActor 21 = .ok (.aload_n 0, 1) := by decide +kernel
theorem dX5_askActor_22 : decode cX5_askActor 22 = .ok (.getfield 23, 3) := by decide +kernel
theorem dX5_askActor_25 : decode cX5_askActor 25 = .ok (.getfield 139, 3) := by decide +kernel
theorem dX5_askActor_28 : decode cX5_askActor 28 = .ok (.aload_n 0, 1) := by decide +kernel
theorem dX5_askActor_29 : decode cX5_askActor 29 = .ok (.getfield 9, 3) := by decide +kernel
theorem dX5_askActor_32 : decode cX5_askActor 32 = .ok (.iconst 0, 1) := by decide +kernel
theorem dX5_askActor_33 : decode cX5_askActor 33 = .ok (.iaload, 1) := by decide +kernel
theorem dX5_askActor_34 : decode cX5_askActor 34 = .ok (.aaload, 1) := by decide +kernel
theorem dX5_askActor_35 : decode cX5_askActor 35 = .ok (.astore_n 3, 1) := by decide +kernel
theorem dX5_askActor_36 : decode cX5_askActor 36 = .ok (.iload_n 2, 1) := by decide +kernel
theorem dX5_askActor_37 : decode cX5_askActor 37 = .ok (.tableswitch 97 23 27 #[35, 45, 55, 65, 79], 35) := by decide +kernel
theorem dX5_askActor_72 : decode cX5_askActor 72 = .ok (.aload_n 0, 1) := by decide +kernel
theorem dX5_askActor_73 : decode cX5_askActor 73 = .ok (.aload_n 1, 1) := by decide +kernel
theorem dX5_askActor_74 : decode cX5_askActor 74 = .ok (.aload_n 3, 1) := by decide +kernel
theorem dX5_askActor_75 : decode cX5_askActor 75 = .ok (.getfield 308, 3) := by decide +kernel
theorem dX5_askActor_78 : decode cX5_askActor 78 = .ok (.invokevirtual 299, 3) := by decide +kernel
theorem dX5_askActor_81 : decode cX5_askActor 81 = .ok (.ireturn, 1) := by decide +kernel
theorem dX5_askActor_82 : decode cX5_askActor 82 = .ok (.aload_n 0, 1) := by decide +kernel
theorem dX5_askActor_83 : decode cX5_askActor 83 = .ok (.aload_n 1, 1) := by decide +kernel
theorem dX5_askActor_84 : decode cX5_askActor 84 = .ok (.aload_n 3, 1) := by decide +kernel
theorem dX5_askActor_85 : decode cX5_askActor 85 = .ok (.getfield 311, 3) := by decide +kernel
theorem dX5_askActor_88 : decode cX5_askActor 88 = .ok (.invokevirtual 299, 3) := by decide +kernel
theorem dX5_askActor_91 : decode cX5_askActor 91 = .ok (.ireturn, 1) := by decide +kernel
theorem dX5_askActor_92 : decode cX5_askActor 92 = .ok (.aload_n 0, 1) := by decide +kernel
theorem dX5_askActor_93 : decode cX5_askActor 93 = .ok (.aload_n 1, 1) := by decide +kernel
theorem dX5_askActor_94 : decode cX5_askActor 94 = .ok (.aload_n 3, 1) := by decide +kernel
theorem dX5_askActor_95 : decode cX5_askActor 95 = .ok (.getfield 314, 3) := by decide +kernel
theorem dX5_askActor_98 : decode cX5_askActor 98 = .ok (.invokevirtual 299, 3) := by decide +kernel
theorem dX5_askActor_101 : decode cX5_askActor 101 = .ok (.ireturn, 1) := by decide +kernel
theorem dX5_askActor_102 : decode cX5_askActor 102 = .ok (.aload_n 0, 1) := by decide +kernel
theorem dX5_askActor_103 : decode cX5_askActor 103 = .ok (.aload_n 1, 1) := by decide +kernel
theorem dX5_askActor_104 : decode cX5_askActor 104 = .ok (.aload_n 0, 1) := by decide +kernel
theorem dX5_askActor_105 : decode cX5_askActor 105 = .ok (.getfield 27, 3) := by decide +kernel
theorem dX5_askActor_108 : decode cX5_askActor 108 = .ok (.aload_n 3, 1) := by decide +kernel
theorem dX5_askActor_109 : decode cX5_askActor 109 = .ok (.invokevirtual 317, 3) := by decide +kernel
theorem dX5_askActor_112 : decode cX5_askActor 112 = .ok (.invokevirtual 299, 3) := by decide +kernel
theorem dX5_askActor_115 : decode cX5_askActor 115 = .ok (.ireturn, 1) := by decide +kernel
theorem dX5_askActor_116 : decode cX5_askActor 116 = .ok (.aload_n 0, 1) := by decide +kernel
theorem dX5_askActor_117 : decode cX5_askActor 117 = .ok (.aload_n 1, 1) := by decide +kernel
theorem dX5_askActor_118 : decode cX5_askActor 118 = .ok (.aload_n 3, 1) := by decide +kernel
theorem dX5_askActor_119 : decode cX5_askActor 119 = .ok (.getfield 142, 3) := by decide +kernel
theorem dX5_askActor_122 : decode cX5_askActor 122 = .ok (.ifCond .eq 7, 3) := by decide +kernel
theorem dX5_askActor_125 : decode cX5_askActor 125 = .ok (.iconst 1, 1) := by decide +kernel
theorem dX5_askActor_126 : decode cX5_askActor 126 = .ok (.goto 4, 3) := by decide +kernel
theorem dX5_askActor_129 : decode cX5_askActor 129 = .ok (.iconst 0, 1) := by decide +kernel
theorem dX5_askActor_130 : decode cX5_askActor 130 = .ok (.invokevirtual 299, 3) := by decide +kernel
theorem dX5_askActor_133 : decode cX5_askActor 133 = .ok (.ireturn, 1) := by decide +kernel
theorem dX5_askActor_134 : decode cX5_askActor 134 = .ok (.iconst 2, 1) := by decide +kernel
theorem dX5_askActor_135 : decode cX5_askActor 135 = .ok (.ireturn, 1) := by decide +kernel
theorem dX5_askDistance_0 : decode cX5_askDistance 0 = .ok (.aload_n 0, 1) := by decide +kernel
theorem dX5_askDistance_1 : decode cX5_askDistance 1 = .ok (.getfield 9, 3) := by decide +kernel
theorem dX5_askDistance_4 : decode cX5_askDistance 4 = .ok (.iconst 1, 1) := by decide +kernel
theorem dX5_askDistance_5 : decode cX5_askDistance 5 = .ok (.iaload, 1) := by decide +kernel
theorem dX5_askDistance_6 : decode cX5_askDistance 6 = .ok (.istore_n 2, 1) := by decide +kernel
theorem dX5_askDistance_7 : decode cX5_askDistance 7 = .ok (.aload_n 0, 1) := by decide +kernel
theorem dX5_askDistance_8 : decode cX5_askDistance 8 = .ok (.getfield 15, 3) := by decide +kernel
theorem dX5_askDistance_11 : decode cX5_askDistance 11 = .ok (.getfield 133, 3) := by decide +kernel
theorem dX5_askDistance_14 : decode cX5_askDistance 14 = .ok (.aload_n 0, 1) := by decide +kernel
theorem dX5_askDistance_15 : decode cX5_askDistance 15 = .ok (.getfield 9, 3) := by decide +kernel
theorem dX5_askDistance_18 : decode cX5_askDistance 18 = .ok (.iconst 0, 1) := by decide +kernel
theorem dX5_askDistance_19 : decode cX5_askDistance 19 = .ok (.iaload, 1) := by decide +kernel
theorem dX5_askDistance_20 : decode cX5_askDistance 20 = .ok (.invokevirtual 69, 3) := by decide +kernel
theorem dX5_askDistance_23 : decode cX5_askDistance 23 = .ok (.ifCond .eq 17, 3) := by decide +kernel
theorem dX5_askDistance_26 : decode cX5_askDistance 26 = .ok (.aload_n 0, 1) := by decide +kernel
theorem dX5_askDistance_27 : decode cX5_askDistance 27 = .ok (.getfield 15, 3) := by decide +kernel
theorem dX5_askDistance_30 : decode cX5_askDistance 30 = .ok (.getfield 281, 3) := by decide +kernel
theorem dX5_askDistance_33 : decode cX5_askDistance 33 = .ok (.iload_n 2, 1) := by decide +kernel
theorem dX5_askDistance_34 : decode cX5_askDistance 34 = .ok (.invokevirtual 69, 3) := by decide +kernel
theorem dX5_askDistance_37 : decode cX5_askDistance 37 = .ok (.ifCond .ne 5, 3) := by decide +kernel
theorem dX5_askDistance_40 : decode cX5_askDistance 40 = .ok (.iconst 2, 1) := by decide +kernel
theorem dX5_askDistance_41 : decode cX5_askDistance 41 = .ok (.ireturn, 1) := by decide +kernel
theorem dX5_askDistance_42 : decode cX5_askDistance 42 = .ok (.aload_n 0, 1) := by decide +kernel
theorem dX5_askDistance_43 : decode cX5_askDistance 43 = .ok (.getfield 23, 3) := by decide +kernel
theorem dX5_askDistance_46 : decode cX5_askDistance 46 = .ok (.getfield 139, 3) := by decide +kernel
theorem dX5_askDistance_49 : decode cX5_askDistance 49 = .ok (.aload_n 0, 1) := by decide +kernel
theorem dX5_askDistance_50 : decode cX5_askDistance 50 = .ok (.getfield 9, 3) := by decide +kernel
theorem dX5_askDistance_53 : decode cX5_askDistance 53 = .ok (.iconst 0, 1) := by decide +kernel
theorem dX5_askDistance_54 : decode cX5_askDistance 54 = .ok (.iaload, 1) := by decide +kernel
theorem dX5_askDistance_55 : decode cX5_askDistance 55 = .ok (.aaload, 1) := by decide +kernel
theorem dX5_askDistance_56 : decode cX5_askDistance 56 = .ok (.astore_n 3, 1) := by decide +kernel
theorem dX5_askDistance_57 : decode cX5_askDistance 57 = .ok (.aload_n 0, 1) := by decide +kernel
theorem dX5_askDistance_58 : decode cX5_askDistance 58 = .ok (.getfield 15, 3) := by decide +kernel
theorem dX5_askDistance_61 : decode cX5_askDistance 61 = .ok (.iload_n 2, 1) := by decide +kernel
theorem dX5_askDistance_62 : decode cX5_askDistance 62 = .ok (.iconst 0, 1) := by decide +kernel
theorem dX5_askDistance_63 : decode cX5_askDistance 63 = .ok (.invokevirtual 321, 3) := by decide +kernel
theorem dX5_askDistance_66 : decode cX5_askDistance 66 = .ok (.aload_n 3, 1) := by decide +kernel
theorem dX5_askDistance_67 : decode cX5_askDistance 67 = .ok (.getfield 314, 3) := by decide +kernel
theorem dX5_askDistance_70 : decode cX5_askDistance 70 = .ok (.if_icmp .eq 12, 3) := by decide +kernel
theorem dX5_askDistance_73 : decode cX5_askDistance 73 = .ok (.aload_n 0, 1) := by decide +kernel
theorem dX5_askDistance_74 : decode cX5_askDistance 74 = .ok (.aload_n 1, 1) := by decide +kernel
theorem dX5_askDistance_75 : decode cX5_askDistance 75 = .ok (.sipush 999, 3) := by decide +kernel
theorem dX5_askDistance_78 : decode cX5_askDistance 78 = .ok (.invokevirtual 299, 3) := by decide +kernel
theorem dX5_askDistance_81 : decode cX5_askDistance 81 = .ok (.ireturn, 1) := by decide +kernel
theorem dX5_askDistance_82 : decode cX5_askDistance 82 = .ok (.aload_n 0, 1) := by decide +kernel
theorem dX5_askDistance_83 : decode cX5_askDistance 83 = .ok (.getfield 15, 3) := by decide +kernel
theorem dX5_askDistance_86 : decode cX5_askDistance 86 = .ok (.iload_n 2, 1) := by decide +kernel
theorem dX5_askDistance_87 : decode cX5_askDistance 87 = .ok (.iconst 1, 1) := by decide +kernel
theorem dX5_askDistance_88 : decode cX5_askDistance 88 = .ok (.invokevirtual 321, 3) := by decide +kernel
theorem dX5_askDistance_91 : decode cX5_askDistance 91 = .ok (.aload_n 3, 1) := by decide +kernel
theorem dX5_askDistance_92 : decode cX5_askDistance 92 = .ok (.getfield 308, 3) := by decide +kernel
theorem dX5_askDistance_95 : decode cX5_askDistance 95 = .ok (.isub, 1) := by decide +kernel
theorem dX5_askDistance_96 : decode cX5_askDistance 96 = .ok (.invokestatic 324, 3) := by decide +kernel
theorem dX5_askDistance_99 : decode cX5_askDistance 99 = .ok (.istore 4, 2) := by decide +kernel
theorem dX5_askDistance_101 : decode cX5_askDistance 101 = .ok (.aload_n 0, 1) := by decide +kernel
theorem dX5_askDistance_102 : decode cX5_askDistance 102 = .ok (.getfield 15, 3) := by decide +kernel
theorem dX5_askDistance_105 : decode cX5_askDistance 105 = .ok (.iload_n 2, 1) := by decide +kernel
theorem dX5_askDistance_106 : decode cX5_askDistance 106 = .ok (.iconst 2, 1) := by decide +kernel
theorem dX5_askDistance_107 : decode cX5_askDistance 107 = .ok (.invokevirtual 321, 3) := by decide +kernel
theorem dX5_askDistance_110 : decode cX5_askDistance 110 = .ok (.aload_n 3, 1) := by decide +kernel
theorem dX5_askDistance_111 : decode cX5_askDistance 111 = .ok (.getfield 311, 3) := by decide +kernel
theorem dX5_askDistance_114 : decode cX5_askDistance 114 = .ok (.isub, 1) := by decide +kernel
theorem dX5_askDistance_115 : decode cX5_askDistance 115 = .ok (.invokestatic 324, 3) := by decide +kernel
theorem dX5_askDistance_118 : decode cX5_askDistance 118 = .ok (.istore 5, 2) := by decide +kernel
theorem dX5_askDistance_120 : decode cX5_askDistance 120 = .ok (.aload_n 0, 1) := by decide +kernel
theorem dX5_askDistance_121 : decode cX5_askDistance 121 = .ok (.aload_n 1, 1) := by decide +kernel
theorem dX5_askDistance_122 : decode cX5_askDistance 122 = .ok (.iload 4, 2) := by decide +kernel
theorem dX5_askDistance_124 : decode cX5_askDistance 124 = .ok (.iload 5, 2) := by decide +kernel
theorem dX5_askDistance_126 : decode cX5_askDistance 126 = .ok (.iadd, 1) := by decide +kernel
theorem dX5_askDistance_127 : decode cX5_askDistance 127 = .ok (.invokevirtual 299, 3) := by decide +kernel
theorem dX5_askDistance_130 : decode cX5_askDistance 130 = .ok (.ireturn, 1) := by decide +kernel
theorem dX10_init_0 : decode cX10_init 0 = .ok (.aload_n 0, 1) := by decide +kernel
theorem dX10_init_1 : decode cX10_init 1 = .ok (.invokespecial 1, 3) := by decide +kernel
theorem dX10_init_4 : decode cX10_init 4 = .ok (.aload_n 0, 1) := by decide +kernel
theorem dX10_init_5 : decode cX10_init 5 = .ok (.new 7, 3) := by decide +kernel
theorem dX10_init_8 : decode cX10_init 8 = .ok (.dup, 1) := by decide +kernel
theorem dX10_init_9 : decode cX10_init 9 = .ok (.invokespecial 9, 3) := by decide +kernel
theorem dX10_init_12 : decode cX10_init 12 = .ok (.putfield 10, 3) := by decide +kernel
theorem dX10_init_15 : decode cX10_init 15 = .ok (.aload_n 0, 1) := by decide +kernel
theorem dX10_init_16 : decode cX10_init 16 = .ok (.new 7, 3) := by decide +kernel
theorem dX10_init_19 : decode cX10_init 19 = .ok (.dup, 1) := by decide +kernel
theorem dX10_init_20 : decode cX10_init 20 = .ok (.invokespecial 9, 3) := by decide +kernel
theorem dX10_init_23 : decode cX10_init 23 = .ok (.putfield 16, 3) := by decide +kernel
theorem dX10_init_26 : decode cX10_init 26 = .ok (.aload_n 0, 1) := by decide +kernel
theorem dX10_init_27 : decode cX10_init 27 = .ok (.new 19, 3) := by decide +kernel
theorem dX10_init_30 : decode cX10_init 30 = .ok (.dup, 1) := by decide +kernel
theorem dX10_init_31 : decode cX10_init 31 = .ok (.aload_n 0, 1) := by decide +kernel
theorem dX10_init_32 : decode cX10_init 32 = .ok (.getfield 10, 3) := by decide +kernel
theorem dX10_init_35 : decode cX10_init 35 = .ok (.invokespecial 21, 3) := by decide +kernel
theorem dX10_init_38 : decode cX10_init 38 = .ok (.putfield 24, 3) := by decide +kernel
theorem dX10_init_41 : decode cX10_init 41 = .ok (.aload_n 0, 1) := by decide +kernel
theorem dX10_init_42 : decode cX10_init 42 = .ok (.new 28, 3) := by decide +kernel
theorem dX10_init_45 : decode cX10_init 45 = .ok (.dup, 1) := by decide +kernel
theorem dX10_init_46 : decode cX10_init 46 = .ok (.invokespecial 30, 3) := by decide +kernel
theorem dX10_init_49 : decode cX10_init 49 = .ok (.putfield 31, 3) := by decide +kernel
theorem dX10_init_52 : decode cX10_init 52 = .ok (.aload_n 0, 1) := by decide +kernel
theorem dX10_init_53 : decode cX10_init 53 = .ok (.new 28, 3) := by decide +kernel
theorem dX10_init_56 : decode cX10_init 56 = .ok (.dup, 1) := by decide +kernel
theorem dX10_init_57 : decode cX10_init 57 = .ok (.invokespecial 30, 3) := by decide +kernel
theorem dX10_init_60 : decode cX10_init 60 = .ok (.putfield 35, 3) := by decide +kernel
theorem dX10_init_63 : decode cX10_init 63 = .ok (.aload_n 0, 1) := by decide +kernel
theorem dX10_init_64 : decode cX10_init 64 = .ok (.new 38, 3) := by decide +kernel
theorem dX10_init_67 : decode cX10_init 67 = .ok (.dup, 1) := by decide +kernel
theorem dX10_init_68 : decode cX10_init 68 = .ok (.invokespecial 40, 3) := by decide +kernel
theorem dX10_init_71 : decode cX10_init 71 = .ok (.putfield 41, 3) := by decide +kernel
theorem dX10_init_74 : decode cX10_init 74 = .ok (.aload_n 0, 1) := by decide +kernel
theorem dX10_init_75 : decode cX10_init 75 = .ok (.new 45, 3) := by decide +kernel
theorem dX10_init_78 : decode cX10_init 78 = .ok (.dup, 1) := by decide +kernel
theorem dX10_init_79 : decode cX10_init 79 = .ok (.aload_n 0, 1) := by decide +kernel
theorem dX10_init_80 : decode cX10_init 80 = .ok (.getfield 16, 3) := by decide +kernel
theorem dX10_init_83 : decode cX10_init 83 = .ok (.aload_n 0, 1) := by decide +kernel
theorem dX10_init_84 : decode cX10_init 84 = .ok (.getfield 41, 3) := by decide +kernel
theorem dX10_init_87 : decode cX10_init 87 = .ok (.aload_n 0, 1) := by decide +kernel
theorem dX10_init_88 : decode cX10_init 88 = .ok (.getfield 31, 3) := by decide +kernel
theorem dX10_init_91 : decode cX10_init 91 = .ok (.invokespecial 47, 3) := by decide +kernel
theorem dX10_init_94 : decode cX10_init 94 = .ok (.putfield 50, 3) := by decide +kernel
theorem dX10_init_97 : decode cX10_init 97 = .ok (.aload_n 0, 1) := by decide +kernel
theorem dX10_init_98 : decode cX10_init 98 = .ok (.new 54, 3) := by decide +kernel
theorem dX10_init_101 : decode cX10_init 101 = .ok (.dup, 1) := by decide +kernel
theorem dX10_init_102 : decode cX10_init 102 = .ok (.aload_n 0, 1) := by decide +kernel
theorem dX10_init_103 : decode cX10_init 103 = .ok (.getfield 16, 3) := by decide +kernel
theorem dX10_init_106 : decode cX10_init 106 = .ok (.aload_n 0, 1) := by decide +kernel
theorem dX10_init_107 : decode cX10_init 107 = .ok (.getfield 41, 3) := by decide +kernel
theorem dX10_init_110 : decode cX10_init 110 = .ok (.aload_n 0, 1) := by decide +kernel
theorem dX10_init_111 : decode cX10_init 111 = .ok (.getfield 31, 3) := by decide +kernel
theorem dX10_init_114 : decode cX10_init 114 = .ok (.aload_n 0, 1) := by decide +kernel
theorem dX10_init_115 : decode cX10_init 115 = .ok (.getfield 50, 3) := by decide +kernel
theorem dX10_init_118 : decode cX10_init 118 = .ok (.invokespecial 56, 3) := by decide +kernel
theorem dX10_init_121 : decode cX10_init 121 = .ok (.putfield 59, 3) := by decide +kernel
theorem dX10_init_124 : decode cX10_init 124 = .ok (.return_, 1) := by decide +kernel
theorem dX10_feed_0 : decode cX10_feed 0 = .ok (.aload_n 0, 1) := by decide +kernel
theorem dX10_feed_1 : decode cX10_feed 1 = .ok (.getfield 10, 3) := by decide +kernel
theorem dX10_feed_4 : decode cX10_feed 4 = .ok (.getfield 63, 3) := by decide +kernel
theorem dX10_feed_7 : decode cX10_feed 7 = .ok (.astore 6, 2) := by decide +kernel
theorem dX10_feed_9 : decode cX10_feed 9 = .ok (.aload 6, 2) := by decide +kernel
theorem dX10_feed_11 : decode cX10_feed 11 = .ok (.getfield 67, 3) := by decide +kernel
theorem dX10_feed_14 : decode cX10_feed 14 = .ok (.bipush 20, 2) := by decide +kernel
theorem dX10_feed_16 : decode cX10_feed 16 = .ok (.iadd, 1) := by decide +kernel
theorem dX10_feed_17 : decode cX10_feed 17 = .ok (.sipush 6000, 3) := by decide +kernel
theorem dX10_feed_20 : decode cX10_feed 20 = .ok (.if_icmp .le 5, 3) := by decide +kernel
theorem dX10_feed_23 : decode cX10_feed 23 = .ok (.iconst (-1), 1) := by decide +kernel
theorem dX10_feed_24 : decode cX10_feed 24 = .ok (.ireturn, 1) := by decide +kernel
theorem dX10_feed_25 : decode cX10_feed 25 = .ok (.aload 6, 2) := by decide +kernel
theorem dX10_feed_27 : decode cX10_feed 27 = .ok (.iload_n 1, 1) := by decide +kernel
theorem dX10_feed_28 : decode cX10_feed 28 = .ok (.invokevirtual 73, 3) := by decide +kernel
theorem dX10_feed_31 : decode cX10_feed 31 = .ok (.aload 6, 2) := by decide +kernel
theorem dX10_feed_33 : decode cX10_feed 33 = .ok (.iload_n 2, 1) := by decide +kernel
theorem dX10_feed_34 : decode cX10_feed 34 = .ok (.invokevirtual 73, 3) := by decide +kernel
theorem dX10_feed_37 : decode cX10_feed 37 = .ok (.aload 6, 2) := by decide +kernel
theorem dX10_feed_39 : decode cX10_feed 39 = .ok (.iload_n 3, 1) := by decide +kernel
theorem dX10_feed_40 : decode cX10_feed 40 = .ok (.invokevirtual 73, 3) := by decide +kernel
theorem dX10_feed_43 : decode cX10_feed 43 = .ok (.aload 6, 2) := by decide +kernel
theorem dX10_feed_45 : decode cX10_feed 45 = .ok (.iload 4, 2) := by decide +kernel
theorem dX10_feed_47 : decode cX10_feed 47 = .ok (.invokevirtual 73, 3) := by decide +kernel
theorem dX10_feed_50 : decode cX10_feed 50 = .ok (.aload 6, 2) := by decide +kernel
theorem dX10_feed_52 : decode cX10_feed 52 = .ok (.iload 5, 2) := by decide +kernel
theorem dX10_feed_54 : decode cX10_feed 54 = .ok (.invokevirtual 73, 3) := by decide +kernel
theorem dX10_feed_57 : decode cX10_feed 57 = .ok (.aload 6, 2) := by decide +kernel
theorem dX10_feed_59 : decode cX10_feed 59 = .ok (.getfield 67, 3) := by decide +kernel
theorem dX10_feed_62 : decode cX10_feed 62 = .ok (.ireturn, 1) := by decide +kernel
theorem dX10_end_0 : decode cX10_end 0 = .ok (.aload_n 0, 1) := by decide +kernel
theorem dX10_end_1 : decode cX10_end 1 = .ok (.getfield 10, 3) := by decide +kernel
theorem dX10_end_4 : decode cX10_end 4 = .ok (.getfield 63, 3) := by decide +kernel
theorem dX10_end_7 : decode cX10_end 7 = .ok (.iload_n 1, 1) := by decide +kernel
theorem dX10_end_8 : decode cX10_end 8 = .ok (.invokevirtual 77, 3) := by decide +kernel
theorem dX10_end_11 : decode cX10_end 11 = .ok (.ireturn, 1) := by decide +kernel
theorem dX10_play_0 : decode cX10_play 0 = .ok (.aload_n 0, 1) := by decide +kernel
theorem dX10_play_1 : decode cX10_play 1 = .ok (.getfield 24, 3) := by decide +kernel
theorem dX10_play_4 : decode cX10_play 4 = .ok (.invokevirtual 81, 3) := by decide +kernel
theorem dX10_play_7 : decode cX10_play 7 = .ok (.istore_n 1, 1) := by decide +kernel
theorem dX10_play_8 : decode cX10_play 8 = .ok (.iload_n 1, 1) := by decide +kernel
theorem dX10_play_9 : decode cX10_play 9 = .ok (.iconst (-1), 1) := by decide +kernel
theorem dX10_play_10 : decode cX10_play 10 = .ok (.if_icmp .ne 25, 3) := by decide +kernel
theorem dX10_play_13 : decode cX10_play 13 = .ok (.aload_n 0, 1) := by decide +kernel
theorem dX10_play_14 : decode cX10_play 14 = .ok (.getfield 10, 3) := by decide +kernel
theorem dX10_play_17 : decode cX10_play 17 = .ok (.getfield 63, 3) := by decide +kernel
theorem dX10_play_20 : decode cX10_play 20 = .ok (.iconst 0, 1) := by decide +kernel
theorem dX10_play_21 : decode cX10_play 21 = .ok (.invokevirtual 77, 3) := by decide +kernel
theorem dX10_play_24 : decode cX10_play 24 = .ok (.pop, 1) := by decide +kernel
theorem dX10_play_25 : decode cX10_play 25 = .ok (.new 85, 3) := by decide +kernel
theorem dX10_play_28 : decode cX10_play 28 = .ok (.dup, 1) := by decide +kernel
theorem dX10_play_29 : decode cX10_play 29 = .ok (.ldc 87, 2) := by decide +kernel
theorem dX10_play_31 : decode cX10_play 31 = .ok (.invokespecial 89, 3) := by decide +kernel
theorem dX10_play_34 : decode cX10_play 34 = .ok (.athrow, 1) := by decide +kernel
theorem dX10_play_35 : decode cX10_play 35 = .ok (.aload_n 0, 1) := by decide +kernel
theorem dX10_play_36 : decode cX10_play 36 = .ok (.getfield 16, 3) := by decide +kernel
theorem dX10_play_39 : decode cX10_play 39 = .ok (.aload_n 0, 1) := by decide +kernel
theorem dX10_play_40 : decode cX10_play 40 = .ok (.getfield 10, 3) := by decide +kernel
theorem dX10_play_43 : decode cX10_play 43 = .ok (.invokevirtual 92, 3) := by decide +kernel
theorem dX10_play_46 : decode cX10_play 46 = .ok (.aload_n 0, 1) := by decide +kernel
theorem dX10_play_47 : decode cX10_play 47 = .ok (.getfield 10, 3) := by decide +kernel
theorem dX10_play_50 : decode cX10_play 50 = .ok (.getfield 63, 3) := by decide +kernel
theorem dX10_play_53 : decode cX10_play 53 = .ok (.iconst 0, 1) := by decide +kernel
theorem dX10_play_54 : decode cX10_play 54 = .ok (.invokevirtual 77, 3) := by decide +kernel
theorem dX10_play_57 : decode cX10_play 57 = .ok (.pop, 1) := by decide +kernel
theorem dX10_play_58 : decode cX10_play 58 = .ok (.aload_n 0, 1) := by decide +kernel
theorem dX10_play_59 : decode cX10_play 59 = .ok (.getfield 41, 3) := by decide +kernel
theorem dX10_play_62 : decode cX10_play 62 = .ok (.aload_n 0, 1) := by decide +kernel
theorem dX10_play_63 : decode cX10_play 63 = .ok (.getfield 16, 3) := by decide +kernel
theorem dX10_play_66 : decode cX10_play 66 = .ok (.invokevirtual 95, 3) := by decide +kernel
theorem dX10_play_69 : decode cX10_play 69 = .ok (.aload_n 0, 1) := by decide +kernel
theorem dX10_play_70 : decode cX10_play 70 = .ok (.getfield 31, 3) := by decide +kernel
theorem dX10_play_73 : decode cX10_play 73 = .ok (.aload_n 0, 1) := by decide +kernel
theorem dX10_play_74 : decode cX10_play 74 = .ok (.getfield 16, 3) := by decide +kernel
theorem dX10_play_77 : decode cX10_play 77 = .ok (.invokevirtual 98, 3) := by decide +kernel
theorem dX10_play_80 : decode cX10_play 80 = .ok (.aload_n 0, 1) := by decide +kernel
theorem dX10_play_81 : decode cX10_play 81 = .ok (.iconst 0, 1) := by decide +kernel
theorem dX10_play_82 : decode cX10_play 82 = .ok (.putfield 101, 3) := by decide +kernel
theorem dX10_play_85 : decode cX10_play 85 = .ok (.iload_n 1, 1) := by decide +kernel
theorem dX10_play_86 : decode cX10_play 86 = .ok (.ireturn, 1) := by decide +kernel
theorem dX10_fault_0 : decode cX10_fault 0 = .ok (.iload_n 1, 1) := by decide +kernel
theorem dX10_fault_1 : decode cX10_fault 1 = .ok (.ifCond .ne 11, 3) := by decide +kernel
theorem dX10_fault_4 : decode cX10_fault 4 = .ok (.aload_n 0, 1) := by decide +kernel
theorem dX10_fault_5 : decode cX10_fault 5 = .ok (.getfield 24, 3) := by decide +kernel
theorem dX10_fault_8 : decode cX10_fault 8 = .ok (.getfield 105, 3) := by decide +kernel
theorem dX10_fault_11 : decode cX10_fault 11 = .ok (.ireturn, 1) := by decide +kernel
theorem dX10_fault_12 : decode cX10_fault 12 = .ok (.iload_n 1, 1) := by decide +kernel
theorem dX10_fault_13 : decode cX10_fault 13 = .ok (.iconst 1, 1) := by decide +kernel
theorem dX10_fault_14 : decode cX10_fault 14 = .ok (.if_icmp .ne 13, 3) := by decide +kernel
theorem dX10_fault_17 : decode cX10_fault 17 = .ok (.aload_n 0, 1) := by decide +kernel
theorem dX10_fault_18 : decode cX10_fault 18 = .ok (.getfield 24, 3) := by decide +kernel
theorem dX10_fault_21 : decode cX10_fault 21 = .ok (.getfield 108, 3) := by decide +kernel
theorem dX10_fault_24 : decode cX10_fault 24 = .ok (.goto 4, 3) := by decide +kernel
theorem dX10_fault_27 : decode cX10_fault 27 = .ok (.iconst (-1), 1) := by decide +kernel
theorem dX10_fault_28 : decode cX10_fault 28 = .ok (.ireturn, 1) := by decide +kernel
theorem dX10_tick_0 : decode cX10_tick 0 = .ok (.iload_n 1, 1) := by decide +kernel
theorem dX10_tick_1 : decode cX10_tick 1 = .ok (.ifCond .lt 10, 3) := by decide +kernel
theorem dX10_tick_4 : decode cX10_tick 4 = .ok (.iload_n 1, 1) := by decide +kernel
theorem dX10_tick_5 : decode cX10_tick 5 = .ok (.sipush 200, 3) := by decide +kernel
theorem dX10_tick_8 : decode cX10_tick 8 = .ok (.if_icmp .le 5, 3) := by decide +kernel
theorem dX10_tick_11 : decode cX10_tick 11 = .ok (.iconst (-1), 1) := by decide +kernel
theorem dX10_tick_12 : decode cX10_tick 12 = .ok (.ireturn, 1) := by decide +kernel
theorem dX10_tick_13 : decode cX10_tick 13 = .ok (.iconst 0, 1) := by decide +kernel
theorem dX10_tick_14 : decode cX10_tick 14 = .ok (.istore_n 2, 1) := by decide +kernel
theorem dX10_tick_15 : decode cX10_tick 15 = .ok (.iconst 0, 1) := by decide +kernel
theorem dX10_tick_16 : decode cX10_tick 16 = .ok (.istore_n 3, 1) := by decide +kernel
theorem dX10_tick_17 : decode cX10_tick 17 = .ok (.iload_n 3, 1) := by decide +kernel
theorem dX10_tick_18 : decode cX10_tick 18 = .ok (.iload_n 1, 1) := by decide +kernel
theorem dX10_tick_19 : decode cX10_tick 19 = .ok (.if_icmp .ge 19, 3) := by decide +kernel
theorem dX10_tick_22 : decode cX10_tick 22 = .ok (.iload_n 2, 1) := by decide +kernel
theorem dX10_tick_23 : decode cX10_tick 23 = .ok (.aload_n 0, 1) := by decide +kernel
theorem dX10_tick_24 : decode cX10_tick 24 = .ok (.getfield 59, 3) := by decide +kernel
theorem dX10_tick_27 : decode cX10_tick 27 = .ok (.invokevirtual 111, 3) := by decide +kernel
theorem dX10_tick_30 : decode cX10_tick 30 = .ok (.iadd, 1) := by decide +kernel
theorem dX10_tick_31 : decode cX10_tick 31 = .ok (.istore_n 2, 1) := by decide +kernel
theorem dX10_tick_32 : decode cX10_tick 32 = .ok (.iinc 3 1, 3) := by decide +kernel
theorem dX10_tick_35 : decode cX10_tick 35 = .ok (.goto (-18), 3) := by decide +kernel
theorem dX10_tick_38 : decode cX10_tick 38 = .ok (.iload_n 2, 1) := by decide +kernel
theorem dX10_tick_39 : decode cX10_tick 39 = .ok (.ireturn, 1) := by decide +kernel
theorem dX10_start_0 : decode cX10_start 0 = .ok (.aload_n 0, 1) := by decide +kernel
theorem dX10_start_1 : decode cX10_start 1 = .ok (.getfield 59, 3) := by decide +kernel
theorem dX10_start_4 : decode cX10_start 4 = .ok (.iload_n 1, 1) := by decide +kernel
theorem dX10_start_5 : decode cX10_start 5 = .ok (.iconst 0, 1) := by decide +kernel
theorem dX10_start_6 : decode cX10_start 6 = .ok (.invokevirtual 114, 3) := by decide +kernel
theorem dX10_start_9 : decode cX10_start 9 = .ok (.ireturn, 1) := by decide +kernel
theorem dX10_say_0 : decode cX10_say 0 = .ok (.aload_n 0, 1) := by decide +kernel
theorem dX10_say_1 : decode cX10_say 1 = .ok (.getfield 31, 3) := by decide +kernel
theorem dX10_say_4 : decode cX10_say 4 = .ok (.iload_n 1, 1) := by decide +kernel
theorem dX10_say_5 : decode cX10_say 5 = .ok (.iload_n 2, 1) := by decide +kernel
theorem dX10_say_6 : decode cX10_say 6 = .ok (.iload_n 3, 1) := by decide +kernel
theorem dX10_say_7 : decode cX10_say 7 = .ok (.invokevirtual 118, 3) := by decide +kernel
theorem dX10_say_10 : decode cX10_say 10 = .ok (.ifCond .eq 13, 3) := by decide +kernel
theorem dX10_say_13 : decode cX10_say 13 = .ok (.aload_n 0, 1) := by decide +kernel
theorem dX10_say_14 : decode cX10_say 14 = .ok (.getfield 31, 3) := by decide +kernel
theorem dX10_say_17 : decode cX10_say 17 = .ok (.getfield 122, 3) := by decide +kernel
theorem dX10_say_20 : decode cX10_say 20 = .ok (.goto 4, 3) := by decide +kernel
theorem dX10_say_23 : decode cX10_say 23 = .ok (.iconst (-1), 1) := by decide +kernel
theorem dX10_say_24 : decode cX10_say 24 = .ok (.ireturn, 1) := by decide +kernel
theorem dX10_walk_0 : decode cX10_walk 0 = .ok (.aload_n 0, 1) := by decide +kernel
theorem dX10_walk_1 : decode cX10_walk 1 = .ok (.getfield 50, 3) := by decide +kernel
theorem dX10_walk_4 : decode cX10_walk 4 = .ok (.iload_n 1, 1) := by decide +kernel
theorem dX10_walk_5 : decode cX10_walk 5 = .ok (.iload_n 2, 1) := by decide +kernel
theorem dX10_walk_6 : decode cX10_walk 6 = .ok (.iload_n 3, 1) := by decide +kernel
theorem dX10_walk_7 : decode cX10_walk 7 = .ok (.invokevirtual 125, 3) := by decide +kernel
theorem dX10_walk_10 : decode cX10_walk 10 = .ok (.ireturn, 1) := by decide +kernel
theorem dX10_set_0 : decode cX10_set 0 = .ok (.iload_n 1, 1) := by decide +kernel
theorem dX10_set_1 : decode cX10_set 1 = .ok (.ifCond .lt 9, 3) := by decide +kernel
theorem dX10_set_4 : decode cX10_set 4 = .ok (.iload_n 1, 1) := by decide +kernel
theorem dX10_set_5 : decode cX10_set 5 = .ok (.bipush 64, 2) := by decide +kernel
theorem dX10_set_7 : decode cX10_set 7 = .ok (.if_icmp .lt 13, 3) := by decide +kernel
theorem dX10_set_10 : decode cX10_set 10 = .ok (.new 128, 3) := by decide +kernel
theorem dX10_set_13 : decode cX10_set 13 = .ok (.dup, 1) := by decide +kernel
theorem dX10_set_14 : decode cX10_set 14 = .ok (.ldc 130, 2) := by decide +kernel
theorem dX10_set_16 : decode cX10_set 16 = .ok (.invokespecial 132, 3) := by decide +kernel
theorem dX10_set_19 : decode cX10_set 19 = .ok (.athrow, 1) := by decide +kernel
theorem dX10_set_20 : decode cX10_set 20 = .ok (.aload_n 0, 1) := by decide +kernel
theorem dX10_set_21 : decode cX10_set 21 = .ok (.getfield 31, 3) := by decide +kernel
theorem dX10_set_24 : decode cX10_set 24 = .ok (.getfield 133, 3) := by decide +kernel
theorem dX10_set_27 : decode cX10_set 27 = .ok (.iload_n 1, 1) := by decide +kernel
theorem dX10_set_28 : decode cX10_set 28 = .ok (.iaload, 1) := by decide +kernel
theorem dX10_set_29 : decode cX10_set 29 = .ok (.istore_n 3, 1) := by decide +kernel
theorem dX10_set_30 : decode cX10_set 30 = .ok (.aload_n 0, 1) := by decide +kernel
theorem dX10_set_31 : decode cX10_set 31 = .ok (.getfield 31, 3) := by decide +kernel
theorem dX10_set_34 : decode cX10_set 34 = .ok (.getfield 133, 3) := by decide +kernel
theorem dX10_set_37 : decode cX10_set 37 = .ok (.iload_n 1, 1) := by decide +kernel
theorem dX10_set_38 : decode cX10_set 38 = .ok (.iload_n 2, 1) := by decide +kernel
theorem dX10_set_39 : decode cX10_set 39 = .ok (.iastore, 1) := by decide +kernel
theorem dX10_set_40 : decode cX10_set 40 = .ok (.iload_n 3, 1) := by decide +kernel
theorem dX10_set_41 : decode cX10_set 41 = .ok (.ireturn, 1) := by decide +kernel
theorem dX10_variable_0 : decode cX10_variable 0 = .ok (.iload_n 1, 1) := by decide +kernel
theorem dX10_variable_1 : decode cX10_variable 1 = .ok (.ifCond .lt 9, 3) := by decide +kernel
theorem dX10_variable_4 : decode cX10_variable 4 = .ok (.iload_n 1, 1) := by decide +kernel
theorem dX10_variable_5 : decode cX10_variable 5 = .ok (.bipush 64, 2) := by decide +kernel
theorem dX10_variable_7 : decode cX10_variable 7 = .ok (.if_icmp .lt 13, 3) := by decide +kernel
theorem dX10_variable_10 : decode cX10_variable 10 = .ok (.new 128, 3) := by decide +kernel
theorem dX10_variable_13 : decode cX10_variable 13 = .ok (.dup, 1) := by decide +kernel
theorem dX10_variable_14 : decode cX10_variable 14 = .ok (.ldc 130, 2) := by decide +kernel
theorem dX10_variable_16 : decode cX10_variable 16 = .ok (.invokespecial 132, 3) := by decide +kernel
theorem dX10_variable_19 : decode cX10_variable 19 = .ok (.athrow, 1) := by decide +kernel
theorem dX10_variable_20 : decode cX10_variable 20 = .ok (.aload_n 0, 1) := by decide +kernel
theorem dX10_variable_21 : decode cX10_variable 21 = .ok (.getfield 31, 3) := by decide +kernel
theorem dX10_variable_24 : decode cX10_variable 24 = .ok (.getfield 133, 3) := by decide +kernel
theorem dX10_variable_27 : decode cX10_variable 27 = .ok (.iload_n 1, 1) := by decide +kernel
theorem dX10_variable_28 : decode cX10_variable 28 = .ok (.iaload, 1) := by decide +kernel
theorem dX10_variable_29 : decode cX10_variable 29 = .ok (.ireturn, 1) := by decide +kernel
theorem dX10_slot_0 : decode cX10_slot 0 = .ok (.iload_n 1, 1) := by decide +kernel
theorem dX10_slot_1 : decode cX10_slot 1 = .ok (.ifCond .lt 9, 3) := by decide +kernel
theorem dX10_slot_4 : decode cX10_slot 4 = .ok (.iload_n 1, 1) := by decide +kernel
theorem dX10_slot_5 : decode cX10_slot 5 = .ok (.bipush 8, 2) := by decide +kernel
theorem dX10_slot_7 : decode cX10_slot 7 = .ok (.if_icmp .lt 5, 3) := by decide +kernel
theorem dX10_slot_10 : decode cX10_slot 10 = .ok (.iconst (-1), 1) := by decide +kernel
theorem dX10_slot_11 : decode cX10_slot 11 = .ok (.ireturn, 1) := by decide +kernel
theorem dX10_slot_12 : decode cX10_slot 12 = .ok (.aload_n 0, 1) := by decide +kernel
theorem dX10_slot_13 : decode cX10_slot 13 = .ok (.getfield 31, 3) := by decide +kernel
theorem dX10_slot_16 : decode cX10_slot 16 = .ok (.getfield 137, 3) := by decide +kernel
theorem dX10_slot_19 : decode cX10_slot 19 = .ok (.iload_n 1, 1) := by decide +kernel
theorem dX10_slot_20 : decode cX10_slot 20 = .ok (.aaload, 1) := by decide +kernel
theorem dX10_slot_21 : decode cX10_slot 21 = .ok (.iload_n 2, 1) := by decide +kernel
theorem dX10_slot_22 : decode cX10_slot 22 = .ok (.invokevirtual 141, 3) := by decide +kernel
theorem dX10_slot_25 : decode cX10_slot 25 = .ok (.ireturn, 1) := by decide +kernel
theorem dX10_actor_0 : decode cX10_actor 0 = .ok (.aload_n 0, 1) := by decide +kernel
theorem dX10_actor_1 : decode cX10_actor 1 = .ok (.getfield 16, 3) := by decide +kernel
theorem dX10_actor_4 : decode cX10_actor 4 = .ok (.getfield 147, 3) := by decide +kernel
theorem dX10_actor_7 : decode cX10_actor 7 = .ok (.iload_n 1, 1) := by decide +kernel
theorem dX10_actor_8 : decode cX10_actor 8 = .ok (.invokevirtual 151, 3) := by decide +kernel
theorem dX10_actor_11 : decode cX10_actor 11 = .ok (.ifCond .eq 13, 3) := by decide +kernel
theorem dX10_actor_14 : decode cX10_actor 14 = .ok (.iload_n 2, 1) := by decide +kernel
theorem dX10_actor_15 : decode cX10_actor 15 = .ok (.ifCond .lt 9, 3) := by decide +kernel
theorem dX10_actor_18 : decode cX10_actor 18 = .ok (.iload_n 2, 1) := by decide +kernel
theorem dX10_actor_19 : decode cX10_actor 19 = .ok (.bipush 7, 2) := by decide +kernel
theorem dX10_actor_21 : decode cX10_actor 21 = .ok (.if_icmp .le 13, 3) := by decide +kernel
theorem dX10_actor_24 : decode cX10_actor 24 = .ok (.new 128, 3) := by decide +kernel
theorem dX10_actor_27 : decode cX10_actor 27 = .ok (.dup, 1) := by decide +kernel
theorem dX10_actor_28 : decode cX10_actor 28 = .ok (.ldc 156, 2) := by decide +kernel
theorem dX10_actor_30 : decode cX10_actor 30 = .ok (.invokespecial 132, 3) := by decide +kernel
theorem dX10_actor_33 : decode cX10_actor 33 = .ok (.athrow, 1) := by decide +kernel
theorem dX10_actor_34 : decode cX10_actor 34 = .ok (.aload_n 0, 1) := by decide +kernel
theorem dX10_actor_35 : decode cX10_actor 35 = .ok (.getfield 31, 3) := by decide +kernel
theorem dX10_actor_38 : decode cX10_actor 38 = .ok (.getfield 158, 3) := by decide +kernel
theorem dX10_actor_41 : decode cX10_actor 41 = .ok (.iload_n 1, 1) := by decide +kernel
theorem dX10_actor_42 : decode cX10_actor 42 = .ok (.aaload, 1) := by decide +kernel
theorem dX10_actor_43 : decode cX10_actor 43 = .ok (.astore_n 3, 1) := by decide +kernel
theorem dX10_actor_44 : decode cX10_actor 44 = .ok (.iload_n 2, 1) := by decide +kernel
theorem dX10_actor_45 : decode cX10_actor 45 = .ok (.bipush 7, 2) := by decide +kernel
theorem dX10_actor_47 : decode cX10_actor 47 = .ok (.if_icmp .ne 14, 3) := by decide +kernel
theorem dX10_actor_50 : decode cX10_actor 50 = .ok (.aload_n 0, 1) := by decide +kernel
theorem dX10_actor_51 : decode cX10_actor 51 = .ok (.getfield 50, 3) := by decide +kernel
theorem dX10_actor_54 : decode cX10_actor 54 = .ok (.aload_n 3, 1) := by decide +kernel
theorem dX10_actor_55 : decode cX10_actor 55 = .ok (.invokevirtual 161, 3) := by decide +kernel
theorem dX10_actor_58 : decode cX10_actor 58 = .ok (.goto 8, 3) := by decide +kernel
theorem dX10_actor_61 : decode cX10_actor 61 = .ok (.aload_n 3, 1) := by decide +kernel
theorem dX10_actor_62 : decode cX10_actor 62 = .ok (.iload_n 2, 1) := by decide +kernel
theorem dX10_actor_63 : decode cX10_actor 63 = .ok (.invokevirtual 165, 3) := by decide +kernel
theorem dX10_actor_66 : decode cX10_actor 66 = .ok (.ireturn, 1) := by decide +kernel
theorem dX10_object_0 : decode cX10_object 0 = .ok (.aload_n 0, 1) := by decide +kernel
theorem dX10_object_1 : decode cX10_object 1 = .ok (.getfield 16, 3) := by decide +kernel
theorem dX10_object_4 : decode cX10_object 4 = .ok (.getfield 168, 3) := by decide +kernel
theorem dX10_object_7 : decode cX10_object 7 = .ok (.iload_n 1, 1) := by decide +kernel
theorem dX10_object_8 : decode cX10_object 8 = .ok (.invokevirtual 151, 3) := by decide +kernel
theorem dX10_object_11 : decode cX10_object 11 = .ok (.ifCond .eq 12, 3) := by decide +kernel
theorem dX10_object_14 : decode cX10_object 14 = .ok (.iload_n 2, 1) := by decide +kernel
theorem dX10_object_15 : decode cX10_object 15 = .ok (.ifCond .lt 8, 3) := by decide +kernel
theorem dX10_object_18 : decode cX10_object 18 = .ok (.iload_n 2, 1) := by decide +kernel
theorem dX10_object_19 : decode cX10_object 19 = .ok (.iconst 5, 1) := by decide +kernel
theorem dX10_object_20 : decode cX10_object 20 = .ok (.if_icmp .le 13, 3) := by decide +kernel
theorem dX10_object_23 : decode cX10_object 23 = .ok (.new 128, 3) := by decide +kernel
theorem dX10_object_26 : decode cX10_object 26 = .ok (.dup, 1) := by decide +kernel
theorem dX10_object_27 : decode cX10_object 27 = .ok (.ldc 171, 2) := by decide +kernel
theorem dX10_object_29 : decode cX10_object 29 = .ok (.invokespecial 132, 3) := by decide +kernel
theorem dX10_object_32 : decode cX10_object 32 = .ok (.athrow, 1) := by decide +kernel
theorem dX10_object_33 : decode cX10_object 33 = .ok (.iload_n 2, 1) := by decide +kernel
theorem dX10_object_34 : decode cX10_object 34 = .ok (.tableswitch 55 3 5 #[26, 36, 46], 26) := by decide +kernel
theorem dX10_object_60 : decode cX10_object 60 = .ok (.aload_n 0, 1) := by decide +kernel
theorem dX10_object_61 : decode cX10_object 61 = .ok (.getfield 31, 3) := by decide +kernel
theorem dX10_object_64 : decode cX10_object 64 = .ok (.getfield 173, 3) := by decide +kernel
theorem dX10_object_67 : decode cX10_object 67 = .ok (.iload_n 1, 1) := by decide +kernel
theorem dX10_object_68 : decode cX10_object 68 = .ok (.iaload, 1) := by decide +kernel
theorem dX10_object_69 : decode cX10_object 69 = .ok (.ireturn, 1) := by decide +kernel
theorem dX10_object_70 : decode cX10_object 70 = .ok (.aload_n 0, 1) := by decide +kernel
theorem dX10_object_71 : decode cX10_object 71 = .ok (.getfield 31, 3) := by decide +kernel
theorem dX10_object_74 : decode cX10_object 74 = .ok (.getfield 176, 3) := by decide +kernel
theorem dX10_object_77 : decode cX10_object 77 = .ok (.iload_n 1, 1) := by decide +kernel
theorem dX10_object_78 : decode cX10_object 78 = .ok (.iaload, 1) := by decide +kernel
theorem dX10_object_79 : decode cX10_object 79 = .ok (.ireturn, 1) := by decide +kernel
theorem dX10_object_80 : decode cX10_object 80 = .ok (.aload_n 0, 1) := by decide +kernel
theorem dX10_object_81 : decode cX10_object 81 = .ok (.getfield 16, 3) := by decide +kernel
theorem dX10_object_84 : decode cX10_object 84 = .ok (.iload_n 1, 1) := by decide +kernel
theorem dX10_object_85 : decode cX10_object 85 = .ok (.invokevirtual 179, 3) := by decide +kernel
theorem dX10_object_88 : decode cX10_object 88 = .ok (.ireturn, 1) := by decide +kernel
theorem dX10_object_89 : decode cX10_object 89 = .ok (.aload_n 0, 1) := by decide +kernel
theorem dX10_object_90 : decode cX10_object 90 = .ok (.getfield 16, 3) := by decide +kernel
theorem dX10_object_93 : decode cX10_object 93 = .ok (.iload_n 1, 1) := by decide +kernel
theorem dX10_object_94 : decode cX10_object 94 = .ok (.iload_n 2, 1) := by decide +kernel
theorem dX10_object_95 : decode cX10_object 95 = .ok (.invokevirtual 182, 3) := by decide +kernel
theorem dX10_object_98 : decode cX10_object 98 = .ok (.ireturn, 1) := by decide +kernel
theorem dX10_verb_0 : decode cX10_verb 0 = .ok (.aload_n 0, 1) := by decide +kernel
theorem dX10_verb_1 : decode cX10_verb 1 = .ok (.getfield 16, 3) := by decide +kernel
theorem dX10_verb_4 : decode cX10_verb 4 = .ok (.iload_n 1, 1) := by decide +kernel
theorem dX10_verb_5 : decode cX10_verb 5 = .ok (.iload_n 2, 1) := by decide +kernel
theorem dX10_verb_6 : decode cX10_verb 6 = .ok (.invokevirtual 186, 3) := by decide +kernel
theorem dX10_verb_9 : decode cX10_verb 9 = .ok (.ireturn, 1) := by decide +kernel
theorem dX10_box_0 : decode cX10_box 0 = .ok (.aload_n 0, 1) := by decide +kernel
theorem dX10_box_1 : decode cX10_box 1 = .ok (.getfield 41, 3) := by decide +kernel
theorem dX10_box_4 : decode cX10_box 4 = .ok (.iload_n 1, 1) := by decide +kernel
theorem dX10_box_5 : decode cX10_box 5 = .ok (.iload_n 2, 1) := by decide +kernel
theorem dX10_box_6 : decode cX10_box 6 = .ok (.invokevirtual 189, 3) := by decide +kernel
theorem dX10_box_9 : decode cX10_box 9 = .ok (.ifCond .ne 5, 3) := by decide +kernel
theorem dX10_box_12 : decode cX10_box 12 = .ok (.iconst (-1), 1) := by decide +kernel
theorem dX10_box_13 : decode cX10_box 13 = .ok (.ireturn, 1) := by decide +kernel
theorem dX10_box_14 : decode cX10_box 14 = .ok (.iload_n 3, 1) := by decide +kernel
theorem dX10_box_15 : decode cX10_box 15 = .ok (.iconst 4, 1) := by decide +kernel
theorem dX10_box_16 : decode cX10_box 16 = .ok (.if_icmp .ne 21, 3) := by decide +kernel
theorem dX10_box_19 : decode cX10_box 19 = .ok (.aload_n 0, 1) := by decide +kernel
theorem dX10_box_20 : decode cX10_box 20 = .ok (.getfield 50, 3) := by decide +kernel
theorem dX10_box_23 : decode cX10_box 23 = .ok (.iload_n 1, 1) := by decide +kernel
theorem dX10_box_24 : decode cX10_box 24 = .ok (.iload_n 2, 1) := by decide +kernel
theorem dX10_box_25 : decode cX10_box 25 = .ok (.invokevirtual 193, 3) := by decide +kernel
theorem dX10_box_28 : decode cX10_box 28 = .ok (.ifCond .eq 7, 3) := by decide +kernel
theorem dX10_box_31 : decode cX10_box 31 = .ok (.iconst 0, 1) := by decide +kernel
theorem dX10_box_32 : decode cX10_box 32 = .ok (.goto 4, 3) := by decide +kernel
theorem dX10_box_35 : decode cX10_box 35 = .ok (.iconst 1, 1) := by decide +kernel
theorem dX10_box_36 : decode cX10_box 36 = .ok (.ireturn, 1) := by decide +kernel
theorem dX10_box_37 : decode cX10_box 37 = .ok (.aload_n 0, 1) := by decide +kernel
theorem dX10_box_38 : decode cX10_box 38 = .ok (.getfield 41, 3) := by decide +kernel
theorem dX10_box_41 : decode cX10_box 41 = .ok (.iload_n 1, 1) := by decide +kernel
theorem dX10_box_42 : decode cX10_box 42 = .ok (.iload_n 2, 1) := by decide +kernel
theorem dX10_box_43 : decode cX10_box 43 = .ok (.iload_n 3, 1) := by decide +kernel
theorem dX10_box_44 : decode cX10_box 44 = .ok (.invokevirtual 196, 3) := by decide +kernel
theorem dX10_box_47 : decode cX10_box 47 = .ok (.ireturn, 1) := by decide +kernel
theorem dX10_neighbours_0 : decode cX10_neighbours 0 = .ok (.aload_n 0, 1) := by decide +kernel
theorem dX10_neighbours_1 : decode cX10_neighbours 1 = .ok (.getfield 41, 3) := by decide +kernel
theorem dX10_neighbours_4 : decode cX10_neighbours 4 = .ok (.iload_n 1, 1) := by decide +kernel
theorem dX10_neighbours_5 : decode cX10_neighbours 5 = .ok (.iload_n 2, 1) := by decide +kernel
theorem dX10_neighbours_6 : decode cX10_neighbours 6 = .ok (.invokevirtual 189, 3) := by decide +kernel
theorem dX10_neighbours_9 : decode cX10_neighbours 9 = .ok (.ifCond .eq 15, 3) := by decide +kernel
theorem dX10_neighbours_12 : decode cX10_neighbours 12 = .ok (.aload_n 0, 1) := by decide +kernel
theorem dX10_neighbours_13 : decode cX10_neighbours 13 = .ok (.getfield 41, 3) := by decide +kernel
theorem dX10_neighbours_16 : decode cX10_neighbours 16 = .ok (.iload_n 1, 1) := by decide +kernel
theorem dX10_neighbours_17 : decode cX10_neighbours 17 = .ok (.iload_n 3, 1) := by decide +kernel
theorem dX10_neighbours_18 : decode cX10_neighbours 18 = .ok (.invokevirtual 189, 3) := by decide +kernel
theorem dX10_neighbours_21 : decode cX10_neighbours 21 = .ok (.ifCond .ne 5, 3) := by decide +kernel
theorem dX10_neighbours_24 : decode cX10_neighbours 24 = .ok (.iconst (-1), 1) := by decide +kernel
theorem dX10_neighbours_25 : decode cX10_neighbours 25 = .ok (.ireturn, 1) := by decide +kernel
theorem dX10_neighbours_26 : decode cX10_neighbours 26 = .ok (.aload_n 0, 1) := by decide +kernel
theorem dX10_neighbours_27 : decode cX10_neighbours 27 = .ok (.getfield 41, 3) := by decide +kernel
theorem dX10_neighbours_30 : decode cX10_neighbours 30 = .ok (.getfield 200, 3) := by decide +kernel
theorem dX10_neighbours_33 : decode cX10_neighbours 33 = .ok (.iload_n 1, 1) := by decide +kernel
theorem dX10_neighbours_34 : decode cX10_neighbours 34 = .ok (.bipush 16, 2) := by decide +kernel
theorem dX10_neighbours_36 : decode cX10_neighbours 36 = .ok (.imul, 1) := by decide +kernel
theorem dX10_neighbours_37 : decode cX10_neighbours 37 = .ok (.iload_n 2, 1) := by decide +kernel
theorem dX10_neighbours_38 : decode cX10_neighbours 38 = .ok (.iadd, 1) := by decide +kernel
theorem dX10_neighbours_39 : decode cX10_neighbours 39 = .ok (.iaload, 1) := by decide +kernel
theorem dX10_neighbours_40 : decode cX10_neighbours 40 = .ok (.iload_n 3, 1) := by decide +kernel
theorem dX10_neighbours_41 : decode cX10_neighbours 41 = .ok (.ishr, 1) := by decide +kernel
theorem dX10_neighbours_42 : decode cX10_neighbours 42 = .ok (.iconst 1, 1) := by decide +kernel
theorem dX10_neighbours_43 : decode cX10_neighbours 43 = .ok (.iand, 1) := by decide +kernel
theorem dX10_neighbours_44 : decode cX10_neighbours 44 = .ok (.ireturn, 1) := by decide +kernel
theorem dX10_way_0 : decode cX10_way 0 = .ok (.aload_n 0, 1) := by decide +kernel
theorem dX10_way_1 : decode cX10_way 1 = .ok (.getfield 50, 3) := by decide +kernel
theorem dX10_way_4 : decode cX10_way 4 = .ok (.iload_n 1, 1) := by decide +kernel
theorem dX10_way_5 : decode cX10_way 5 = .ok (.iload_n 2, 1) := by decide +kernel
theorem dX10_way_6 : decode cX10_way 6 = .ok (.invokevirtual 193, 3) := by decide +kernel
theorem dX10_way_9 : decode cX10_way 9 = .ok (.ifCond .eq 15, 3) := by decide +kernel
theorem dX10_way_12 : decode cX10_way 12 = .ok (.aload_n 0, 1) := by decide +kernel
theorem dX10_way_13 : decode cX10_way 13 = .ok (.getfield 50, 3) := by decide +kernel
theorem dX10_way_16 : decode cX10_way 16 = .ok (.iload_n 1, 1) := by decide +kernel
theorem dX10_way_17 : decode cX10_way 17 = .ok (.iload_n 3, 1) := by decide +kernel
theorem dX10_way_18 : decode cX10_way 18 = .ok (.invokevirtual 193, 3) := by decide +kernel
theorem dX10_way_21 : decode cX10_way 21 = .ok (.ifCond .ne 5, 3) := by decide +kernel
theorem dX10_way_24 : decode cX10_way 24 = .ok (.iconst (-1), 1) := by decide +kernel
theorem dX10_way_25 : decode cX10_way 25 = .ok (.ireturn, 1) := by decide +kernel
theorem dX10_way_26 : decode cX10_way 26 = .ok (.aload_n 0, 1) := by decide +kernel
theorem dX10_way_27 : decode cX10_way 27 = .ok (.getfield 50, 3) := by decide +kernel
theorem dX10_way_30 : decode cX10_way 30 = .ok (.iload_n 1, 1) := by decide +kernel
theorem dX10_way_31 : decode cX10_way 31 = .ok (.iload_n 2, 1) := by decide +kernel
theorem dX10_way_32 : decode cX10_way 32 = .ok (.iload_n 3, 1) := by decide +kernel
theorem dX10_way_33 : decode cX10_way 33 = .ok (.invokevirtual 203, 3) := by decide +kernel
theorem dX10_way_36 : decode cX10_way 36 = .ok (.ireturn, 1) := by decide +kernel
theorem dX10_goal_0 : decode cX10_goal 0 = .ok (.aload_n 0, 1) := by decide +kernel
theorem dX10_goal_1 : decode cX10_goal 1 = .ok (.getfield 16, 3) := by decide +kernel
theorem dX10_goal_4 : decode cX10_goal 4 = .ok (.getfield 147, 3) := by decide +kernel
theorem dX10_goal_7 : decode cX10_goal 7 = .ok (.iload_n 1, 1) := by decide +kernel
theorem dX10_goal_8 : decode cX10_goal 8 = .ok (.invokevirtual 151, 3) := by decide +kernel
theorem dX10_goal_11 : decode cX10_goal 11 = .ok (.ifCond .eq 17, 3) := by decide +kernel
theorem dX10_goal_14 : decode cX10_goal 14 = .ok (.iload_n 2, 1) := by decide +kernel
theorem dX10_goal_15 : decode cX10_goal 15 = .ok (.invokestatic 206, 3) := by decide +kernel
theorem dX10_goal_18 : decode cX10_goal 18 = .ok (.ifCond .eq 10, 3) := by decide +kernel
theorem dX10_goal_21 : decode cX10_goal 21 = .ok (.iload_n 3, 1) := by decide +kernel
theorem dX10_goal_22 : decode cX10_goal 22 = .ok (.invokestatic 206, 3) := by decide +kernel
theorem dX10_goal_25 : decode cX10_goal 25 = .ok (.ifCond .ne 5, 3) := by decide +kernel
theorem dX10_goal_28 : decode cX10_goal 28 = .ok (.iconst (-1), 1) := by decide +kernel
theorem dX10_goal_29 : decode cX10_goal 29 = .ok (.ireturn, 1) := by decide +kernel
theorem dX10_goal_30 : decode cX10_goal 30 = .ok (.aload_n 0, 1) := by decide +kernel
theorem dX10_goal_31 : decode cX10_goal 31 = .ok (.getfield 50, 3) := by decide +kernel
theorem dX10_goal_34 : decode cX10_goal 34 = .ok (.aload_n 0, 1) := by decide +kernel
theorem dX10_goal_35 : decode cX10_goal 35 = .ok (.getfield 31, 3) := by decide +kernel
theorem dX10_goal_38 : decode cX10_goal 38 = .ok (.getfield 158, 3) := by decide +kernel
theorem dX10_goal_41 : decode cX10_goal 41 = .ok (.iload_n 1, 1) := by decide +kernel
theorem dX10_goal_42 : decode cX10_goal 42 = .ok (.aaload, 1) := by decide +kernel
theorem dX10_goal_43 : decode cX10_goal 43 = .ok (.iload_n 2, 1) := by decide +kernel
theorem dX10_goal_44 : decode cX10_goal 44 = .ok (.iload_n 3, 1) := by decide +kernel
theorem dX10_goal_45 : decode cX10_goal 45 = .ok (.invokevirtual 209, 3) := by decide +kernel
theorem dX10_goal_48 : decode cX10_goal 48 = .ok (.ireturn, 1) := by decide +kernel
theorem dX10_note_0 : decode cX10_note 0 = .ok (.iload_n 1, 1) := by decide +kernel
theorem dX10_note_1 : decode cX10_note 1 = .ok (.ifCond .lt 20, 3) := by decide +kernel
theorem dX10_note_4 : decode cX10_note 4 = .ok (.iload_n 1, 1) := by decide +kernel
theorem dX10_note_5 : decode cX10_note 5 = .ok (.bipush 64, 2) := by decide +kernel
theorem dX10_note_7 : decode cX10_note 7 = .ok (.if_icmp .ge 14, 3) := by decide +kernel
theorem dX10_note_10 : decode cX10_note 10 = .ok (.iload_n 1, 1) := by decide +kernel
theorem dX10_note_11 : decode cX10_note 11 = .ok (.aload_n 0, 1) := by decide +kernel
theorem dX10_note_12 : decode cX10_note 12 = .ok (.getfield 31, 3) := by decide +kernel
theorem dX10_note_15 : decode cX10_note 15 = .ok (.getfield 213, 3) := by decide +kernel
theorem dX10_note_18 : decode cX10_note 18 = .ok (.if_icmp .lt 13, 3) := by decide +kernel
theorem dX10_note_21 : decode cX10_note 21 = .ok (.new 128, 3) := by decide +kernel
theorem dX10_note_24 : decode cX10_note 24 = .ok (.dup, 1) := by decide +kernel
theorem dX10_note_25 : decode cX10_note 25 = .ok (.ldc 216, 2) := by decide +kernel
theorem dX10_note_27 : decode cX10_note 27 = .ok (.invokespecial 132, 3) := by decide +kernel
theorem dX10_note_30 : decode cX10_note 30 = .ok (.athrow, 1) := by decide +kernel
theorem dX10_note_31 : decode cX10_note 31 = .ok (.aload_n 0, 1) := by decide +kernel
theorem dX10_note_32 : decode cX10_note 32 = .ok (.getfield 31, 3) := by decide +kernel
theorem dX10_note_35 : decode cX10_note 35 = .ok (.getfield 218, 3) := by decide +kernel
theorem dX10_note_38 : decode cX10_note 38 = .ok (.aload_n 0, 1) := by decide +kernel
theorem dX10_note_39 : decode cX10_note 39 = .ok (.getfield 31, 3) := by decide +kernel
theorem dX10_note_42 : decode cX10_note 42 = .ok (.getfield 213, 3) := by decide +kernel
theorem dX10_note_45 : decode cX10_note 45 = .ok (.iconst 1, 1) := by decide +kernel
theorem dX10_note_46 : decode cX10_note 46 = .ok (.isub, 1) := by decide +kernel
theorem dX10_note_47 : decode cX10_note 47 = .ok (.iload_n 1, 1) := by decide +kernel
theorem dX10_note_48 : decode cX10_note 48 = .ok (.isub, 1) := by decide +kernel
theorem dX10_note_49 : decode cX10_note 49 = .ok (.bipush 64, 2) := by decide +kernel
theorem dX10_note_51 : decode cX10_note 51 = .ok (.irem, 1) := by decide +kernel
theorem dX10_note_52 : decode cX10_note 52 = .ok (.iaload, 1) := by decide +kernel
theorem dX10_note_53 : decode cX10_note 53 = .ok (.ireturn, 1) := by decide +kernel
theorem dX10_sentence_0 : decode cX10_sentence 0 = .ok (.iload_n 1, 1) := by decide +kernel
theorem dX10_sentence_1 : decode cX10_sentence 1 = .ok (.ifCond .lt 23, 3) := by decide +kernel
theorem dX10_sentence_4 : decode cX10_sentence 4 = .ok (.iload_n 1, 1) := by decide +kernel
theorem dX10_sentence_5 : decode cX10_sentence 5 = .ok (.aload_n 0, 1) := by decide +kernel
theorem dX10_sentence_6 : decode cX10_sentence 6 = .ok (.getfield 31, 3) := by decide +kernel
theorem dX10_sentence_9 : decode cX10_sentence 9 = .ok (.getfield 122, 3) := by decide +kernel
theorem dX10_sentence_12 : decode cX10_sentence 12 = .ok (.if_icmp .ge 12, 3) := by decide +kernel
theorem dX10_sentence_15 : decode cX10_sentence 15 = .ok (.iload_n 2, 1) := by decide +kernel
theorem dX10_sentence_16 : decode cX10_sentence 16 = .ok (.ifCond .lt 8, 3) := by decide +kernel
theorem dX10_sentence_19 : decode cX10_sentence 19 = .ok (.iload_n 2, 1) := by decide +kernel
theorem dX10_sentence_20 : decode cX10_sentence 20 = .ok (.iconst 3, 1) := by decide +kernel
theorem dX10_sentence_21 : decode cX10_sentence 21 = .ok (.if_icmp .lt 13, 3) := by decide +kernel
theorem dX10_sentence_24 : decode cX10_sentence 24 = .ok (.new 128, 3) := by decide +kernel
theorem dX10_sentence_27 : decode cX10_sentence 27 = .ok (.dup, 1) := by decide +kernel
theorem dX10_sentence_28 : decode cX10_sentence 28 = .ok (.ldc 221, 2) := by decide +kernel
theorem dX10_sentence_30 : decode cX10_sentence 30 = .ok (.invokespecial 132, 3) := by decide +kernel
theorem dX10_sentence_33 : decode cX10_sentence 33 = .ok (.athrow, 1) := by decide +kernel
theorem dX10_sentence_34 : decode cX10_sentence 34 = .ok (.aload_n 0, 1) := by decide +kernel
theorem dX10_sentence_35 : decode cX10_sentence 35 = .ok (.getfield 31, 3) := by decide +kernel
theorem dX10_sentence_38 : decode cX10_sentence 38 = .ok (.getfield 223, 3) := by decide +kernel
theorem dX10_sentence_41 : decode cX10_sentence 41 = .ok (.iload_n 1, 1) := by decide +kernel
theorem dX10_sentence_42 : decode cX10_sentence 42 = .ok (.iconst 3, 1) := by decide +kernel
theorem dX10_sentence_43 : decode cX10_sentence 43 = .ok (.imul, 1) := by decide +kernel
theorem dX10_sentence_44 : decode cX10_sentence 44 = .ok (.iload_n 2, 1) := by decide +kernel
theorem dX10_sentence_45 : decode cX10_sentence 45 = .ok (.iadd, 1) := by decide +kernel
theorem dX10_sentence_46 : decode cX10_sentence 46 = .ok (.iaload, 1) := by decide +kernel
theorem dX10_sentence_47 : decode cX10_sentence 47 = .ok (.ireturn, 1) := by decide +kernel
theorem dX10_count_0 : decode cX10_count 0 = .ok (.iload_n 1, 1) := by decide +kernel
theorem dX10_count_1 : decode cX10_count 1 = .ok (.tableswitch 174 0 11 #[63, 71, 79, 87, 95, 103, 111, 119, 130, 141, 152, 163], 63) := by decide +kernel
theorem dX10_count_64 : decode cX10_count 64 = .ok (.aload_n 0, 1) := by decide +kernel
theorem dX10_count_65 : decode cX10_count 65 = .ok (.getfield 31, 3) := by decide +kernel
theorem dX10_count_68 : decode cX10_count 68 = .ok (.getfield 226, 3) := by decide +kernel
theorem dX10_count_71 : decode cX10_count 71 = .ok (.ireturn, 1) := by decide +kernel
theorem dX10_count_72 : decode cX10_count 72 = .ok (.aload_n 0, 1) := by decide +kernel
theorem dX10_count_73 : decode cX10_count 73 = .ok (.getfield 31, 3) := by decide +kernel
theorem dX10_count_76 : decode cX10_count 76 = .ok (.invokevirtual 229, 3) := by decide +kernel
theorem dX10_count_79 : decode cX10_count 79 = .ok (.ireturn, 1) := by decide +kernel
theorem dX10_count_80 : decode cX10_count 80 = .ok (.aload_n 0, 1) := by decide +kernel
theorem dX10_count_81 : decode cX10_count 81 = .ok (.getfield 31, 3) := by decide +kernel
theorem dX10_count_84 : decode cX10_count 84 = .ok (.getfield 122, 3) := by decide +kernel
theorem dX10_count_87 : decode cX10_count 87 = .ok (.ireturn, 1) := by decide +kernel
theorem dX10_count_88 : decode cX10_count 88 = .ok (.aload_n 0, 1) := by decide +kernel
theorem dX10_count_89 : decode cX10_count 89 = .ok (.getfield 31, 3) := by decide +kernel
theorem dX10_count_92 : decode cX10_count 92 = .ok (.getfield 213, 3) := by decide +kernel
theorem dX10_count_95 : decode cX10_count 95 = .ok (.ireturn, 1) := by decide +kernel
theorem dX10_count_96 : decode cX10_count 96 = .ok (.aload_n 0, 1) := by decide +kernel
theorem dX10_count_97 : decode cX10_count 97 = .ok (.getfield 31, 3) := by decide +kernel
theorem dX10_count_100 : decode cX10_count 100 = .ok (.getfield 232, 3) := by decide +kernel
theorem dX10_count_103 : decode cX10_count 103 = .ok (.ireturn, 1) := by decide +kernel
theorem dX10_count_104 : decode cX10_count 104 = .ok (.aload_n 0, 1) := by decide +kernel
theorem dX10_count_105 : decode cX10_count 105 = .ok (.getfield 31, 3) := by decide +kernel
theorem dX10_count_108 : decode cX10_count 108 = .ok (.getfield 235, 3) := by decide +kernel
theorem dX10_count_111 : decode cX10_count 111 = .ok (.ireturn, 1) := by decide +kernel
theorem dX10_count_112 : decode cX10_count 112 = .ok (.aload_n 0, 1) := by decide +kernel
theorem dX10_count_113 : decode cX10_count 113 = .ok (.getfield 31, 3) := by decide +kernel
theorem dX10_count_116 : decode cX10_count 116 = .ok (.getfield 238, 3) := by decide +kernel
theorem dX10_count_119 : decode cX10_count 119 = .ok (.ireturn, 1) := by decide +kernel
theorem dX10_count_120 : decode cX10_count 120 = .ok (.aload_n 0, 1) := by decide +kernel
theorem dX10_count_121 : decode cX10_count 121 = .ok (.getfield 16, 3) := by decide +kernel
theorem dX10_count_124 : decode cX10_count 124 = .ok (.getfield 241, 3) := by decide +kernel
theorem dX10_count_127 : decode cX10_count 127 = .ok (.getfield 244, 3) := by decide +kernel
theorem dX10_count_130 : decode cX10_count 130 = .ok (.ireturn, 1) := by decide +kernel
theorem dX10_count_131 : decode cX10_count 131 = .ok (.aload_n 0, 1) := by decide +kernel
theorem dX10_count_132 : decode cX10_count 132 = .ok (.getfield 16, 3) := by decide +kernel
theorem dX10_count_135 : decode cX10_count 135 = .ok (.getfield 245, 3) := by decide +kernel
theorem dX10_count_138 : decode cX10_count 138 = .ok (.getfield 244, 3) := by decide +kernel
theorem dX10_count_141 : decode cX10_count 141 = .ok (.ireturn, 1) := by decide +kernel
theorem dX10_count_142 : decode cX10_count 142 = .ok (.aload_n 0, 1) := by decide +kernel
theorem dX10_count_143 : decode cX10_count 143 = .ok (.getfield 16, 3) := by decide +kernel
theorem dX10_count_146 : decode cX10_count 146 = .ok (.getfield 168, 3) := by decide +kernel
theorem dX10_count_149 : decode cX10_count 149 = .ok (.getfield 244, 3) := by decide +kernel
theorem dX10_count_152 : decode cX10_count 152 = .ok (.ireturn, 1) := by decide +kernel
theorem dX10_count_153 : decode cX10_count 153 = .ok (.aload_n 0, 1) := by decide +kernel
theorem dX10_count_154 : decode cX10_count 154 = .ok (.getfield 16, 3) := by decide +kernel
theorem dX10_count_157 : decode cX10_count 157 = .ok (.getfield 147, 3) := by decide +kernel
theorem dX10_count_160 : decode cX10_count 160 = .ok (.getfield 244, 3) := by decide +kernel
theorem dX10_count_163 : decode cX10_count 163 = .ok (.ireturn, 1) := by decide +kernel
theorem dX10_count_164 : decode cX10_count 164 = .ok (.aload_n 0, 1) := by decide +kernel
theorem dX10_count_165 : decode cX10_count 165 = .ok (.getfield 10, 3) := by decide +kernel
theorem dX10_count_168 : decode cX10_count 168 = .ok (.getfield 63, 3) := by decide +kernel
theorem dX10_count_171 : decode cX10_count 171 = .ok (.getfield 67, 3) := by decide +kernel
theorem dX10_count_174 : decode cX10_count 174 = .ok (.ireturn, 1) := by decide +kernel
theorem dX10_count_175 : decode cX10_count 175 = .ok (.iconst (-1), 1) := by decide +kernel
theorem dX10_count_176 : decode cX10_count 176 = .ok (.ireturn, 1) := by decide +kernel
theorem dX10_keep_0 : decode cX10_keep 0 = .ok (.aload_n 0, 1) := by decide +kernel
theorem dX10_keep_1 : decode cX10_keep 1 = .ok (.getfield 35, 3) := by decide +kernel
theorem dX10_keep_4 : decode cX10_keep 4 = .ok (.aload_n 0, 1) := by decide +kernel
theorem dX10_keep_5 : decode cX10_keep 5 = .ok (.getfield 31, 3) := by decide +kernel
theorem dX10_keep_8 : decode cX10_keep 8 = .ok (.invokevirtual 248, 3) := by decide +kernel
theorem dX10_keep_11 : decode cX10_keep 11 = .ok (.aload_n 0, 1) := by decide +kernel
theorem dX10_keep_12 : decode cX10_keep 12 = .ok (.iconst 1, 1) := by decide +kernel
theorem dX10_keep_13 : decode cX10_keep 13 = .ok (.putfield 101, 3) := by decide +kernel
theorem dX10_keep_16 : decode cX10_keep 16 = .ok (.iconst 1, 1) := by decide +kernel
theorem dX10_keep_17 : decode cX10_keep 17 = .ok (.ireturn, 1) := by decide +kernel
theorem dX10_back_0 : decode cX10_back 0 = .ok (.aload_n 0, 1) := by decide +kernel
theorem dX10_back_1 : decode cX10_back 1 = .ok (.getfield 101, 3) := by decide +kernel
theorem dX10_back_4 : decode cX10_back 4 = .ok (.ifCond .eq 14, 3) := by decide +kernel
theorem dX10_back_7 : decode cX10_back 7 = .ok (.aload_n 0, 1) := by decide +kernel
theorem dX10_back_8 : decode cX10_back 8 = .ok (.getfield 31, 3) := by decide +kernel
theorem dX10_back_11 : decode cX10_back 11 = .ok (.aload_n 0, 1) := by decide +kernel
theorem dX10_back_12 : decode cX10_back 12 = .ok (.getfield 35, 3) := by decide +kernel
theorem dX10_back_15 : decode cX10_back 15 = .ok (.invokevirtual 248, 3) := by decide +kernel
theorem dX10_back_18 : decode cX10_back 18 = .ok (.aload_n 0, 1) := by decide +kernel
theorem dX10_back_19 : decode cX10_back 19 = .ok (.getfield 101, 3) := by decide +kernel
theorem dX10_back_22 : decode cX10_back 22 = .ok (.ireturn, 1) := by decide +kernel
theorem dX10_isByte_0 : decode cX10_isByte 0 = .ok (.iload_n 0, 1) := by decide +kernel
theorem dX10_isByte_1 : decode cX10_isByte 1 = .ok (.ifCond .lt 14, 3) := by decide +kernel
theorem dX10_isByte_4 : decode cX10_isByte 4 = .ok (.iload_n 0, 1) := by decide +kernel
theorem dX10_isByte_5 : decode cX10_isByte 5 = .ok (.sipush 255, 3) := by decide +kernel
theorem dX10_isByte_8 : decode cX10_isByte 8 = .ok (.if_icmp .gt 7, 3) := by decide +kernel
theorem dX10_isByte_11 : decode cX10_isByte 11 = .ok (.iconst 1, 1) := by decide +kernel
theorem dX10_isByte_12 : decode cX10_isByte 12 = .ok (.goto 4, 3) := by decide +kernel
theorem dX10_isByte_15 : decode cX10_isByte 15 = .ok (.iconst 0, 1) := by decide +kernel
theorem dX10_isByte_16 : decode cX10_isByte 16 = .ok (.ireturn, 1) := by decide +kernel
