/-! what each instruction is, by program -/
theorem dT_init_0 : decode cT_init 0 = .ok (.aload_n 0, 1) := by decide +kernel
theorem dT_init_1 : decode cT_init 1 = .ok (.invokespecial 3, 3) := by decide +kernel
theorem dT_init_4 : decode cT_init 4 = .ok (.aload_n 0, 1) := by decide +kernel
theorem dT_init_5 : decode cT_init 5 = .ok (.sipush 144, 3) := by decide +kernel
theorem dT_init_8 : decode cT_init 8 = .ok (.newarray .int, 2) := by decide +kernel
theorem dT_init_10 : decode cT_init 10 = .ok (.putfield 11, 3) := by decide +kernel
theorem dT_init_13 : decode cT_init 13 = .ok (.aload_n 0, 1) := by decide +kernel
theorem dT_init_14 : decode cT_init 14 = .ok (.bipush 24, 2) := by decide +kernel
theorem dT_init_16 : decode cT_init 16 = .ok (.newarray .boolean, 2) := by decide +kernel
theorem dT_init_18 : decode cT_init 18 = .ok (.putfield 15, 3) := by decide +kernel
theorem dT_init_21 : decode cT_init 21 = .ok (.aload_n 0, 1) := by decide +kernel
theorem dT_init_22 : decode cT_init 22 = .ok (.sipush 144, 3) := by decide +kernel
theorem dT_init_25 : decode cT_init 25 = .ok (.newarray .int, 2) := by decide +kernel
theorem dT_init_27 : decode cT_init 27 = .ok (.putfield 19, 3) := by decide +kernel
theorem dT_init_30 : decode cT_init 30 = .ok (.aload_n 0, 1) := by decide +kernel
theorem dT_init_31 : decode cT_init 31 = .ok (.bipush 24, 2) := by decide +kernel
theorem dT_init_33 : decode cT_init 33 = .ok (.newarray .boolean, 2) := by decide +kernel
theorem dT_init_35 : decode cT_init 35 = .ok (.putfield 22, 3) := by decide +kernel
theorem dT_init_38 : decode cT_init 38 = .ok (.aload_n 0, 1) := by decide +kernel
theorem dT_init_39 : decode cT_init 39 = .ok (.bipush 6, 2) := by decide +kernel
theorem dT_init_41 : decode cT_init 41 = .ok (.newarray .int, 2) := by decide +kernel
theorem dT_init_43 : decode cT_init 43 = .ok (.putfield 25, 3) := by decide +kernel
theorem dT_init_46 : decode cT_init 46 = .ok (.aload_n 0, 1) := by decide +kernel
theorem dT_init_47 : decode cT_init 47 = .ok (.bipush 6, 2) := by decide +kernel
theorem dT_init_49 : decode cT_init 49 = .ok (.newarray .int, 2) := by decide +kernel
theorem dT_init_51 : decode cT_init 51 = .ok (.putfield 28, 3) := by decide +kernel
theorem dT_init_54 : decode cT_init 54 = .ok (.aload_n 0, 1) := by decide +kernel
theorem dT_init_55 : decode cT_init 55 = .ok (.bipush 6, 2) := by decide +kernel
theorem dT_init_57 : decode cT_init 57 = .ok (.newarray .int, 2) := by decide +kernel
theorem dT_init_59 : decode cT_init 59 = .ok (.putfield 31, 3) := by decide +kernel
theorem dT_init_62 : decode cT_init 62 = .ok (.aload_n 0, 1) := by decide +kernel
theorem dT_init_63 : decode cT_init 63 = .ok (.bipush 24, 2) := by decide +kernel
theorem dT_init_65 : decode cT_init 65 = .ok (.newarray .int, 2) := by decide +kernel
theorem dT_init_67 : decode cT_init 67 = .ok (.putfield 34, 3) := by decide +kernel
theorem dT_init_70 : decode cT_init 70 = .ok (.aload_n 0, 1) := by decide +kernel
theorem dT_init_71 : decode cT_init 71 = .ok (.bipush 24, 2) := by decide +kernel
theorem dT_init_73 : decode cT_init 73 = .ok (.newarray .int, 2) := by decide +kernel
theorem dT_init_75 : decode cT_init 75 = .ok (.putfield 37, 3) := by decide +kernel
theorem dT_init_78 : decode cT_init 78 = .ok (.aload_n 0, 1) := by decide +kernel
theorem dT_init_79 : decode cT_init 79 = .ok (.bipush 24, 2) := by decide +kernel
theorem dT_init_81 : decode cT_init 81 = .ok (.newarray .int, 2) := by decide +kernel
theorem dT_init_83 : decode cT_init 83 = .ok (.putfield 40, 3) := by decide +kernel
theorem dT_init_86 : decode cT_init 86 = .ok (.aload_n 0, 1) := by decide +kernel
theorem dT_init_87 : decode cT_init 87 = .ok (.bipush 6, 2) := by decide +kernel
theorem dT_init_89 : decode cT_init 89 = .ok (.newarray .int, 2) := by decide +kernel
theorem dT_init_91 : decode cT_init 91 = .ok (.putfield 43, 3) := by decide +kernel
theorem dT_init_94 : decode cT_init 94 = .ok (.aload_n 0, 1) := by decide +kernel
theorem dT_init_95 : decode cT_init 95 = .ok (.bipush 6, 2) := by decide +kernel
theorem dT_init_97 : decode cT_init 97 = .ok (.newarray .boolean, 2) := by decide +kernel
theorem dT_init_99 : decode cT_init 99 = .ok (.putfield 46, 3) := by decide +kernel
theorem dT_init_102 : decode cT_init 102 = .ok (.aload_n 0, 1) := by decide +kernel
theorem dT_init_103 : decode cT_init 103 = .ok (.bipush 6, 2) := by decide +kernel
theorem dT_init_105 : decode cT_init 105 = .ok (.newarray .boolean, 2) := by decide +kernel
theorem dT_init_107 : decode cT_init 107 = .ok (.putfield 49, 3) := by decide +kernel
theorem dT_init_110 : decode cT_init 110 = .ok (.aload_n 0, 1) := by decide +kernel
theorem dT_init_111 : decode cT_init 111 = .ok (.aload_n 1, 1) := by decide +kernel
theorem dT_init_112 : decode cT_init 112 = .ok (.putfield 52, 3) := by decide +kernel
theorem dT_init_115 : decode cT_init 115 = .ok (.aload_n 0, 1) := by decide +kernel
theorem dT_init_116 : decode cT_init 116 = .ok (.iload_n 2, 1) := by decide +kernel
theorem dT_init_117 : decode cT_init 117 = .ok (.putfield 56, 3) := by decide +kernel
theorem dT_init_120 : decode cT_init 120 = .ok (.aload_n 0, 1) := by decide +kernel
theorem dT_init_121 : decode cT_init 121 = .ok (.iload_n 3, 1) := by decide +kernel
theorem dT_init_122 : decode cT_init 122 = .ok (.putfield 60, 3) := by decide +kernel
theorem dT_init_125 : decode cT_init 125 = .ok (.aload_n 0, 1) := by decide +kernel
theorem dT_init_126 : decode cT_init 126 = .ok (.getfield 31, 3) := by decide +kernel
theorem dT_init_129 : decode cT_init 129 = .ok (.iconst (-1), 1) := by decide +kernel
theorem dT_init_130 : decode cT_init 130 = .ok (.invokestatic 63, 3) := by decide +kernel
theorem dT_init_133 : decode cT_init 133 = .ok (.return_, 1) := by decide +kernel
theorem dT_passTime_0 : decode cT_passTime 0 = .ok (.aload_n 0, 1) := by decide +kernel
theorem dT_passTime_1 : decode cT_passTime 1 = .ok (.dup, 1) := by decide +kernel
theorem dT_passTime_2 : decode cT_passTime 2 = .ok (.getfield 69, 3) := by decide +kernel
theorem dT_passTime_5 : decode cT_passTime 5 = .ok (.iconst 1, 1) := by decide +kernel
theorem dT_passTime_6 : decode cT_passTime 6 = .ok (.iadd, 1) := by decide +kernel
theorem dT_passTime_7 : decode cT_passTime 7 = .ok (.putfield 69, 3) := by decide +kernel
theorem dT_passTime_10 : decode cT_passTime 10 = .ok (.aload_n 0, 1) := by decide +kernel
theorem dT_passTime_11 : decode cT_passTime 11 = .ok (.invokevirtual 72, 3) := by decide +kernel
theorem dT_passTime_14 : decode cT_passTime 14 = .ok (.aload_n 0, 1) := by decide +kernel
theorem dT_passTime_15 : decode cT_passTime 15 = .ok (.invokevirtual 75, 3) := by decide +kernel
theorem dT_passTime_18 : decode cT_passTime 18 = .ok (.aload_n 0, 1) := by decide +kernel
theorem dT_passTime_19 : decode cT_passTime 19 = .ok (.invokevirtual 78, 3) := by decide +kernel
theorem dT_passTime_22 : decode cT_passTime 22 = .ok (.aload_n 0, 1) := by decide +kernel
theorem dT_passTime_23 : decode cT_passTime 23 = .ok (.invokevirtual 81, 3) := by decide +kernel
theorem dT_passTime_26 : decode cT_passTime 26 = .ok (.aload_n 0, 1) := by decide +kernel
theorem dT_passTime_27 : decode cT_passTime 27 = .ok (.invokevirtual 84, 3) := by decide +kernel
theorem dT_passTime_30 : decode cT_passTime 30 = .ok (.aload_n 0, 1) := by decide +kernel
theorem dT_passTime_31 : decode cT_passTime 31 = .ok (.invokevirtual 87, 3) := by decide +kernel
theorem dT_passTime_34 : decode cT_passTime 34 = .ok (.return_, 1) := by decide +kernel
theorem dT_settle_0 : decode cT_settle 0 = .ok (.aload_n 0, 1) := by decide +kernel
theorem dT_settle_1 : decode cT_settle 1 = .ok (.invokevirtual 75, 3) := by decide +kernel
theorem dT_settle_4 : decode cT_settle 4 = .ok (.iconst 4, 1) := by decide +kernel
theorem dT_settle_5 : decode cT_settle 5 = .ok (.aload_n 0, 1) := by decide +kernel
theorem dT_settle_6 : decode cT_settle 6 = .ok (.getfield 52, 3) := by decide +kernel
theorem dT_settle_9 : decode cT_settle 9 = .ok (.getfield 90, 3) := by decide +kernel
theorem dT_settle_12 : decode cT_settle 12 = .ok (.imul, 1) := by decide +kernel
theorem dT_settle_13 : decode cT_settle 13 = .ok (.istore_n 1, 1) := by decide +kernel
theorem dT_settle_14 : decode cT_settle 14 = .ok (.iconst 0, 1) := by decide +kernel
theorem dT_settle_15 : decode cT_settle 15 = .ok (.istore_n 2, 1) := by decide +kernel
theorem dT_settle_16 : decode cT_settle 16 = .ok (.iload_n 2, 1) := by decide +kernel
theorem dT_settle_17 : decode cT_settle 17 = .ok (.iload_n 1, 1) := by decide +kernel
theorem dT_settle_18 : decode cT_settle 18 = .ok (.if_icmp .ge 54, 3) := by decide +kernel
theorem dT_settle_21 : decode cT_settle 21 = .ok (.aload_n 0, 1) := by decide +kernel
theorem dT_settle_22 : decode cT_settle 22 = .ok (.iload_n 2, 1) := by decide +kernel
theorem dT_settle_23 : decode cT_settle 23 = .ok (.invokevirtual 95, 3) := by decide +kernel
theorem dT_settle_26 : decode cT_settle 26 = .ok (.aload_n 0, 1) := by decide +kernel
theorem dT_settle_27 : decode cT_settle 27 = .ok (.getfield 40, 3) := by decide +kernel
theorem dT_settle_30 : decode cT_settle 30 = .ok (.iload_n 2, 1) := by decide +kernel
theorem dT_settle_31 : decode cT_settle 31 = .ok (.iaload, 1) := by decide +kernel
theorem dT_settle_32 : decode cT_settle 32 = .ok (.istore_n 3, 1) := by decide +kernel
theorem dT_settle_33 : decode cT_settle 33 = .ok (.aload_n 0, 1) := by decide +kernel
theorem dT_settle_34 : decode cT_settle 34 = .ok (.getfield 40, 3) := by decide +kernel
theorem dT_settle_37 : decode cT_settle 37 = .ok (.iload_n 2, 1) := by decide +kernel
theorem dT_settle_38 : decode cT_settle 38 = .ok (.aload_n 0, 1) := by decide +kernel
theorem dT_settle_39 : decode cT_settle 39 = .ok (.iload_n 2, 1) := by decide +kernel
theorem dT_settle_40 : decode cT_settle 40 = .ok (.invokevirtual 99, 3) := by decide +kernel
theorem dT_settle_43 : decode cT_settle 43 = .ok (.iastore, 1) := by decide +kernel
theorem dT_settle_44 : decode cT_settle 44 = .ok (.iload_n 3, 1) := by decide +kernel
theorem dT_settle_45 : decode cT_settle 45 = .ok (.aload_n 0, 1) := by decide +kernel
theorem dT_settle_46 : decode cT_settle 46 = .ok (.getfield 40, 3) := by decide +kernel
theorem dT_settle_49 : decode cT_settle 49 = .ok (.iload_n 2, 1) := by decide +kernel
theorem dT_settle_50 : decode cT_settle 50 = .ok (.iaload, 1) := by decide +kernel
theorem dT_settle_51 : decode cT_settle 51 = .ok (.invokestatic 103, 3) := by decide +kernel
theorem dT_settle_54 : decode cT_settle 54 = .ok (.ifCond .eq 12, 3) := by decide +kernel
theorem dT_settle_57 : decode cT_settle 57 = .ok (.aload_n 0, 1) := by decide +kernel
theorem dT_settle_58 : decode cT_settle 58 = .ok (.getfield 46, 3) := by decide +kernel
theorem dT_settle_61 : decode cT_settle 61 = .ok (.iload_n 2, 1) := by decide +kernel
theorem dT_settle_62 : decode cT_settle 62 = .ok (.iconst 4, 1) := by decide +kernel
theorem dT_settle_63 : decode cT_settle 63 = .ok (.idiv, 1) := by decide +kernel
theorem dT_settle_64 : decode cT_settle 64 = .ok (.iconst 1, 1) := by decide +kernel
theorem dT_settle_65 : decode cT_settle 65 = .ok (.bastore, 1) := by decide +kernel
theorem dT_settle_66 : decode cT_settle 66 = .ok (.iinc 2 1, 3) := by decide +kernel
theorem dT_settle_69 : decode cT_settle 69 = .ok (.goto (-53), 3) := by decide +kernel
theorem dT_settle_72 : decode cT_settle 72 = .ok (.return_, 1) := by decide +kernel
theorem dT_dropMessage_0 : decode cT_dropMessage 0 = .ok (.aload_n 0, 1) := by decide +kernel
theorem dT_dropMessage_1 : decode cT_dropMessage 1 = .ok (.getfield 15, 3) := by decide +kernel
theorem dT_dropMessage_4 : decode cT_dropMessage 4 = .ok (.iload_n 1, 1) := by decide +kernel
theorem dT_dropMessage_5 : decode cT_dropMessage 5 = .ok (.iconst 0, 1) := by decide +kernel
theorem dT_dropMessage_6 : decode cT_dropMessage 6 = .ok (.bastore, 1) := by decide +kernel
theorem dT_dropMessage_7 : decode cT_dropMessage 7 = .ok (.return_, 1) := by decide +kernel
theorem dT_isMarked_0 : decode cT_isMarked 0 = .ok (.aload_n 0, 1) := by decide +kernel
theorem dT_isMarked_1 : decode cT_isMarked 1 = .ok (.getfield 31, 3) := by decide +kernel
theorem dT_isMarked_4 : decode cT_isMarked 4 = .ok (.iload_n 1, 1) := by decide +kernel
theorem dT_isMarked_5 : decode cT_isMarked 5 = .ok (.iaload, 1) := by decide +kernel
theorem dT_isMarked_6 : decode cT_isMarked 6 = .ok (.iconst (-1), 1) := by decide +kernel
theorem dT_isMarked_7 : decode cT_isMarked 7 = .ok (.if_icmp .ne 22, 3) := by decide +kernel
theorem dT_isMarked_10 : decode cT_isMarked 10 = .ok (.aload_n 0, 1) := by decide +kernel
theorem dT_isMarked_11 : decode cT_isMarked 11 = .ok (.getfield 69, 3) := by decide +kernel
theorem dT_isMarked_14 : decode cT_isMarked 14 = .ok (.aload_n 0, 1) := by decide +kernel
theorem dT_isMarked_15 : decode cT_isMarked 15 = .ok (.getfield 43, 3) := by decide +kernel
theorem dT_isMarked_18 : decode cT_isMarked 18 = .ok (.iload_n 1, 1) := by decide +kernel
theorem dT_isMarked_19 : decode cT_isMarked 19 = .ok (.iaload, 1) := by decide +kernel
theorem dT_isMarked_20 : decode cT_isMarked 20 = .ok (.if_icmp .ge 7, 3) := by decide +kernel
theorem dT_isMarked_23 : decode cT_isMarked 23 = .ok (.iconst 1, 1) := by decide +kernel
theorem dT_isMarked_24 : decode cT_isMarked 24 = .ok (.goto 4, 3) := by decide +kernel
theorem dT_isMarked_27 : decode cT_isMarked 27 = .ok (.iconst 0, 1) := by decide +kernel
theorem dT_isMarked_28 : decode cT_isMarked 28 = .ok (.ireturn, 1) := by decide +kernel
theorem dT_isMarked_29 : decode cT_isMarked 29 = .ok (.aload_n 0, 1) := by decide +kernel
theorem dT_isMarked_30 : decode cT_isMarked 30 = .ok (.getfield 11, 3) := by decide +kernel
theorem dT_isMarked_33 : decode cT_isMarked 33 = .ok (.bipush 6, 2) := by decide +kernel
theorem dT_isMarked_35 : decode cT_isMarked 35 = .ok (.aload_n 0, 1) := by decide +kernel
theorem dT_isMarked_36 : decode cT_isMarked 36 = .ok (.getfield 31, 3) := by decide +kernel
theorem dT_isMarked_39 : decode cT_isMarked 39 = .ok (.iload_n 1, 1) := by decide +kernel
theorem dT_isMarked_40 : decode cT_isMarked 40 = .ok (.iaload, 1) := by decide +kernel
theorem dT_isMarked_41 : decode cT_isMarked 41 = .ok (.imul, 1) := by decide +kernel
theorem dT_isMarked_42 : decode cT_isMarked 42 = .ok (.iconst 5, 1) := by decide +kernel
theorem dT_isMarked_43 : decode cT_isMarked 43 = .ok (.iadd, 1) := by decide +kernel
theorem dT_isMarked_44 : decode cT_isMarked 44 = .ok (.iaload, 1) := by decide +kernel
theorem dT_isMarked_45 : decode cT_isMarked 45 = .ok (.iconst 1, 1) := by decide +kernel
theorem dT_isMarked_46 : decode cT_isMarked 46 = .ok (.if_icmp .ne 7, 3) := by decide +kernel
theorem dT_isMarked_49 : decode cT_isMarked 49 = .ok (.iconst 1, 1) := by decide +kernel
theorem dT_isMarked_50 : decode cT_isMarked 50 = .ok (.goto 4, 3) := by decide +kernel
theorem dT_isMarked_53 : decode cT_isMarked 53 = .ok (.iconst 0, 1) := by decide +kernel
theorem dT_isMarked_54 : decode cT_isMarked 54 = .ok (.ireturn, 1) := by decide +kernel
theorem dT_ageMessages_0 : decode cT_ageMessages 0 = .ok (.iconst 0, 1) := by decide +kernel
theorem dT_ageMessages_1 : decode cT_ageMessages 1 = .ok (.istore_n 1, 1) := by decide +kernel
theorem dT_ageMessages_2 : decode cT_ageMessages 2 = .ok (.iload_n 1, 1) := by decide +kernel
theorem dT_ageMessages_3 : decode cT_ageMessages 3 = .ok (.bipush 24, 2) := by decide +kernel
theorem dT_ageMessages_5 : decode cT_ageMessages 5 = .ok (.if_icmp .ge 62, 3) := by decide +kernel
theorem dT_ageMessages_8 : decode cT_ageMessages 8 = .ok (.aload_n 0, 1) := by decide +kernel
theorem dT_ageMessages_9 : decode cT_ageMessages 9 = .ok (.getfield 15, 3) := by decide +kernel
theorem dT_ageMessages_12 : decode cT_ageMessages 12 = .ok (.iload_n 1, 1) := by decide +kernel
theorem dT_ageMessages_13 : decode cT_ageMessages 13 = .ok (.baload, 1) := by decide +kernel
theorem dT_ageMessages_14 : decode cT_ageMessages 14 = .ok (.ifCond .eq 47, 3) := by decide +kernel
theorem dT_ageMessages_17 : decode cT_ageMessages 17 = .ok (.aload_n 0, 1) := by decide +kernel
theorem dT_ageMessages_18 : decode cT_ageMessages 18 = .ok (.getfield 11, 3) := by decide +kernel
theorem dT_ageMessages_21 : decode cT_ageMessages 21 = .ok (.bipush 6, 2) := by decide +kernel
theorem dT_ageMessages_23 : decode cT_ageMessages 23 = .ok (.iload_n 1, 1) := by decide +kernel
theorem dT_ageMessages_24 : decode cT_ageMessages 24 = .ok (.imul, 1) := by decide +kernel
theorem dT_ageMessages_25 : decode cT_ageMessages 25 = .ok (.iconst 4, 1) := by decide +kernel
theorem dT_ageMessages_26 : decode cT_ageMessages 26 = .ok (.iadd, 1) := by decide +kernel
theorem dT_ageMessages_27 : decode cT_ageMessages 27 = .ok (.dup2, 1) := by decide +kernel
theorem dT_ageMessages_28 : decode cT_ageMessages 28 = .ok (.iaload, 1) := by decide +kernel
theorem dT_ageMessages_29 : decode cT_ageMessages 29 = .ok (.iconst 1, 1) := by decide +kernel
theorem dT_ageMessages_30 : decode cT_ageMessages 30 = .ok (.iadd, 1) := by decide +kernel
theorem dT_ageMessages_31 : decode cT_ageMessages 31 = .ok (.iastore, 1) := by decide +kernel
theorem dT_ageMessages_32 : decode cT_ageMessages 32 = .ok (.aload_n 0, 1) := by decide +kernel
theorem dT_ageMessages_33 : decode cT_ageMessages 33 = .ok (.getfield 15, 3) := by decide +kernel
theorem dT_ageMessages_36 : decode cT_ageMessages 36 = .ok (.iload_n 1, 1) := by decide +kernel
theorem dT_ageMessages_37 : decode cT_ageMessages 37 = .ok (.aload_n 0, 1) := by decide +kernel
theorem dT_ageMessages_38 : decode cT_ageMessages 38 = .ok (.getfield 11, 3) := by decide +kernel
theorem dT_ageMessages_41 : decode cT_ageMessages 41 = .ok (.bipush 6, 2) := by decide +kernel
theorem dT_ageMessages_43 : decode cT_ageMessages 43 = .ok (.iload_n 1, 1) := by decide +kernel
theorem dT_ageMessages_44 : decode cT_ageMessages 44 = .ok (.imul, 1) := by decide +kernel
theorem dT_ageMessages_45 : decode cT_ageMessages 45 = .ok (.iconst 4, 1) := by decide +kernel
theorem dT_ageMessages_46 : decode cT_ageMessages 46 = .ok (.iadd, 1) := by decide +kernel
theorem dT_ageMessages_47 : decode cT_ageMessages 47 = .ok (.iaload, 1) := by decide +kernel
theorem dT_ageMessages_48 : decode cT_ageMessages 48 = .ok (.aload_n 0, 1) := by decide +kernel
theorem dT_ageMessages_49 : decode cT_ageMessages 49 = .ok (.getfield 56, 3) := by decide +kernel
theorem dT_ageMessages_52 : decode cT_ageMessages 52 = .ok (.if_icmp .ge 7, 3) := by decide +kernel
theorem dT_ageMessages_55 : decode cT_ageMessages 55 = .ok (.iconst 1, 1) := by decide +kernel
theorem dT_ageMessages_56 : decode cT_ageMessages 56 = .ok (.goto 4, 3) := by decide +kernel
theorem dT_ageMessages_59 : decode cT_ageMessages 59 = .ok (.iconst 0, 1) := by decide +kernel
theorem dT_ageMessages_60 : decode cT_ageMessages 60 = .ok (.bastore, 1) := by decide +kernel
theorem dT_ageMessages_61 : decode cT_ageMessages 61 = .ok (.iinc 1 1, 3) := by decide +kernel
theorem dT_ageMessages_64 : decode cT_ageMessages 64 = .ok (.goto (-62), 3) := by decide +kernel
theorem dT_ageMessages_67 : decode cT_ageMessages 67 = .ok (.return_, 1) := by decide +kernel
theorem dT_chooseRoots_0 : decode cT_chooseRoots 0 = .ok (.iconst 0, 1) := by decide +kernel
theorem dT_chooseRoots_1 : decode cT_chooseRoots 1 = .ok (.istore_n 1, 1) := by decide +kernel
theorem dT_chooseRoots_2 : decode cT_chooseRoots 2 = .ok (.iload_n 1, 1) := by decide +kernel
theorem dT_chooseRoots_3 : decode cT_chooseRoots 3 = .ok (.aload_n 0, 1) := by decide +kernel
theorem dT_chooseRoots_4 : decode cT_chooseRoots 4 = .ok (.getfield 52, 3) := by decide +kernel
theorem dT_chooseRoots_7 : decode cT_chooseRoots 7 = .ok (.getfield 90, 3) := by decide +kernel
theorem dT_chooseRoots_10 : decode cT_chooseRoots 10 = .ok (.if_icmp .ge 76, 3) := by decide +kernel
theorem dT_chooseRoots_13 : decode cT_chooseRoots 13 = .ok (.aload_n 0, 1) := by decide +kernel
theorem dT_chooseRoots_14 : decode cT_chooseRoots 14 = .ok (.iload_n 1, 1) := by decide +kernel
theorem dT_chooseRoots_15 : decode cT_chooseRoots 15 = .ok (.invokevirtual 107, 3) := by decide +kernel
theorem dT_chooseRoots_18 : decode cT_chooseRoots 18 = .ok (.istore_n 2, 1) := by decide +kernel
theorem dT_chooseRoots_19 : decode cT_chooseRoots 19 = .ok (.aload_n 0, 1) := by decide +kernel
theorem dT_chooseRoots_20 : decode cT_chooseRoots 20 = .ok (.getfield 31, 3) := by decide +kernel
theorem dT_chooseRoots_23 : decode cT_chooseRoots 23 = .ok (.iload_n 1, 1) := by decide +kernel
theorem dT_chooseRoots_24 : decode cT_chooseRoots 24 = .ok (.iload_n 2, 1) := by decide +kernel
theorem dT_chooseRoots_25 : decode cT_chooseRoots 25 = .ok (.iastore, 1) := by decide +kernel
theorem dT_chooseRoots_26 : decode cT_chooseRoots 26 = .ok (.aload_n 0, 1) := by decide +kernel
theorem dT_chooseRoots_27 : decode cT_chooseRoots 27 = .ok (.getfield 25, 3) := by decide +kernel
theorem dT_chooseRoots_30 : decode cT_chooseRoots 30 = .ok (.iload_n 1, 1) := by decide +kernel
theorem dT_chooseRoots_31 : decode cT_chooseRoots 31 = .ok (.iload_n 2, 1) := by decide +kernel
theorem dT_chooseRoots_32 : decode cT_chooseRoots 32 = .ok (.iconst (-1), 1) := by decide +kernel
theorem dT_chooseRoots_33 : decode cT_chooseRoots 33 = .ok (.if_icmp .ne 15, 3) := by decide +kernel
theorem dT_chooseRoots_36 : decode cT_chooseRoots 36 = .ok (.aload_n 0, 1) := by decide +kernel
theorem dT_chooseRoots_37 : decode cT_chooseRoots 37 = .ok (.getfield 52, 3) := by decide +kernel
theorem dT_chooseRoots_40 : decode cT_chooseRoots 40 = .ok (.getfield 110, 3) := by decide +kernel
theorem dT_chooseRoots_43 : decode cT_chooseRoots 43 = .ok (.iload_n 1, 1) := by decide +kernel
theorem dT_chooseRoots_44 : decode cT_chooseRoots 44 = .ok (.iaload, 1) := by decide +kernel
theorem dT_chooseRoots_45 : decode cT_chooseRoots 45 = .ok (.goto 14, 3) := by decide +kernel
theorem dT_chooseRoots_48 : decode cT_chooseRoots 48 = .ok (.aload_n 0, 1) := by decide +kernel
theorem dT_chooseRoots_49 : decode cT_chooseRoots 49 = .ok (.getfield 11, 3) := by decide +kernel
theorem dT_chooseRoots_52 : decode cT_chooseRoots 52 = .ok (.bipush 6, 2) := by decide +kernel
theorem dT_chooseRoots_54 : decode cT_chooseRoots 54 = .ok (.iload_n 2, 1) := by decide +kernel
theorem dT_chooseRoots_55 : decode cT_chooseRoots 55 = .ok (.imul, 1) := by decide +kernel
theorem dT_chooseRoots_56 : decode cT_chooseRoots 56 = .ok (.iconst 0, 1) := by decide +kernel
theorem dT_chooseRoots_57 : decode cT_chooseRoots 57 = .ok (.iadd, 1) := by decide +kernel
theorem dT_chooseRoots_58 : decode cT_chooseRoots 58 = .ok (.iaload, 1) := by decide +kernel
theorem dT_chooseRoots_59 : decode cT_chooseRoots 59 = .ok (.iastore, 1) := by decide +kernel
theorem dT_chooseRoots_60 : decode cT_chooseRoots 60 = .ok (.aload_n 0, 1) := by decide +kernel
theorem dT_chooseRoots_61 : decode cT_chooseRoots 61 = .ok (.getfield 28, 3) := by decide +kernel
theorem dT_chooseRoots_64 : decode cT_chooseRoots 64 = .ok (.iload_n 1, 1) := by decide +kernel
theorem dT_chooseRoots_65 : decode cT_chooseRoots 65 = .ok (.iload_n 2, 1) := by decide +kernel
theorem dT_chooseRoots_66 : decode cT_chooseRoots 66 = .ok (.iconst (-1), 1) := by decide +kernel
theorem dT_chooseRoots_67 : decode cT_chooseRoots 67 = .ok (.if_icmp .ne 7, 3) := by decide +kernel
theorem dT_chooseRoots_70 : decode cT_chooseRoots 70 = .ok (.iconst 0, 1) := by decide +kernel
theorem dT_chooseRoots_71 : decode cT_chooseRoots 71 = .ok (.goto 8, 3) := by decide +kernel
theorem dT_chooseRoots_74 : decode cT_chooseRoots 74 = .ok (.aload_n 0, 1) := by decide +kernel
theorem dT_chooseRoots_75 : decode cT_chooseRoots 75 = .ok (.iload_n 2, 1) := by decide +kernel
theorem dT_chooseRoots_76 : decode cT_chooseRoots 76 = .ok (.invokevirtual 113, 3) := by decide +kernel
theorem dT_chooseRoots_79 : decode cT_chooseRoots 79 = .ok (.iastore, 1) := by decide +kernel
theorem dT_chooseRoots_80 : decode cT_chooseRoots 80 = .ok (.iinc 1 1, 3) := by decide +kernel
theorem dT_chooseRoots_83 : decode cT_chooseRoots 83 = .ok (.goto (-81), 3) := by decide +kernel
theorem dT_chooseRoots_86 : decode cT_chooseRoots 86 = .ok (.return_, 1) := by decide +kernel
theorem dT_bestOffer_0 : decode cT_bestOffer 0 = .ok (.iconst (-1), 1) := by decide +kernel
theorem dT_bestOffer_1 : decode cT_bestOffer 1 = .ok (.istore_n 2, 1) := by decide +kernel
theorem dT_bestOffer_2 : decode cT_bestOffer 2 = .ok (.iconst 4, 1) := by decide +kernel
theorem dT_bestOffer_3 : decode cT_bestOffer 3 = .ok (.iload_n 1, 1) := by decide +kernel
theorem dT_bestOffer_4 : decode cT_bestOffer 4 = .ok (.imul, 1) := by decide +kernel
theorem dT_bestOffer_5 : decode cT_bestOffer 5 = .ok (.istore_n 3, 1) := by decide +kernel
theorem dT_bestOffer_6 : decode cT_bestOffer 6 = .ok (.iload_n 3, 1) := by decide +kernel
theorem dT_bestOffer_7 : decode cT_bestOffer 7 = .ok (.iconst 4, 1) := by decide +kernel
theorem dT_bestOffer_8 : decode cT_bestOffer 8 = .ok (.iload_n 1, 1) := by decide +kernel
theorem dT_bestOffer_9 : decode cT_bestOffer 9 = .ok (.imul, 1) := by decide +kernel
theorem dT_bestOffer_10 : decode cT_bestOffer 10 = .ok (.iconst 4, 1) := by decide +kernel
theorem dT_bestOffer_11 : decode cT_bestOffer 11 = .ok (.iadd, 1) := by decide +kernel
theorem dT_bestOffer_12 : decode cT_bestOffer 12 = .ok (.if_icmp .ge 38, 3) := by decide +kernel
theorem dT_bestOffer_15 : decode cT_bestOffer 15 = .ok (.aload_n 0, 1) := by decide +kernel
theorem dT_bestOffer_16 : decode cT_bestOffer 16 = .ok (.iload_n 3, 1) := by decide +kernel
theorem dT_bestOffer_17 : decode cT_bestOffer 17 = .ok (.invokevirtual 116, 3) := by decide +kernel
theorem dT_bestOffer_20 : decode cT_bestOffer 20 = .ok (.ifCond .eq 24, 3) := by decide +kernel
theorem dT_bestOffer_23 : decode cT_bestOffer 23 = .ok (.iload_n 2, 1) := by decide +kernel
theorem dT_bestOffer_24 : decode cT_bestOffer 24 = .ok (.iconst (-1), 1) := by decide +kernel
theorem dT_bestOffer_25 : decode cT_bestOffer 25 = .ok (.if_icmp .eq 17, 3) := by decide +kernel
theorem dT_bestOffer_28 : decode cT_bestOffer 28 = .ok (.aload_n 0, 1) := by decide +kernel
theorem dT_bestOffer_29 : decode cT_bestOffer 29 = .ok (.iload_n 3, 1) := by decide +kernel
theorem dT_bestOffer_30 : decode cT_bestOffer 30 = .ok (.invokevirtual 120, 3) := by decide +kernel
theorem dT_bestOffer_33 : decode cT_bestOffer 33 = .ok (.aload_n 0, 1) := by decide +kernel
theorem dT_bestOffer_34 : decode cT_bestOffer 34 = .ok (.iload_n 2, 1) := by decide +kernel
theorem dT_bestOffer_35 : decode cT_bestOffer 35 = .ok (.invokevirtual 120, 3) := by decide +kernel
theorem dT_bestOffer_38 : decode cT_bestOffer 38 = .ok (.lcmp, 1) := by decide +kernel
theorem dT_bestOffer_39 : decode cT_bestOffer 39 = .ok (.ifCond .ge 5, 3) := by decide +kernel
theorem dT_bestOffer_42 : decode cT_bestOffer 42 = .ok (.iload_n 3, 1) := by decide +kernel
theorem dT_bestOffer_43 : decode cT_bestOffer 43 = .ok (.istore_n 2, 1) := by decide +kernel
theorem dT_bestOffer_44 : decode cT_bestOffer 44 = .ok (.iinc 3 1, 3) := by decide +kernel
theorem dT_bestOffer_47 : decode cT_bestOffer 47 = .ok (.goto (-41), 3) := by decide +kernel
theorem dT_bestOffer_50 : decode cT_bestOffer 50 = .ok (.iload_n 2, 1) := by decide +kernel
theorem dT_bestOffer_51 : decode cT_bestOffer 51 = .ok (.ireturn, 1) := by decide +kernel
theorem dT_isOffering_0 : decode cT_isOffering 0 = .ok (.aload_n 0, 1) := by decide +kernel
theorem dT_isOffering_1 : decode cT_isOffering 1 = .ok (.getfield 15, 3) := by decide +kernel
theorem dT_isOffering_4 : decode cT_isOffering 4 = .ok (.iload_n 1, 1) := by decide +kernel
theorem dT_isOffering_5 : decode cT_isOffering 5 = .ok (.baload, 1) := by decide +kernel
theorem dT_isOffering_6 : decode cT_isOffering 6 = .ok (.ifCond .eq 43, 3) := by decide +kernel
theorem dT_isOffering_9 : decode cT_isOffering 9 = .ok (.aload_n 0, 1) := by decide +kernel
theorem dT_isOffering_10 : decode cT_isOffering 10 = .ok (.getfield 52, 3) := by decide +kernel
theorem dT_isOffering_13 : decode cT_isOffering 13 = .ok (.iload_n 1, 1) := by decide +kernel
theorem dT_isOffering_14 : decode cT_isOffering 14 = .ok (.invokevirtual 124, 3) := by decide +kernel
theorem dT_isOffering_17 : decode cT_isOffering 17 = .ok (.ifCond .eq 32, 3) := by decide +kernel
theorem dT_isOffering_20 : decode cT_isOffering 20 = .ok (.aload_n 0, 1) := by decide +kernel
theorem dT_isOffering_21 : decode cT_isOffering 21 = .ok (.getfield 11, 3) := by decide +kernel
theorem dT_isOffering_24 : decode cT_isOffering 24 = .ok (.bipush 6, 2) := by decide +kernel
theorem dT_isOffering_26 : decode cT_isOffering 26 = .ok (.iload_n 1, 1) := by decide +kernel
theorem dT_isOffering_27 : decode cT_isOffering 27 = .ok (.imul, 1) := by decide +kernel
theorem dT_isOffering_28 : decode cT_isOffering 28 = .ok (.iconst 0, 1) := by decide +kernel
theorem dT_isOffering_29 : decode cT_isOffering 29 = .ok (.iadd, 1) := by decide +kernel
theorem dT_isOffering_30 : decode cT_isOffering 30 = .ok (.iaload, 1) := by decide +kernel
theorem dT_isOffering_31 : decode cT_isOffering 31 = .ok (.aload_n 0, 1) := by decide +kernel
theorem dT_isOffering_32 : decode cT_isOffering 32 = .ok (.getfield 52, 3) := by decide +kernel
theorem dT_isOffering_35 : decode cT_isOffering 35 = .ok (.getfield 110, 3) := by decide +kernel
theorem dT_isOffering_38 : decode cT_isOffering 38 = .ok (.iload_n 1, 1) := by decide +kernel
theorem dT_isOffering_39 : decode cT_isOffering 39 = .ok (.iconst 4, 1) := by decide +kernel
theorem dT_isOffering_40 : decode cT_isOffering 40 = .ok (.idiv, 1) := by decide +kernel
theorem dT_isOffering_41 : decode cT_isOffering 41 = .ok (.iaload, 1) := by decide +kernel
theorem dT_isOffering_42 : decode cT_isOffering 42 = .ok (.if_icmp .ge 7, 3) := by decide +kernel
theorem dT_isOffering_45 : decode cT_isOffering 45 = .ok (.iconst 1, 1) := by decide +kernel
theorem dT_isOffering_46 : decode cT_isOffering 46 = .ok (.goto 4, 3) := by decide +kernel
theorem dT_isOffering_49 : decode cT_isOffering 49 = .ok (.iconst 0, 1) := by decide +kernel
theorem dT_isOffering_50 : decode cT_isOffering 50 = .ok (.ireturn, 1) := by decide +kernel
theorem dT_offeredCost_0 : decode cT_offeredCost 0 = .ok (.aload_n 0, 1) := by decide +kernel
theorem dT_offeredCost_1 : decode cT_offeredCost 1 = .ok (.getfield 52, 3) := by decide +kernel
theorem dT_offeredCost_4 : decode cT_offeredCost 4 = .ok (.getfield 127, 3) := by decide +kernel
theorem dT_offeredCost_7 : decode cT_offeredCost 7 = .ok (.iload_n 1, 1) := by decide +kernel
theorem dT_offeredCost_8 : decode cT_offeredCost 8 = .ok (.iaload, 1) := by decide +kernel
theorem dT_offeredCost_9 : decode cT_offeredCost 9 = .ok (.istore_n 2, 1) := by decide +kernel
theorem dT_offeredCost_10 : decode cT_offeredCost 10 = .ok (.aload_n 0, 1) := by decide +kernel
theorem dT_offeredCost_11 : decode cT_offeredCost 11 = .ok (.getfield 11, 3) := by decide +kernel
theorem dT_offeredCost_14 : decode cT_offeredCost 14 = .ok (.bipush 6, 2) := by decide +kernel
theorem dT_offeredCost_16 : decode cT_offeredCost 16 = .ok (.iload_n 1, 1) := by decide +kernel
theorem dT_offeredCost_17 : decode cT_offeredCost 17 = .ok (.imul, 1) := by decide +kernel
theorem dT_offeredCost_18 : decode cT_offeredCost 18 = .ok (.iconst 1, 1) := by decide +kernel
theorem dT_offeredCost_19 : decode cT_offeredCost 19 = .ok (.iadd, 1) := by decide +kernel
theorem dT_offeredCost_20 : decode cT_offeredCost 20 = .ok (.iaload, 1) := by decide +kernel
theorem dT_offeredCost_21 : decode cT_offeredCost 21 = .ok (.iload_n 2, 1) := by decide +kernel
theorem dT_offeredCost_22 : decode cT_offeredCost 22 = .ok (.iconst (-1), 1) := by decide +kernel
theorem dT_offeredCost_23 : decode cT_offeredCost 23 = .ok (.if_icmp .ne 7, 3) := by decide +kernel
theorem dT_offeredCost_26 : decode cT_offeredCost 26 = .ok (.iconst 0, 1) := by decide +kernel
theorem dT_offeredCost_27 : decode cT_offeredCost 27 = .ok (.goto 12, 3) := by decide +kernel
theorem dT_offeredCost_30 : decode cT_offeredCost 30 = .ok (.aload_n 0, 1) := by decide +kernel
theorem dT_offeredCost_31 : decode cT_offeredCost 31 = .ok (.getfield 52, 3) := by decide +kernel
theorem dT_offeredCost_34 : decode cT_offeredCost 34 = .ok (.getfield 130, 3) := by decide +kernel
theorem dT_offeredCost_37 : decode cT_offeredCost 37 = .ok (.iload_n 2, 1) := by decide +kernel
theorem dT_offeredCost_38 : decode cT_offeredCost 38 = .ok (.iaload, 1) := by decide +kernel
theorem dT_offeredCost_39 : decode cT_offeredCost 39 = .ok (.iadd, 1) := by decide +kernel
theorem dT_offeredCost_40 : decode cT_offeredCost 40 = .ok (.ireturn, 1) := by decide +kernel
theorem dT_offerRank_0 : decode cT_offerRank 0 = .ok (.bipush 6, 2) := by decide +kernel
theorem dT_offerRank_2 : decode cT_offerRank 2 = .ok (.iload_n 1, 1) := by decide +kernel
theorem dT_offerRank_3 : decode cT_offerRank 3 = .ok (.imul, 1) := by decide +kernel
theorem dT_offerRank_4 : decode cT_offerRank 4 = .ok (.istore_n 2, 1) := by decide +kernel
theorem dT_offerRank_5 : decode cT_offerRank 5 = .ok (.aload_n 0, 1) := by decide +kernel
theorem dT_offerRank_6 : decode cT_offerRank 6 = .ok (.getfield 11, 3) := by decide +kernel
theorem dT_offerRank_9 : decode cT_offerRank 9 = .ok (.iload_n 2, 1) := by decide +kernel
theorem dT_offerRank_10 : decode cT_offerRank 10 = .ok (.iconst 0, 1) := by decide +kernel
theorem dT_offerRank_11 : decode cT_offerRank 11 = .ok (.iadd, 1) := by decide +kernel
theorem dT_offerRank_12 : decode cT_offerRank 12 = .ok (.iaload, 1) := by decide +kernel
theorem dT_offerRank_13 : decode cT_offerRank 13 = .ok (.i2l, 1) := by decide +kernel
theorem dT_offerRank_14 : decode cT_offerRank 14 = .ok (.aload_n 0, 1) := by decide +kernel
theorem dT_offerRank_15 : decode cT_offerRank 15 = .ok (.iload_n 1, 1) := by decide +kernel
theorem dT_offerRank_16 : decode cT_offerRank 16 = .ok (.invokevirtual 113, 3) := by decide +kernel
theorem dT_offerRank_19 : decode cT_offerRank 19 = .ok (.i2l, 1) := by decide +kernel
theorem dT_offerRank_20 : decode cT_offerRank 20 = .ok (.aload_n 0, 1) := by decide +kernel
theorem dT_offerRank_21 : decode cT_offerRank 21 = .ok (.getfield 11, 3) := by decide +kernel
theorem dT_offerRank_24 : decode cT_offerRank 24 = .ok (.iload_n 2, 1) := by decide +kernel
theorem dT_offerRank_25 : decode cT_offerRank 25 = .ok (.iconst 2, 1) := by decide +kernel
theorem dT_offerRank_26 : decode cT_offerRank 26 = .ok (.iadd, 1) := by decide +kernel
theorem dT_offerRank_27 : decode cT_offerRank 27 = .ok (.iaload, 1) := by decide +kernel
theorem dT_offerRank_28 : decode cT_offerRank 28 = .ok (.i2l, 1) := by decide +kernel
theorem dT_offerRank_29 : decode cT_offerRank 29 = .ok (.aload_n 0, 1) := by decide +kernel
theorem dT_offerRank_30 : decode cT_offerRank 30 = .ok (.getfield 11, 3) := by decide +kernel
theorem dT_offerRank_33 : decode cT_offerRank 33 = .ok (.iload_n 2, 1) := by decide +kernel
theorem dT_offerRank_34 : decode cT_offerRank 34 = .ok (.iconst 3, 1) := by decide +kernel
theorem dT_offerRank_35 : decode cT_offerRank 35 = .ok (.iadd, 1) := by decide +kernel
theorem dT_offerRank_36 : decode cT_offerRank 36 = .ok (.iaload, 1) := by decide +kernel
theorem dT_offerRank_37 : decode cT_offerRank 37 = .ok (.i2l, 1) := by decide +kernel
theorem dT_offerRank_38 : decode cT_offerRank 38 = .ok (.invokestatic 133, 3) := by decide +kernel
theorem dT_offerRank_41 : decode cT_offerRank 41 = .ok (.lreturn, 1) := by decide +kernel
theorem dT_messageRank_0 : decode cT_messageRank 0 = .ok (.bipush 6, 2) := by decide +kernel
theorem dT_messageRank_2 : decode cT_messageRank 2 = .ok (.iload_n 1, 1) := by decide +kernel
theorem dT_messageRank_3 : decode cT_messageRank 3 = .ok (.imul, 1) := by decide +kernel
theorem dT_messageRank_4 : decode cT_messageRank 4 = .ok (.istore_n 2, 1) := by decide +kernel
theorem dT_messageRank_5 : decode cT_messageRank 5 = .ok (.aload_n 0, 1) := by decide +kernel
theorem dT_messageRank_6 : decode cT_messageRank 6 = .ok (.getfield 11, 3) := by decide +kernel
theorem dT_messageRank_9 : decode cT_messageRank 9 = .ok (.iload_n 2, 1) := by decide +kernel
theorem dT_messageRank_10 : decode cT_messageRank 10 = .ok (.iconst 0, 1) := by decide +kernel
theorem dT_messageRank_11 : decode cT_messageRank 11 = .ok (.iadd, 1) := by decide +kernel
theorem dT_messageRank_12 : decode cT_messageRank 12 = .ok (.iaload, 1) := by decide +kernel
theorem dT_messageRank_13 : decode cT_messageRank 13 = .ok (.i2l, 1) := by decide +kernel
theorem dT_messageRank_14 : decode cT_messageRank 14 = .ok (.aload_n 0, 1) := by decide +kernel
theorem dT_messageRank_15 : decode cT_messageRank 15 = .ok (.getfield 11, 3) := by decide +kernel
theorem dT_messageRank_18 : decode cT_messageRank 18 = .ok (.iload_n 2, 1) := by decide +kernel
theorem dT_messageRank_19 : decode cT_messageRank 19 = .ok (.iconst 1, 1) := by decide +kernel
theorem dT_messageRank_20 : decode cT_messageRank 20 = .ok (.iadd, 1) := by decide +kernel
theorem dT_messageRank_21 : decode cT_messageRank 21 = .ok (.iaload, 1) := by decide +kernel
theorem dT_messageRank_22 : decode cT_messageRank 22 = .ok (.i2l, 1) := by decide +kernel
theorem dT_messageRank_23 : decode cT_messageRank 23 = .ok (.aload_n 0, 1) := by decide +kernel
theorem dT_messageRank_24 : decode cT_messageRank 24 = .ok (.getfield 11, 3) := by decide +kernel
theorem dT_messageRank_27 : decode cT_messageRank 27 = .ok (.iload_n 2, 1) := by decide +kernel
theorem dT_messageRank_28 : decode cT_messageRank 28 = .ok (.iconst 2, 1) := by decide +kernel
theorem dT_messageRank_29 : decode cT_messageRank 29 = .ok (.iadd, 1) := by decide +kernel
theorem dT_messageRank_30 : decode cT_messageRank 30 = .ok (.iaload, 1) := by decide +kernel
theorem dT_messageRank_31 : decode cT_messageRank 31 = .ok (.i2l, 1) := by decide +kernel
theorem dT_messageRank_32 : decode cT_messageRank 32 = .ok (.aload_n 0, 1) := by decide +kernel
theorem dT_messageRank_33 : decode cT_messageRank 33 = .ok (.getfield 11, 3) := by decide +kernel
theorem dT_messageRank_36 : decode cT_messageRank 36 = .ok (.iload_n 2, 1) := by decide +kernel
theorem dT_messageRank_37 : decode cT_messageRank 37 = .ok (.iconst 3, 1) := by decide +kernel
theorem dT_messageRank_38 : decode cT_messageRank 38 = .ok (.iadd, 1) := by decide +kernel
theorem dT_messageRank_39 : decode cT_messageRank 39 = .ok (.iaload, 1) := by decide +kernel
theorem dT_messageRank_40 : decode cT_messageRank 40 = .ok (.i2l, 1) := by decide +kernel
theorem dT_messageRank_41 : decode cT_messageRank 41 = .ok (.invokestatic 133, 3) := by decide +kernel
theorem dT_messageRank_44 : decode cT_messageRank 44 = .ok (.lreturn, 1) := by decide +kernel
theorem dT_rank_0 : decode cT_rank 0 = .ok (.lload_n 0, 1) := by decide +kernel
theorem dT_rank_1 : decode cT_rank 1 = .ok (.bipush 20, 2) := by decide +kernel
theorem dT_rank_3 : decode cT_rank 3 = .ok (.lshl, 1) := by decide +kernel
theorem dT_rank_4 : decode cT_rank 4 = .ok (.lload_n 2, 1) := by decide +kernel
theorem dT_rank_5 : decode cT_rank 5 = .ok (.lor, 1) := by decide +kernel
theorem dT_rank_6 : decode cT_rank 6 = .ok (.bipush 6, 2) := by decide +kernel
theorem dT_rank_8 : decode cT_rank 8 = .ok (.lshl, 1) := by decide +kernel
theorem dT_rank_9 : decode cT_rank 9 = .ok (.lload 4, 2) := by decide +kernel
theorem dT_rank_11 : decode cT_rank 11 = .ok (.lor, 1) := by decide +kernel
theorem dT_rank_12 : decode cT_rank 12 = .ok (.iconst 2, 1) := by decide +kernel
theorem dT_rank_13 : decode cT_rank 13 = .ok (.lshl, 1) := by decide +kernel
theorem dT_rank_14 : decode cT_rank 14 = .ok (.lload 6, 2) := by decide +kernel
theorem dT_rank_16 : decode cT_rank 16 = .ok (.lor, 1) := by decide +kernel
theorem dT_rank_17 : decode cT_rank 17 = .ok (.lreturn, 1) := by decide +kernel
theorem dT_roleNow_0 : decode cT_roleNow 0 = .ok (.iload_n 1, 1) := by decide +kernel
theorem dT_roleNow_1 : decode cT_roleNow 1 = .ok (.iconst 4, 1) := by decide +kernel
theorem dT_roleNow_2 : decode cT_roleNow 2 = .ok (.idiv, 1) := by decide +kernel
theorem dT_roleNow_3 : decode cT_roleNow 3 = .ok (.istore_n 2, 1) := by decide +kernel
theorem dT_roleNow_4 : decode cT_roleNow 4 = .ok (.aload_n 0, 1) := by decide +kernel
theorem dT_roleNow_5 : decode cT_roleNow 5 = .ok (.getfield 52, 3) := by decide +kernel
theorem dT_roleNow_8 : decode cT_roleNow 8 = .ok (.iload_n 1, 1) := by decide +kernel
theorem dT_roleNow_9 : decode cT_roleNow 9 = .ok (.invokevirtual 137, 3) := by decide +kernel
theorem dT_roleNow_12 : decode cT_roleNow 12 = .ok (.ifCond .ne 5, 3) := by decide +kernel
theorem dT_roleNow_15 : decode cT_roleNow 15 = .ok (.iconst 0, 1) := by decide +kernel
theorem dT_roleNow_16 : decode cT_roleNow 16 = .ok (.ireturn, 1) := by decide +kernel
theorem dT_roleNow_17 : decode cT_roleNow 17 = .ok (.aload_n 0, 1) := by decide +kernel
theorem dT_roleNow_18 : decode cT_roleNow 18 = .ok (.getfield 31, 3) := by decide +kernel
theorem dT_roleNow_21 : decode cT_roleNow 21 = .ok (.iload_n 2, 1) := by decide +kernel
theorem dT_roleNow_22 : decode cT_roleNow 22 = .ok (.iaload, 1) := by decide +kernel
theorem dT_roleNow_23 : decode cT_roleNow 23 = .ok (.iload_n 1, 1) := by decide +kernel
theorem dT_roleNow_24 : decode cT_roleNow 24 = .ok (.if_icmp .ne 5, 3) := by decide +kernel
theorem dT_roleNow_27 : decode cT_roleNow 27 = .ok (.iconst 1, 1) := by decide +kernel
theorem dT_roleNow_28 : decode cT_roleNow 28 = .ok (.ireturn, 1) := by decide +kernel
theorem dT_roleNow_29 : decode cT_roleNow 29 = .ok (.aload_n 0, 1) := by decide +kernel
theorem dT_roleNow_30 : decode cT_roleNow 30 = .ok (.getfield 25, 3) := by decide +kernel
theorem dT_roleNow_33 : decode cT_roleNow 33 = .ok (.iload_n 2, 1) := by decide +kernel
theorem dT_roleNow_34 : decode cT_roleNow 34 = .ok (.iaload, 1) := by decide +kernel
theorem dT_roleNow_35 : decode cT_roleNow 35 = .ok (.i2l, 1) := by decide +kernel
theorem dT_roleNow_36 : decode cT_roleNow 36 = .ok (.aload_n 0, 1) := by decide +kernel
theorem dT_roleNow_37 : decode cT_roleNow 37 = .ok (.getfield 28, 3) := by decide +kernel
theorem dT_roleNow_40 : decode cT_roleNow 40 = .ok (.iload_n 2, 1) := by decide +kernel
theorem dT_roleNow_41 : decode cT_roleNow 41 = .ok (.iaload, 1) := by decide +kernel
theorem dT_roleNow_42 : decode cT_roleNow 42 = .ok (.i2l, 1) := by decide +kernel
theorem dT_roleNow_43 : decode cT_roleNow 43 = .ok (.aload_n 0, 1) := by decide +kernel
theorem dT_roleNow_44 : decode cT_roleNow 44 = .ok (.getfield 52, 3) := by decide +kernel
theorem dT_roleNow_47 : decode cT_roleNow 47 = .ok (.getfield 110, 3) := by decide +kernel
theorem dT_roleNow_50 : decode cT_roleNow 50 = .ok (.iload_n 2, 1) := by decide +kernel
theorem dT_roleNow_51 : decode cT_roleNow 51 = .ok (.iaload, 1) := by decide +kernel
theorem dT_roleNow_52 : decode cT_roleNow 52 = .ok (.i2l, 1) := by decide +kernel
theorem dT_roleNow_53 : decode cT_roleNow 53 = .ok (.iload_n 1, 1) := by decide +kernel
theorem dT_roleNow_54 : decode cT_roleNow 54 = .ok (.iconst 4, 1) := by decide +kernel
theorem dT_roleNow_55 : decode cT_roleNow 55 = .ok (.irem, 1) := by decide +kernel
theorem dT_roleNow_56 : decode cT_roleNow 56 = .ok (.i2l, 1) := by decide +kernel
theorem dT_roleNow_57 : decode cT_roleNow 57 = .ok (.invokestatic 133, 3) := by decide +kernel
theorem dT_roleNow_60 : decode cT_roleNow 60 = .ok (.lstore_n 3, 1) := by decide +kernel
theorem dT_roleNow_61 : decode cT_roleNow 61 = .ok (.aload_n 0, 1) := by decide +kernel
theorem dT_roleNow_62 : decode cT_roleNow 62 = .ok (.getfield 15, 3) := by decide +kernel
theorem dT_roleNow_65 : decode cT_roleNow 65 = .ok (.iload_n 1, 1) := by decide +kernel
theorem dT_roleNow_66 : decode cT_roleNow 66 = .ok (.baload, 1) := by decide +kernel
theorem dT_roleNow_67 : decode cT_roleNow 67 = .ok (.ifCond .eq 13, 3) := by decide +kernel
theorem dT_roleNow_70 : decode cT_roleNow 70 = .ok (.lload_n 3, 1) := by decide +kernel
theorem dT_roleNow_71 : decode cT_roleNow 71 = .ok (.aload_n 0, 1) := by decide +kernel
theorem dT_roleNow_72 : decode cT_roleNow 72 = .ok (.iload_n 1, 1) := by decide +kernel
theorem dT_roleNow_73 : decode cT_roleNow 73 = .ok (.invokevirtual 140, 3) := by decide +kernel
theorem dT_roleNow_76 : decode cT_roleNow 76 = .ok (.lcmp, 1) := by decide +kernel
theorem dT_roleNow_77 : decode cT_roleNow 77 = .ok (.ifCond .ge 7, 3) := by decide +kernel
theorem dT_roleNow_80 : decode cT_roleNow 80 = .ok (.iconst 2, 1) := by decide +kernel
theorem dT_roleNow_81 : decode cT_roleNow 81 = .ok (.goto 4, 3) := by decide +kernel
theorem dT_roleNow_84 : decode cT_roleNow 84 = .ok (.iconst 3, 1) := by decide +kernel
theorem dT_roleNow_85 : decode cT_roleNow 85 = .ok (.ireturn, 1) := by decide +kernel
theorem dT_lookAtRole_0 : decode cT_lookAtRole 0 = .ok (.aload_n 0, 1) := by decide +kernel
theorem dT_lookAtRole_1 : decode cT_lookAtRole 1 = .ok (.iload_n 1, 1) := by decide +kernel
theorem dT_lookAtRole_2 : decode cT_lookAtRole 2 = .ok (.invokevirtual 143, 3) := by decide +kernel
theorem dT_lookAtRole_5 : decode cT_lookAtRole 5 = .ok (.istore_n 2, 1) := by decide +kernel
theorem dT_lookAtRole_6 : decode cT_lookAtRole 6 = .ok (.iload_n 2, 1) := by decide +kernel
theorem dT_lookAtRole_7 : decode cT_lookAtRole 7 = .ok (.invokestatic 146, 3) := by decide +kernel
theorem dT_lookAtRole_10 : decode cT_lookAtRole 10 = .ok (.ifCond .eq 25, 3) := by decide +kernel
theorem dT_lookAtRole_13 : decode cT_lookAtRole 13 = .ok (.aload_n 0, 1) := by decide +kernel
theorem dT_lookAtRole_14 : decode cT_lookAtRole 14 = .ok (.getfield 34, 3) := by decide +kernel
theorem dT_lookAtRole_17 : decode cT_lookAtRole 17 = .ok (.iload_n 1, 1) := by decide +kernel
theorem dT_lookAtRole_18 : decode cT_lookAtRole 18 = .ok (.iaload, 1) := by decide +kernel
theorem dT_lookAtRole_19 : decode cT_lookAtRole 19 = .ok (.invokestatic 146, 3) := by decide +kernel
theorem dT_lookAtRole_22 : decode cT_lookAtRole 22 = .ok (.ifCond .ne 13, 3) := by decide +kernel
theorem dT_lookAtRole_25 : decode cT_lookAtRole 25 = .ok (.aload_n 0, 1) := by decide +kernel
theorem dT_lookAtRole_26 : decode cT_lookAtRole 26 = .ok (.getfield 37, 3) := by decide +kernel
theorem dT_lookAtRole_29 : decode cT_lookAtRole 29 = .ok (.iload_n 1, 1) := by decide +kernel
theorem dT_lookAtRole_30 : decode cT_lookAtRole 30 = .ok (.aload_n 0, 1) := by decide +kernel
theorem dT_lookAtRole_31 : decode cT_lookAtRole 31 = .ok (.getfield 69, 3) := by decide +kernel
theorem dT_lookAtRole_34 : decode cT_lookAtRole 34 = .ok (.iastore, 1) := by decide +kernel
theorem dT_lookAtRole_35 : decode cT_lookAtRole 35 = .ok (.aload_n 0, 1) := by decide +kernel
theorem dT_lookAtRole_36 : decode cT_lookAtRole 36 = .ok (.getfield 34, 3) := by decide +kernel
theorem dT_lookAtRole_39 : decode cT_lookAtRole 39 = .ok (.iload_n 1, 1) := by decide +kernel
theorem dT_lookAtRole_40 : decode cT_lookAtRole 40 = .ok (.iload_n 2, 1) := by decide +kernel
theorem dT_lookAtRole_41 : decode cT_lookAtRole 41 = .ok (.iastore, 1) := by decide +kernel
theorem dT_lookAtRole_42 : decode cT_lookAtRole 42 = .ok (.return_, 1) := by decide +kernel
theorem dT_isActive_0 : decode cT_isActive 0 = .ok (.iload_n 0, 1) := by decide +kernel
theorem dT_isActive_1 : decode cT_isActive 1 = .ok (.iconst 1, 1) := by decide +kernel
theorem dT_isActive_2 : decode cT_isActive 2 = .ok (.if_icmp .eq 8, 3) := by decide +kernel
theorem dT_isActive_5 : decode cT_isActive 5 = .ok (.iload_n 0, 1) := by decide +kernel
theorem dT_isActive_6 : decode cT_isActive 6 = .ok (.iconst 2, 1) := by decide +kernel
theorem dT_isActive_7 : decode cT_isActive 7 = .ok (.if_icmp .ne 7, 3) := by decide +kernel
theorem dT_isActive_10 : decode cT_isActive 10 = .ok (.iconst 1, 1) := by decide +kernel
theorem dT_isActive_11 : decode cT_isActive 11 = .ok (.goto 4, 3) := by decide +kernel
theorem dT_isActive_14 : decode cT_isActive 14 = .ok (.iconst 0, 1) := by decide +kernel
theorem dT_isActive_15 : decode cT_isActive 15 = .ok (.ireturn, 1) := by decide +kernel
theorem dT_stateNow_0 : decode cT_stateNow 0 = .ok (.aload_n 0, 1) := by decide +kernel
theorem dT_stateNow_1 : decode cT_stateNow 1 = .ok (.getfield 34, 3) := by decide +kernel
theorem dT_stateNow_4 : decode cT_stateNow 4 = .ok (.iload_n 1, 1) := by decide +kernel
theorem dT_stateNow_5 : decode cT_stateNow 5 = .ok (.iaload, 1) := by decide +kernel
theorem dT_stateNow_6 : decode cT_stateNow 6 = .ok (.invokestatic 146, 3) := by decide +kernel
theorem dT_stateNow_9 : decode cT_stateNow 9 = .ok (.ifCond .ne 5, 3) := by decide +kernel
theorem dT_stateNow_12 : decode cT_stateNow 12 = .ok (.iconst 0, 1) := by decide +kernel
theorem dT_stateNow_13 : decode cT_stateNow 13 = .ok (.ireturn, 1) := by decide +kernel
theorem dT_stateNow_14 : decode cT_stateNow 14 = .ok (.aload_n 0, 1) := by decide +kernel
theorem dT_stateNow_15 : decode cT_stateNow 15 = .ok (.getfield 69, 3) := by decide +kernel
theorem dT_stateNow_18 : decode cT_stateNow 18 = .ok (.aload_n 0, 1) := by decide +kernel
theorem dT_stateNow_19 : decode cT_stateNow 19 = .ok (.getfield 37, 3) := by decide +kernel
theorem dT_stateNow_22 : decode cT_stateNow 22 = .ok (.iload_n 1, 1) := by decide +kernel
theorem dT_stateNow_23 : decode cT_stateNow 23 = .ok (.iaload, 1) := by decide +kernel
theorem dT_stateNow_24 : decode cT_stateNow 24 = .ok (.isub, 1) := by decide +kernel
theorem dT_stateNow_25 : decode cT_stateNow 25 = .ok (.istore_n 2, 1) := by decide +kernel
theorem dT_stateNow_26 : decode cT_stateNow 26 = .ok (.iload_n 2, 1) := by decide +kernel
theorem dT_stateNow_27 : decode cT_stateNow 27 = .ok (.aload_n 0, 1) := by decide +kernel
theorem dT_stateNow_28 : decode cT_stateNow 28 = .ok (.getfield 60, 3) := by decide +kernel
theorem dT_stateNow_31 : decode cT_stateNow 31 = .ok (.if_icmp .ge 5, 3) := by decide +kernel
theorem dT_stateNow_34 : decode cT_stateNow 34 = .ok (.iconst 1, 1) := by decide +kernel
theorem dT_stateNow_35 : decode cT_stateNow 35 = .ok (.ireturn, 1) := by decide +kernel
theorem dT_stateNow_36 : decode cT_stateNow 36 = .ok (.iload_n 2, 1) := by decide +kernel
theorem dT_stateNow_37 : decode cT_stateNow 37 = .ok (.iconst 2, 1) := by decide +kernel
theorem dT_stateNow_38 : decode cT_stateNow 38 = .ok (.aload_n 0, 1) := by decide +kernel
theorem dT_stateNow_39 : decode cT_stateNow 39 = .ok (.getfield 60, 3) := by decide +kernel
theorem dT_stateNow_42 : decode cT_stateNow 42 = .ok (.imul, 1) := by decide +kernel
theorem dT_stateNow_43 : decode cT_stateNow 43 = .ok (.if_icmp .ge 7, 3) := by decide +kernel
theorem dT_stateNow_46 : decode cT_stateNow 46 = .ok (.iconst 2, 1) := by decide +kernel
theorem dT_stateNow_47 : decode cT_stateNow 47 = .ok (.goto 4, 3) := by decide +kernel
theorem dT_stateNow_50 : decode cT_stateNow 50 = .ok (.iconst 3, 1) := by decide +kernel
theorem dT_stateNow_51 : decode cT_stateNow 51 = .ok (.ireturn, 1) := by decide +kernel
theorem dT_isWorthNotice_0 : decode cT_isWorthNotice 0 = .ok (.iload_n 1, 1) := by decide +kernel
theorem dT_isWorthNotice_1 : decode cT_isWorthNotice 1 = .ok (.iconst 3, 1) := by decide +kernel
theorem dT_isWorthNotice_2 : decode cT_isWorthNotice 2 = .ok (.if_icmp .ne 12, 3) := by decide +kernel
theorem dT_isWorthNotice_5 : decode cT_isWorthNotice 5 = .ok (.iload_n 0, 1) := by decide +kernel
theorem dT_isWorthNotice_6 : decode cT_isWorthNotice 6 = .ok (.iconst 3, 1) := by decide +kernel
theorem dT_isWorthNotice_7 : decode cT_isWorthNotice 7 = .ok (.if_icmp .eq 7, 3) := by decide +kernel
theorem dT_isWorthNotice_10 : decode cT_isWorthNotice 10 = .ok (.iconst 1, 1) := by decide +kernel
theorem dT_isWorthNotice_11 : decode cT_isWorthNotice 11 = .ok (.goto 4, 3) := by decide +kernel
theorem dT_isWorthNotice_14 : decode cT_isWorthNotice 14 = .ok (.iconst 0, 1) := by decide +kernel
theorem dT_isWorthNotice_15 : decode cT_isWorthNotice 15 = .ok (.istore_n 2, 1) := by decide +kernel
theorem dT_isWorthNotice_16 : decode cT_isWorthNotice 16 = .ok (.iload_n 0, 1) := by decide +kernel
theorem dT_isWorthNotice_17 : decode cT_isWorthNotice 17 = .ok (.iconst 2, 1) := by decide +kernel
theorem dT_isWorthNotice_18 : decode cT_isWorthNotice 18 = .ok (.if_icmp .lt 12, 3) := by decide +kernel
theorem dT_isWorthNotice_21 : decode cT_isWorthNotice 21 = .ok (.iload_n 1, 1) := by decide +kernel
theorem dT_isWorthNotice_22 : decode cT_isWorthNotice 22 = .ok (.iconst 2, 1) := by decide +kernel
theorem dT_isWorthNotice_23 : decode cT_isWorthNotice 23 = .ok (.if_icmp .ge 7, 3) := by decide +kernel
theorem dT_isWorthNotice_26 : decode cT_isWorthNotice 26 = .ok (.iconst 1, 1) := by decide +kernel
theorem dT_isWorthNotice_27 : decode cT_isWorthNotice 27 = .ok (.goto 4, 3) := by decide +kernel
theorem dT_isWorthNotice_30 : decode cT_isWorthNotice 30 = .ok (.iconst 0, 1) := by decide +kernel
theorem dT_isWorthNotice_31 : decode cT_isWorthNotice 31 = .ok (.istore_n 3, 1) := by decide +kernel
theorem dT_isWorthNotice_32 : decode cT_isWorthNotice 32 = .ok (.iload_n 2, 1) := by decide +kernel
theorem dT_isWorthNotice_33 : decode cT_isWorthNotice 33 = .ok (.ifCond .ne 7, 3) := by decide +kernel
theorem dT_isWorthNotice_36 : decode cT_isWorthNotice 36 = .ok (.iload_n 3, 1) := by decide +kernel
theorem dT_isWorthNotice_37 : decode cT_isWorthNotice 37 = .ok (.ifCond .eq 7, 3) := by decide +kernel
theorem dT_isWorthNotice_40 : decode cT_isWorthNotice 40 = .ok (.iconst 1, 1) := by decide +kernel
theorem dT_isWorthNotice_41 : decode cT_isWorthNotice 41 = .ok (.goto 4, 3) := by decide +kernel
theorem dT_isWorthNotice_44 : decode cT_isWorthNotice 44 = .ok (.iconst 0, 1) := by decide +kernel
theorem dT_isWorthNotice_45 : decode cT_isWorthNotice 45 = .ok (.ireturn, 1) := by decide +kernel
theorem dT_passNotices_0 : decode cT_passNotices 0 = .ok (.iconst 0, 1) := by decide +kernel
theorem dT_passNotices_1 : decode cT_passNotices 1 = .ok (.istore_n 1, 1) := by decide +kernel
theorem dT_passNotices_2 : decode cT_passNotices 2 = .ok (.iload_n 1, 1) := by decide +kernel
theorem dT_passNotices_3 : decode cT_passNotices 3 = .ok (.aload_n 0, 1) := by decide +kernel
theorem dT_passNotices_4 : decode cT_passNotices 4 = .ok (.getfield 52, 3) := by decide +kernel
theorem dT_passNotices_7 : decode cT_passNotices 7 = .ok (.getfield 90, 3) := by decide +kernel
theorem dT_passNotices_10 : decode cT_passNotices 10 = .ok (.if_icmp .ge 28, 3) := by decide +kernel
theorem dT_passNotices_13 : decode cT_passNotices 13 = .ok (.aload_n 0, 1) := by decide +kernel
theorem dT_passNotices_14 : decode cT_passNotices 14 = .ok (.getfield 49, 3) := by decide +kernel
theorem dT_passNotices_17 : decode cT_passNotices 17 = .ok (.iload_n 1, 1) := by decide +kernel
theorem dT_passNotices_18 : decode cT_passNotices 18 = .ok (.aload_n 0, 1) := by decide +kernel
theorem dT_passNotices_19 : decode cT_passNotices 19 = .ok (.getfield 46, 3) := by decide +kernel
theorem dT_passNotices_22 : decode cT_passNotices 22 = .ok (.iload_n 1, 1) := by decide +kernel
theorem dT_passNotices_23 : decode cT_passNotices 23 = .ok (.baload, 1) := by decide +kernel
theorem dT_passNotices_24 : decode cT_passNotices 24 = .ok (.bastore, 1) := by decide +kernel
theorem dT_passNotices_25 : decode cT_passNotices 25 = .ok (.aload_n 0, 1) := by decide +kernel
theorem dT_passNotices_26 : decode cT_passNotices 26 = .ok (.getfield 46, 3) := by decide +kernel
theorem dT_passNotices_29 : decode cT_passNotices 29 = .ok (.iload_n 1, 1) := by decide +kernel
theorem dT_passNotices_30 : decode cT_passNotices 30 = .ok (.iconst 0, 1) := by decide +kernel
theorem dT_passNotices_31 : decode cT_passNotices 31 = .ok (.bastore, 1) := by decide +kernel
theorem dT_passNotices_32 : decode cT_passNotices 32 = .ok (.iinc 1 1, 3) := by decide +kernel
theorem dT_passNotices_35 : decode cT_passNotices 35 = .ok (.goto (-33), 3) := by decide +kernel
theorem dT_passNotices_38 : decode cT_passNotices 38 = .ok (.iconst 0, 1) := by decide +kernel
theorem dT_passNotices_39 : decode cT_passNotices 39 = .ok (.istore_n 1, 1) := by decide +kernel
theorem dT_passNotices_40 : decode cT_passNotices 40 = .ok (.iload_n 1, 1) := by decide +kernel
theorem dT_passNotices_41 : decode cT_passNotices 41 = .ok (.aload_n 0, 1) := by decide +kernel
theorem dT_passNotices_42 : decode cT_passNotices 42 = .ok (.getfield 52, 3) := by decide +kernel
theorem dT_passNotices_45 : decode cT_passNotices 45 = .ok (.getfield 90, 3) := by decide +kernel
theorem dT_passNotices_48 : decode cT_passNotices 48 = .ok (.if_icmp .ge 23, 3) := by decide +kernel
theorem dT_passNotices_51 : decode cT_passNotices 51 = .ok (.aload_n 0, 1) := by decide +kernel
theorem dT_passNotices_52 : decode cT_passNotices 52 = .ok (.getfield 49, 3) := by decide +kernel
theorem dT_passNotices_55 : decode cT_passNotices 55 = .ok (.iload_n 1, 1) := by decide +kernel
theorem dT_passNotices_56 : decode cT_passNotices 56 = .ok (.baload, 1) := by decide +kernel
theorem dT_passNotices_57 : decode cT_passNotices 57 = .ok (.ifCond .eq 8, 3) := by decide +kernel
theorem dT_passNotices_60 : decode cT_passNotices 60 = .ok (.aload_n 0, 1) := by decide +kernel
theorem dT_passNotices_61 : decode cT_passNotices 61 = .ok (.iload_n 1, 1) := by decide +kernel
theorem dT_passNotices_62 : decode cT_passNotices 62 = .ok (.invokevirtual 149, 3) := by decide +kernel
theorem dT_passNotices_65 : decode cT_passNotices 65 = .ok (.iinc 1 1, 3) := by decide +kernel
theorem dT_passNotices_68 : decode cT_passNotices 68 = .ok (.goto (-28), 3) := by decide +kernel
theorem dT_passNotices_71 : decode cT_passNotices 71 = .ok (.return_, 1) := by decide +kernel
theorem dT_passNoticeOf_0 : decode cT_passNoticeOf 0 = .ok (.aload_n 0, 1) := by decide +kernel
theorem dT_passNoticeOf_1 : decode cT_passNoticeOf 1 = .ok (.getfield 31, 3) := by decide +kernel
theorem dT_passNoticeOf_4 : decode cT_passNoticeOf 4 = .ok (.iload_n 1, 1) := by decide +kernel
theorem dT_passNoticeOf_5 : decode cT_passNoticeOf 5 = .ok (.iaload, 1) := by decide +kernel
theorem dT_passNoticeOf_6 : decode cT_passNoticeOf 6 = .ok (.iconst (-1), 1) := by decide +kernel
theorem dT_passNoticeOf_7 : decode cT_passNoticeOf 7 = .ok (.if_icmp .ne 24, 3) := by decide +kernel
theorem dT_passNoticeOf_10 : decode cT_passNoticeOf 10 = .ok (.aload_n 0, 1) := by decide +kernel
theorem dT_passNoticeOf_11 : decode cT_passNoticeOf 11 = .ok (.getfield 43, 3) := by decide +kernel
theorem dT_passNoticeOf_14 : decode cT_passNoticeOf 14 = .ok (.iload_n 1, 1) := by decide +kernel
theorem dT_passNoticeOf_15 : decode cT_passNoticeOf 15 = .ok (.aload_n 0, 1) := by decide +kernel
theorem dT_passNoticeOf_16 : decode cT_passNoticeOf 16 = .ok (.getfield 69, 3) := by decide +kernel
theorem dT_passNoticeOf_19 : decode cT_passNoticeOf 19 = .ok (.aload_n 0, 1) := by decide +kernel
theorem dT_passNoticeOf_20 : decode cT_passNoticeOf 20 = .ok (.getfield 56, 3) := by decide +kernel
theorem dT_passNoticeOf_23 : decode cT_passNoticeOf 23 = .ok (.iadd, 1) := by decide +kernel
theorem dT_passNoticeOf_24 : decode cT_passNoticeOf 24 = .ok (.aload_n 0, 1) := by decide +kernel
theorem dT_passNoticeOf_25 : decode cT_passNoticeOf 25 = .ok (.getfield 60, 3) := by decide +kernel
theorem dT_passNoticeOf_28 : decode cT_passNoticeOf 28 = .ok (.iadd, 1) := by decide +kernel
theorem dT_passNoticeOf_29 : decode cT_passNoticeOf 29 = .ok (.iastore, 1) := by decide +kernel
theorem dT_passNoticeOf_30 : decode cT_passNoticeOf 30 = .ok (.return_, 1) := by decide +kernel
theorem dT_passNoticeOf_31 : decode cT_passNoticeOf 31 = .ok (.aload_n 0, 1) := by decide +kernel
theorem dT_passNoticeOf_32 : decode cT_passNoticeOf 32 = .ok (.getfield 52, 3) := by decide +kernel
theorem dT_passNoticeOf_35 : decode cT_passNoticeOf 35 = .ok (.getfield 152, 3) := by decide +kernel
theorem dT_passNoticeOf_38 : decode cT_passNoticeOf 38 = .ok (.aload_n 0, 1) := by decide +kernel
theorem dT_passNoticeOf_39 : decode cT_passNoticeOf 39 = .ok (.getfield 31, 3) := by decide +kernel
theorem dT_passNoticeOf_42 : decode cT_passNoticeOf 42 = .ok (.iload_n 1, 1) := by decide +kernel
theorem dT_passNoticeOf_43 : decode cT_passNoticeOf 43 = .ok (.iaload, 1) := by decide +kernel
theorem dT_passNoticeOf_44 : decode cT_passNoticeOf 44 = .ok (.iaload, 1) := by decide +kernel
theorem dT_passNoticeOf_45 : decode cT_passNoticeOf 45 = .ok (.istore_n 2, 1) := by decide +kernel
theorem dT_passNoticeOf_46 : decode cT_passNoticeOf 46 = .ok (.iload_n 2, 1) := by decide +kernel
theorem dT_passNoticeOf_47 : decode cT_passNoticeOf 47 = .ok (.iconst (-1), 1) := by decide +kernel
theorem dT_passNoticeOf_48 : decode cT_passNoticeOf 48 = .ok (.if_icmp .eq 12, 3) := by decide +kernel
theorem dT_passNoticeOf_51 : decode cT_passNoticeOf 51 = .ok (.aload_n 0, 1) := by decide +kernel
theorem dT_passNoticeOf_52 : decode cT_passNoticeOf 52 = .ok (.getfield 46, 3) := by decide +kernel
theorem dT_passNoticeOf_55 : decode cT_passNoticeOf 55 = .ok (.iload_n 2, 1) := by decide +kernel
theorem dT_passNoticeOf_56 : decode cT_passNoticeOf 56 = .ok (.iconst 4, 1) := by decide +kernel
theorem dT_passNoticeOf_57 : decode cT_passNoticeOf 57 = .ok (.idiv, 1) := by decide +kernel
theorem dT_passNoticeOf_58 : decode cT_passNoticeOf 58 = .ok (.iconst 1, 1) := by decide +kernel
theorem dT_passNoticeOf_59 : decode cT_passNoticeOf 59 = .ok (.bastore, 1) := by decide +kernel
theorem dT_passNoticeOf_60 : decode cT_passNoticeOf 60 = .ok (.return_, 1) := by decide +kernel
theorem dT_sendMessages_0 : decode cT_sendMessages 0 = .ok (.iconst 4, 1) := by decide +kernel
theorem dT_sendMessages_1 : decode cT_sendMessages 1 = .ok (.aload_n 0, 1) := by decide +kernel
theorem dT_sendMessages_2 : decode cT_sendMessages 2 = .ok (.getfield 52, 3) := by decide +kernel
theorem dT_sendMessages_5 : decode cT_sendMessages 5 = .ok (.getfield 90, 3) := by decide +kernel
theorem dT_sendMessages_8 : decode cT_sendMessages 8 = .ok (.imul, 1) := by decide +kernel
theorem dT_sendMessages_9 : decode cT_sendMessages 9 = .ok (.istore_n 1, 1) := by decide +kernel
theorem dT_sendMessages_10 : decode cT_sendMessages 10 = .ok (.iconst 0, 1) := by decide +kernel
theorem dT_sendMessages_11 : decode cT_sendMessages 11 = .ok (.istore_n 2, 1) := by decide +kernel
theorem dT_sendMessages_12 : decode cT_sendMessages 12 = .ok (.iload_n 2, 1) := by decide +kernel
theorem dT_sendMessages_13 : decode cT_sendMessages 13 = .ok (.iload_n 1, 1) := by decide +kernel
theorem dT_sendMessages_14 : decode cT_sendMessages 14 = .ok (.if_icmp .ge 43, 3) := by decide +kernel
theorem dT_sendMessages_17 : decode cT_sendMessages 17 = .ok (.aload_n 0, 1) := by decide +kernel
theorem dT_sendMessages_18 : decode cT_sendMessages 18 = .ok (.getfield 52, 3) := by decide +kernel
theorem dT_sendMessages_21 : decode cT_sendMessages 21 = .ok (.iload_n 2, 1) := by decide +kernel
theorem dT_sendMessages_22 : decode cT_sendMessages 22 = .ok (.invokevirtual 124, 3) := by decide +kernel
theorem dT_sendMessages_25 : decode cT_sendMessages 25 = .ok (.ifCond .eq 26, 3) := by decide +kernel
theorem dT_sendMessages_28 : decode cT_sendMessages 28 = .ok (.aload_n 0, 1) := by decide +kernel
theorem dT_sendMessages_29 : decode cT_sendMessages 29 = .ok (.iload_n 2, 1) := by decide +kernel
theorem dT_sendMessages_30 : decode cT_sendMessages 30 = .ok (.invokevirtual 143, 3) := by decide +kernel
theorem dT_sendMessages_33 : decode cT_sendMessages 33 = .ok (.iconst 2, 1) := by decide +kernel
theorem dT_sendMessages_34 : decode cT_sendMessages 34 = .ok (.if_icmp .ne 17, 3) := by decide +kernel
theorem dT_sendMessages_37 : decode cT_sendMessages 37 = .ok (.aload_n 0, 1) := by decide +kernel
theorem dT_sendMessages_38 : decode cT_sendMessages 38 = .ok (.iload_n 2, 1) := by decide +kernel
theorem dT_sendMessages_39 : decode cT_sendMessages 39 = .ok (.aload_n 0, 1) := by decide +kernel
theorem dT_sendMessages_40 : decode cT_sendMessages 40 = .ok (.getfield 52, 3) := by decide +kernel
theorem dT_sendMessages_43 : decode cT_sendMessages 43 = .ok (.getfield 152, 3) := by decide +kernel
theorem dT_sendMessages_46 : decode cT_sendMessages 46 = .ok (.iload_n 2, 1) := by decide +kernel
theorem dT_sendMessages_47 : decode cT_sendMessages 47 = .ok (.iaload, 1) := by decide +kernel
theorem dT_sendMessages_48 : decode cT_sendMessages 48 = .ok (.invokevirtual 155, 3) := by decide +kernel
theorem dT_sendMessages_51 : decode cT_sendMessages 51 = .ok (.iinc 2 1, 3) := by decide +kernel
theorem dT_sendMessages_54 : decode cT_sendMessages 54 = .ok (.goto (-42), 3) := by decide +kernel
theorem dT_sendMessages_57 : decode cT_sendMessages 57 = .ok (.return_, 1) := by decide +kernel
theorem dT_sendMessage_0 : decode cT_sendMessage 0 = .ok (.iload_n 1, 1) := by decide +kernel
theorem dT_sendMessage_1 : decode cT_sendMessage 1 = .ok (.iconst 4, 1) := by decide +kernel
theorem dT_sendMessage_2 : decode cT_sendMessage 2 = .ok (.idiv, 1) := by decide +kernel
theorem dT_sendMessage_3 : decode cT_sendMessage 3 = .ok (.istore_n 3, 1) := by decide +kernel
theorem dT_sendMessage_4 : decode cT_sendMessage 4 = .ok (.bipush 6, 2) := by decide +kernel
theorem dT_sendMessage_6 : decode cT_sendMessage 6 = .ok (.iload_n 2, 1) := by decide +kernel
theorem dT_sendMessage_7 : decode cT_sendMessage 7 = .ok (.imul, 1) := by decide +kernel
theorem dT_sendMessage_8 : decode cT_sendMessage 8 = .ok (.istore 4, 2) := by decide +kernel
theorem dT_sendMessage_10 : decode cT_sendMessage 10 = .ok (.aload_n 0, 1) := by decide +kernel
theorem dT_sendMessage_11 : decode cT_sendMessage 11 = .ok (.getfield 31, 3) := by decide +kernel
theorem dT_sendMessage_14 : decode cT_sendMessage 14 = .ok (.iload_n 3, 1) := by decide +kernel
theorem dT_sendMessage_15 : decode cT_sendMessage 15 = .ok (.iaload, 1) := by decide +kernel
theorem dT_sendMessage_16 : decode cT_sendMessage 16 = .ok (.istore 5, 2) := by decide +kernel
theorem dT_sendMessage_18 : decode cT_sendMessage 18 = .ok (.aload_n 0, 1) := by decide +kernel
theorem dT_sendMessage_19 : decode cT_sendMessage 19 = .ok (.getfield 19, 3) := by decide +kernel
theorem dT_sendMessage_22 : decode cT_sendMessage 22 = .ok (.iload 4, 2) := by decide +kernel
theorem dT_sendMessage_24 : decode cT_sendMessage 24 = .ok (.iconst 0, 1) := by decide +kernel
theorem dT_sendMessage_25 : decode cT_sendMessage 25 = .ok (.iadd, 1) := by decide +kernel
theorem dT_sendMessage_26 : decode cT_sendMessage 26 = .ok (.aload_n 0, 1) := by decide +kernel
theorem dT_sendMessage_27 : decode cT_sendMessage 27 = .ok (.getfield 25, 3) := by decide +kernel
theorem dT_sendMessage_30 : decode cT_sendMessage 30 = .ok (.iload_n 3, 1) := by decide +kernel
theorem dT_sendMessage_31 : decode cT_sendMessage 31 = .ok (.iaload, 1) := by decide +kernel
theorem dT_sendMessage_32 : decode cT_sendMessage 32 = .ok (.iastore, 1) := by decide +kernel
theorem dT_sendMessage_33 : decode cT_sendMessage 33 = .ok (.aload_n 0, 1) := by decide +kernel
theorem dT_sendMessage_34 : decode cT_sendMessage 34 = .ok (.getfield 19, 3) := by decide +kernel
theorem dT_sendMessage_37 : decode cT_sendMessage 37 = .ok (.iload 4, 2) := by decide +kernel
theorem dT_sendMessage_39 : decode cT_sendMessage 39 = .ok (.iconst 1, 1) := by decide +kernel
theorem dT_sendMessage_40 : decode cT_sendMessage 40 = .ok (.iadd, 1) := by decide +kernel
theorem dT_sendMessage_41 : decode cT_sendMessage 41 = .ok (.aload_n 0, 1) := by decide +kernel
theorem dT_sendMessage_42 : decode cT_sendMessage 42 = .ok (.getfield 28, 3) := by decide +kernel
theorem dT_sendMessage_45 : decode cT_sendMessage 45 = .ok (.iload_n 3, 1) := by decide +kernel
theorem dT_sendMessage_46 : decode cT_sendMessage 46 = .ok (.iaload, 1) := by decide +kernel
theorem dT_sendMessage_47 : decode cT_sendMessage 47 = .ok (.iastore, 1) := by decide +kernel
theorem dT_sendMessage_48 : decode cT_sendMessage 48 = .ok (.aload_n 0, 1) := by decide +kernel
theorem dT_sendMessage_49 : decode cT_sendMessage 49 = .ok (.getfield 19, 3) := by decide +kernel
theorem dT_sendMessage_52 : decode cT_sendMessage 52 = .ok (.iload 4, 2) := by decide +kernel
theorem dT_sendMessage_54 : decode cT_sendMessage 54 = .ok (.iconst 2, 1) := by decide +kernel
theorem dT_sendMessage_55 : decode cT_sendMessage 55 = .ok (.iadd, 1) := by decide +kernel
theorem dT_sendMessage_56 : decode cT_sendMessage 56 = .ok (.aload_n 0, 1) := by decide +kernel
theorem dT_sendMessage_57 : decode cT_sendMessage 57 = .ok (.getfield 52, 3) := by decide +kernel
theorem dT_sendMessage_60 : decode cT_sendMessage 60 = .ok (.getfield 110, 3) := by decide +kernel
theorem dT_sendMessage_63 : decode cT_sendMessage 63 = .ok (.iload_n 3, 1) := by decide +kernel
theorem dT_sendMessage_64 : decode cT_sendMessage 64 = .ok (.iaload, 1) := by decide +kernel
theorem dT_sendMessage_65 : decode cT_sendMessage 65 = .ok (.iastore, 1) := by decide +kernel
theorem dT_sendMessage_66 : decode cT_sendMessage 66 = .ok (.aload_n 0, 1) := by decide +kernel
theorem dT_sendMessage_67 : decode cT_sendMessage 67 = .ok (.getfield 19, 3) := by decide +kernel
theorem dT_sendMessage_70 : decode cT_sendMessage 70 = .ok (.iload 4, 2) := by decide +kernel
theorem dT_sendMessage_72 : decode cT_sendMessage 72 = .ok (.iconst 3, 1) := by decide +kernel
theorem dT_sendMessage_73 : decode cT_sendMessage 73 = .ok (.iadd, 1) := by decide +kernel
theorem dT_sendMessage_74 : decode cT_sendMessage 74 = .ok (.iload_n 1, 1) := by decide +kernel
theorem dT_sendMessage_75 : decode cT_sendMessage 75 = .ok (.iconst 4, 1) := by decide +kernel
theorem dT_sendMessage_76 : decode cT_sendMessage 76 = .ok (.irem, 1) := by decide +kernel
theorem dT_sendMessage_77 : decode cT_sendMessage 77 = .ok (.iastore, 1) := by decide +kernel
theorem dT_sendMessage_78 : decode cT_sendMessage 78 = .ok (.aload_n 0, 1) := by decide +kernel
theorem dT_sendMessage_79 : decode cT_sendMessage 79 = .ok (.getfield 19, 3) := by decide +kernel
theorem dT_sendMessage_82 : decode cT_sendMessage 82 = .ok (.iload 4, 2) := by decide +kernel
theorem dT_sendMessage_84 : decode cT_sendMessage 84 = .ok (.iconst 4, 1) := by decide +kernel
theorem dT_sendMessage_85 : decode cT_sendMessage 85 = .ok (.iadd, 1) := by decide +kernel
theorem dT_sendMessage_86 : decode cT_sendMessage 86 = .ok (.iload 5, 2) := by decide +kernel
theorem dT_sendMessage_88 : decode cT_sendMessage 88 = .ok (.iconst (-1), 1) := by decide +kernel
theorem dT_sendMessage_89 : decode cT_sendMessage 89 = .ok (.if_icmp .ne 7, 3) := by decide +kernel
theorem dT_sendMessage_92 : decode cT_sendMessage 92 = .ok (.iconst 0, 1) := by decide +kernel
theorem dT_sendMessage_93 : decode cT_sendMessage 93 = .ok (.goto 15, 3) := by decide +kernel
theorem dT_sendMessage_96 : decode cT_sendMessage 96 = .ok (.aload_n 0, 1) := by decide +kernel
theorem dT_sendMessage_97 : decode cT_sendMessage 97 = .ok (.getfield 11, 3) := by decide +kernel
theorem dT_sendMessage_100 : decode cT_sendMessage 100 = .ok (.bipush 6, 2) := by decide +kernel
theorem dT_sendMessage_102 : decode cT_sendMessage 102 = .ok (.iload 5, 2) := by decide +kernel
theorem dT_sendMessage_104 : decode cT_sendMessage 104 = .ok (.imul, 1) := by decide +kernel
theorem dT_sendMessage_105 : decode cT_sendMessage 105 = .ok (.iconst 4, 1) := by decide +kernel
theorem dT_sendMessage_106 : decode cT_sendMessage 106 = .ok (.iadd, 1) := by decide +kernel
theorem dT_sendMessage_107 : decode cT_sendMessage 107 = .ok (.iaload, 1) := by decide +kernel
theorem dT_sendMessage_108 : decode cT_sendMessage 108 = .ok (.iastore, 1) := by decide +kernel
theorem dT_sendMessage_109 : decode cT_sendMessage 109 = .ok (.aload_n 0, 1) := by decide +kernel
theorem dT_sendMessage_110 : decode cT_sendMessage 110 = .ok (.getfield 19, 3) := by decide +kernel
theorem dT_sendMessage_113 : decode cT_sendMessage 113 = .ok (.iload 4, 2) := by decide +kernel
theorem dT_sendMessage_115 : decode cT_sendMessage 115 = .ok (.iconst 5, 1) := by decide +kernel
theorem dT_sendMessage_116 : decode cT_sendMessage 116 = .ok (.iadd, 1) := by decide +kernel
theorem dT_sendMessage_117 : decode cT_sendMessage 117 = .ok (.aload_n 0, 1) := by decide +kernel
theorem dT_sendMessage_118 : decode cT_sendMessage 118 = .ok (.iload_n 3, 1) := by decide +kernel
theorem dT_sendMessage_119 : decode cT_sendMessage 119 = .ok (.invokevirtual 159, 3) := by decide +kernel
theorem dT_sendMessage_122 : decode cT_sendMessage 122 = .ok (.ifCond .eq 7, 3) := by decide +kernel
theorem dT_sendMessage_125 : decode cT_sendMessage 125 = .ok (.iconst 1, 1) := by decide +kernel
theorem dT_sendMessage_126 : decode cT_sendMessage 126 = .ok (.goto 4, 3) := by decide +kernel
theorem dT_sendMessage_129 : decode cT_sendMessage 129 = .ok (.iconst 0, 1) := by decide +kernel
theorem dT_sendMessage_130 : decode cT_sendMessage 130 = .ok (.iastore, 1) := by decide +kernel
theorem dT_sendMessage_131 : decode cT_sendMessage 131 = .ok (.aload_n 0, 1) := by decide +kernel
theorem dT_sendMessage_132 : decode cT_sendMessage 132 = .ok (.getfield 22, 3) := by decide +kernel
theorem dT_sendMessage_135 : decode cT_sendMessage 135 = .ok (.iload_n 2, 1) := by decide +kernel
theorem dT_sendMessage_136 : decode cT_sendMessage 136 = .ok (.iconst 1, 1) := by decide +kernel
theorem dT_sendMessage_137 : decode cT_sendMessage 137 = .ok (.bastore, 1) := by decide +kernel
theorem dT_sendMessage_138 : decode cT_sendMessage 138 = .ok (.return_, 1) := by decide +kernel
theorem dT_takeMessages_0 : decode cT_takeMessages 0 = .ok (.iconst 0, 1) := by decide +kernel
theorem dT_takeMessages_1 : decode cT_takeMessages 1 = .ok (.istore_n 1, 1) := by decide +kernel
theorem dT_takeMessages_2 : decode cT_takeMessages 2 = .ok (.iload_n 1, 1) := by decide +kernel
theorem dT_takeMessages_3 : decode cT_takeMessages 3 = .ok (.bipush 24, 2) := by decide +kernel
theorem dT_takeMessages_5 : decode cT_takeMessages 5 = .ok (.if_icmp .ge 53, 3) := by decide +kernel
theorem dT_takeMessages_8 : decode cT_takeMessages 8 = .ok (.aload_n 0, 1) := by decide +kernel
theorem dT_takeMessages_9 : decode cT_takeMessages 9 = .ok (.getfield 22, 3) := by decide +kernel
theorem dT_takeMessages_12 : decode cT_takeMessages 12 = .ok (.iload_n 1, 1) := by decide +kernel
theorem dT_takeMessages_13 : decode cT_takeMessages 13 = .ok (.baload, 1) := by decide +kernel
theorem dT_takeMessages_14 : decode cT_takeMessages 14 = .ok (.ifCond .eq 38, 3) := by decide +kernel
theorem dT_takeMessages_17 : decode cT_takeMessages 17 = .ok (.aload_n 0, 1) := by decide +kernel
theorem dT_takeMessages_18 : decode cT_takeMessages 18 = .ok (.getfield 19, 3) := by decide +kernel
theorem dT_takeMessages_21 : decode cT_takeMessages 21 = .ok (.bipush 6, 2) := by decide +kernel
theorem dT_takeMessages_23 : decode cT_takeMessages 23 = .ok (.iload_n 1, 1) := by decide +kernel
theorem dT_takeMessages_24 : decode cT_takeMessages 24 = .ok (.imul, 1) := by decide +kernel
theorem dT_takeMessages_25 : decode cT_takeMessages 25 = .ok (.aload_n 0, 1) := by decide +kernel
theorem dT_takeMessages_26 : decode cT_takeMessages 26 = .ok (.getfield 11, 3) := by decide +kernel
theorem dT_takeMessages_29 : decode cT_takeMessages 29 = .ok (.bipush 6, 2) := by decide +kernel
theorem dT_takeMessages_31 : decode cT_takeMessages 31 = .ok (.iload_n 1, 1) := by decide +kernel
theorem dT_takeMessages_32 : decode cT_takeMessages 32 = .ok (.imul, 1) := by decide +kernel
theorem dT_takeMessages_33 : decode cT_takeMessages 33 = .ok (.bipush 6, 2) := by decide +kernel
theorem dT_takeMessages_35 : decode cT_takeMessages 35 = .ok (.invokestatic 162, 3) := by decide +kernel
theorem dT_takeMessages_38 : decode cT_takeMessages 38 = .ok (.aload_n 0, 1) := by decide +kernel
theorem dT_takeMessages_39 : decode cT_takeMessages 39 = .ok (.getfield 15, 3) := by decide +kernel
theorem dT_takeMessages_42 : decode cT_takeMessages 42 = .ok (.iload_n 1, 1) := by decide +kernel
theorem dT_takeMessages_43 : decode cT_takeMessages 43 = .ok (.iconst 1, 1) := by decide +kernel
theorem dT_takeMessages_44 : decode cT_takeMessages 44 = .ok (.bastore, 1) := by decide +kernel
theorem dT_takeMessages_45 : decode cT_takeMessages 45 = .ok (.aload_n 0, 1) := by decide +kernel
theorem dT_takeMessages_46 : decode cT_takeMessages 46 = .ok (.getfield 22, 3) := by decide +kernel
theorem dT_takeMessages_49 : decode cT_takeMessages 49 = .ok (.iload_n 1, 1) := by decide +kernel
theorem dT_takeMessages_50 : decode cT_takeMessages 50 = .ok (.iconst 0, 1) := by decide +kernel
theorem dT_takeMessages_51 : decode cT_takeMessages 51 = .ok (.bastore, 1) := by decide +kernel
theorem dT_takeMessages_52 : decode cT_takeMessages 52 = .ok (.iinc 1 1, 3) := by decide +kernel
theorem dT_takeMessages_55 : decode cT_takeMessages 55 = .ok (.goto (-53), 3) := by decide +kernel
theorem dT_takeMessages_58 : decode cT_takeMessages 58 = .ok (.return_, 1) := by decide +kernel
theorem dN_init_0 : decode cN_init 0 = .ok (.aload_n 0, 1) := by decide +kernel
theorem dN_init_1 : decode cN_init 1 = .ok (.invokespecial 3, 3) := by decide +kernel
theorem dN_init_4 : decode cN_init 4 = .ok (.aload_n 0, 1) := by decide +kernel
theorem dN_init_5 : decode cN_init 5 = .ok (.iload_n 3, 1) := by decide +kernel
theorem dN_init_6 : decode cN_init 6 = .ok (.iconst 5, 1) := by decide +kernel
theorem dN_init_7 : decode cN_init 7 = .ok (.bipush 40, 2) := by decide +kernel
theorem dN_init_9 : decode cN_init 9 = .ok (.invokestatic 9, 3) := by decide +kernel
theorem dN_init_12 : decode cN_init 12 = .ok (.putfield 13, 3) := by decide +kernel
theorem dN_init_15 : decode cN_init 15 = .ok (.aload_n 0, 1) := by decide +kernel
theorem dN_init_16 : decode cN_init 16 = .ok (.new 17, 3) := by decide +kernel
theorem dN_init_19 : decode cN_init 19 = .ok (.dup, 1) := by decide +kernel
theorem dN_init_20 : decode cN_init 20 = .ok (.invokespecial 19, 3) := by decide +kernel
theorem dN_init_23 : decode cN_init 23 = .ok (.putfield 20, 3) := by decide +kernel
theorem dN_init_26 : decode cN_init 26 = .ok (.aload_n 0, 1) := by decide +kernel
theorem dN_init_27 : decode cN_init 27 = .ok (.new 24, 3) := by decide +kernel
theorem dN_init_30 : decode cN_init 30 = .ok (.dup, 1) := by decide +kernel
theorem dN_init_31 : decode cN_init 31 = .ok (.invokespecial 26, 3) := by decide +kernel
theorem dN_init_34 : decode cN_init 34 = .ok (.putfield 27, 3) := by decide +kernel
theorem dN_init_37 : decode cN_init 37 = .ok (.aload_n 0, 1) := by decide +kernel
theorem dN_init_38 : decode cN_init 38 = .ok (.new 31, 3) := by decide +kernel
theorem dN_init_41 : decode cN_init 41 = .ok (.dup, 1) := by decide +kernel
theorem dN_init_42 : decode cN_init 42 = .ok (.aload_n 0, 1) := by decide +kernel
theorem dN_init_43 : decode cN_init 43 = .ok (.getfield 20, 3) := by decide +kernel
theorem dN_init_46 : decode cN_init 46 = .ok (.iload_n 1, 1) := by decide +kernel
theorem dN_init_47 : decode cN_init 47 = .ok (.bipush 6, 2) := by decide +kernel
theorem dN_init_49 : decode cN_init 49 = .ok (.bipush 12, 2) := by decide +kernel
theorem dN_init_51 : decode cN_init 51 = .ok (.invokestatic 9, 3) := by decide +kernel
theorem dN_init_54 : decode cN_init 54 = .ok (.iload_n 2, 1) := by decide +kernel
theorem dN_init_55 : decode cN_init 55 = .ok (.iconst 1, 1) := by decide +kernel
theorem dN_init_56 : decode cN_init 56 = .ok (.iconst 4, 1) := by decide +kernel
theorem dN_init_57 : decode cN_init 57 = .ok (.invokestatic 9, 3) := by decide +kernel
theorem dN_init_60 : decode cN_init 60 = .ok (.invokespecial 33, 3) := by decide +kernel
theorem dN_init_63 : decode cN_init 63 = .ok (.putfield 36, 3) := by decide +kernel
theorem dN_init_66 : decode cN_init 66 = .ok (.aload_n 0, 1) := by decide +kernel
theorem dN_init_67 : decode cN_init 67 = .ok (.new 40, 3) := by decide +kernel
theorem dN_init_70 : decode cN_init 70 = .ok (.dup, 1) := by decide +kernel
theorem dN_init_71 : decode cN_init 71 = .ok (.invokespecial 42, 3) := by decide +kernel
theorem dN_init_74 : decode cN_init 74 = .ok (.putfield 43, 3) := by decide +kernel
theorem dN_init_77 : decode cN_init 77 = .ok (.aload_n 0, 1) := by decide +kernel
theorem dN_init_78 : decode cN_init 78 = .ok (.new 47, 3) := by decide +kernel
theorem dN_init_81 : decode cN_init 81 = .ok (.dup, 1) := by decide +kernel
theorem dN_init_82 : decode cN_init 82 = .ok (.aload_n 0, 1) := by decide +kernel
theorem dN_init_83 : decode cN_init 83 = .ok (.getfield 20, 3) := by decide +kernel
theorem dN_init_86 : decode cN_init 86 = .ok (.aload_n 0, 1) := by decide +kernel
theorem dN_init_87 : decode cN_init 87 = .ok (.getfield 27, 3) := by decide +kernel
theorem dN_init_90 : decode cN_init 90 = .ok (.aload_n 0, 1) := by decide +kernel
theorem dN_init_91 : decode cN_init 91 = .ok (.getfield 36, 3) := by decide +kernel
theorem dN_init_94 : decode cN_init 94 = .ok (.aload_n 0, 1) := by decide +kernel
theorem dN_init_95 : decode cN_init 95 = .ok (.getfield 43, 3) := by decide +kernel
theorem dN_init_98 : decode cN_init 98 = .ok (.invokespecial 49, 3) := by decide +kernel
theorem dN_init_101 : decode cN_init 101 = .ok (.putfield 52, 3) := by decide +kernel
theorem dN_init_104 : decode cN_init 104 = .ok (.aload_n 0, 1) := by decide +kernel
theorem dN_init_105 : decode cN_init 105 = .ok (.iconst 0, 1) := by decide +kernel
theorem dN_init_106 : decode cN_init 106 = .ok (.putfield 56, 3) := by decide +kernel
theorem dN_init_109 : decode cN_init 109 = .ok (.return_, 1) := by decide +kernel
theorem dN_bridge_0 : decode cN_bridge 0 = .ok (.aload_n 0, 1) := by decide +kernel
theorem dN_bridge_1 : decode cN_bridge 1 = .ok (.getfield 20, 3) := by decide +kernel
theorem dN_bridge_4 : decode cN_bridge 4 = .ok (.getfield 59, 3) := by decide +kernel
theorem dN_bridge_7 : decode cN_bridge 7 = .ok (.bipush 6, 2) := by decide +kernel
theorem dN_bridge_9 : decode cN_bridge 9 = .ok (.if_icmp .ge 13, 3) := by decide +kernel
theorem dN_bridge_12 : decode cN_bridge 12 = .ok (.iload_n 1, 1) := by decide +kernel
theorem dN_bridge_13 : decode cN_bridge 13 = .ok (.iconst 0, 1) := by decide +kernel
theorem dN_bridge_14 : decode cN_bridge 14 = .ok (.bipush 7, 2) := by decide +kernel
theorem dN_bridge_16 : decode cN_bridge 16 = .ok (.invokestatic 62, 3) := by decide +kernel
theorem dN_bridge_19 : decode cN_bridge 19 = .ok (.ifCond .ne 5, 3) := by decide +kernel
theorem dN_bridge_22 : decode cN_bridge 22 = .ok (.iconst (-1), 1) := by decide +kernel
theorem dN_bridge_23 : decode cN_bridge 23 = .ok (.ireturn, 1) := by decide +kernel
theorem dN_bridge_24 : decode cN_bridge 24 = .ok (.aload_n 0, 1) := by decide +kernel
theorem dN_bridge_25 : decode cN_bridge 25 = .ok (.getfield 20, 3) := by decide +kernel
theorem dN_bridge_28 : decode cN_bridge 28 = .ok (.iload_n 1, 1) := by decide +kernel
theorem dN_bridge_29 : decode cN_bridge 29 = .ok (.invokevirtual 66, 3) := by decide +kernel
theorem dN_bridge_32 : decode cN_bridge 32 = .ok (.istore_n 2, 1) := by decide +kernel
theorem dN_bridge_33 : decode cN_bridge 33 = .ok (.aload_n 0, 1) := by decide +kernel
theorem dN_bridge_34 : decode cN_bridge 34 = .ok (.getfield 36, 3) := by decide +kernel
theorem dN_bridge_37 : decode cN_bridge 37 = .ok (.invokevirtual 70, 3) := by decide +kernel
theorem dN_bridge_40 : decode cN_bridge 40 = .ok (.iload_n 2, 1) := by decide +kernel
theorem dN_bridge_41 : decode cN_bridge 41 = .ok (.ireturn, 1) := by decide +kernel
theorem dN_wire_0 : decode cN_wire 0 = .ok (.aload_n 0, 1) := by decide +kernel
theorem dN_wire_1 : decode cN_wire 1 = .ok (.getfield 20, 3) := by decide +kernel
theorem dN_wire_4 : decode cN_wire 4 = .ok (.getfield 73, 3) := by decide +kernel
theorem dN_wire_7 : decode cN_wire 7 = .ok (.bipush 10, 2) := by decide +kernel
theorem dN_wire_9 : decode cN_wire 9 = .ok (.if_icmp .ge 25, 3) := by decide +kernel
theorem dN_wire_12 : decode cN_wire 12 = .ok (.aload_n 0, 1) := by decide +kernel
theorem dN_wire_13 : decode cN_wire 13 = .ok (.getfield 20, 3) := by decide +kernel
theorem dN_wire_16 : decode cN_wire 16 = .ok (.iload_n 1, 1) := by decide +kernel
theorem dN_wire_17 : decode cN_wire 17 = .ok (.invokevirtual 76, 3) := by decide +kernel
theorem dN_wire_20 : decode cN_wire 20 = .ok (.ifCond .eq 14, 3) := by decide +kernel
theorem dN_wire_23 : decode cN_wire 23 = .ok (.aload_n 0, 1) := by decide +kernel
theorem dN_wire_24 : decode cN_wire 24 = .ok (.getfield 20, 3) := by decide +kernel
theorem dN_wire_27 : decode cN_wire 27 = .ok (.iload_n 2, 1) := by decide +kernel
theorem dN_wire_28 : decode cN_wire 28 = .ok (.invokevirtual 76, 3) := by decide +kernel
theorem dN_wire_31 : decode cN_wire 31 = .ok (.ifCond .ne 5, 3) := by decide +kernel
theorem dN_wire_34 : decode cN_wire 34 = .ok (.iconst (-1), 1) := by decide +kernel
theorem dN_wire_35 : decode cN_wire 35 = .ok (.ireturn, 1) := by decide +kernel
theorem dN_wire_36 : decode cN_wire 36 = .ok (.iload_n 1, 1) := by decide +kernel
theorem dN_wire_37 : decode cN_wire 37 = .ok (.iload_n 2, 1) := by decide +kernel
theorem dN_wire_38 : decode cN_wire 38 = .ok (.if_icmp .eq 13, 3) := by decide +kernel
theorem dN_wire_41 : decode cN_wire 41 = .ok (.iload_n 3, 1) := by decide +kernel
theorem dN_wire_42 : decode cN_wire 42 = .ok (.iconst 1, 1) := by decide +kernel
theorem dN_wire_43 : decode cN_wire 43 = .ok (.bipush 9, 2) := by decide +kernel
theorem dN_wire_45 : decode cN_wire 45 = .ok (.invokestatic 62, 3) := by decide +kernel
theorem dN_wire_48 : decode cN_wire 48 = .ok (.ifCond .ne 5, 3) := by decide +kernel
theorem dN_wire_51 : decode cN_wire 51 = .ok (.iconst (-1), 1) := by decide +kernel
theorem dN_wire_52 : decode cN_wire 52 = .ok (.ireturn, 1) := by decide +kernel
theorem dN_wire_53 : decode cN_wire 53 = .ok (.aload_n 0, 1) := by decide +kernel
theorem dN_wire_54 : decode cN_wire 54 = .ok (.getfield 20, 3) := by decide +kernel
theorem dN_wire_57 : decode cN_wire 57 = .ok (.iload_n 1, 1) := by decide +kernel
theorem dN_wire_58 : decode cN_wire 58 = .ok (.iload_n 2, 1) := by decide +kernel
theorem dN_wire_59 : decode cN_wire 59 = .ok (.iload_n 3, 1) := by decide +kernel
theorem dN_wire_60 : decode cN_wire 60 = .ok (.invokevirtual 80, 3) := by decide +kernel
theorem dN_wire_63 : decode cN_wire 63 = .ok (.istore 4, 2) := by decide +kernel
theorem dN_wire_65 : decode cN_wire 65 = .ok (.aload_n 0, 1) := by decide +kernel
theorem dN_wire_66 : decode cN_wire 66 = .ok (.getfield 36, 3) := by decide +kernel
theorem dN_wire_69 : decode cN_wire 69 = .ok (.invokevirtual 70, 3) := by decide +kernel
theorem dN_wire_72 : decode cN_wire 72 = .ok (.iload 4, 2) := by decide +kernel
theorem dN_wire_74 : decode cN_wire 74 = .ok (.ireturn, 1) := by decide +kernel
theorem dN_host_0 : decode cN_host 0 = .ok (.aload_n 0, 1) := by decide +kernel
theorem dN_host_1 : decode cN_host 1 = .ok (.getfield 20, 3) := by decide +kernel
theorem dN_host_4 : decode cN_host 4 = .ok (.getfield 83, 3) := by decide +kernel
theorem dN_host_7 : decode cN_host 7 = .ok (.bipush 6, 2) := by decide +kernel
theorem dN_host_9 : decode cN_host 9 = .ok (.if_icmp .ge 21, 3) := by decide +kernel
theorem dN_host_12 : decode cN_host 12 = .ok (.aload_n 0, 1) := by decide +kernel
theorem dN_host_13 : decode cN_host 13 = .ok (.getfield 20, 3) := by decide +kernel
theorem dN_host_16 : decode cN_host 16 = .ok (.iload_n 1, 1) := by decide +kernel
theorem dN_host_17 : decode cN_host 17 = .ok (.invokevirtual 76, 3) := by decide +kernel
theorem dN_host_20 : decode cN_host 20 = .ok (.ifCond .eq 10, 3) := by decide +kernel
theorem dN_host_23 : decode cN_host 23 = .ok (.iload_n 2, 1) := by decide +kernel
theorem dN_host_24 : decode cN_host 24 = .ok (.invokestatic 86, 3) := by decide +kernel
theorem dN_host_27 : decode cN_host 27 = .ok (.ifCond .ne 5, 3) := by decide +kernel
theorem dN_host_30 : decode cN_host 30 = .ok (.iconst (-1), 1) := by decide +kernel
theorem dN_host_31 : decode cN_host 31 = .ok (.ireturn, 1) := by decide +kernel
theorem dN_host_32 : decode cN_host 32 = .ok (.aload_n 0, 1) := by decide +kernel
theorem dN_host_33 : decode cN_host 33 = .ok (.getfield 20, 3) := by decide +kernel
theorem dN_host_36 : decode cN_host 36 = .ok (.iload_n 1, 1) := by decide +kernel
theorem dN_host_37 : decode cN_host 37 = .ok (.iload_n 2, 1) := by decide +kernel
theorem dN_host_38 : decode cN_host 38 = .ok (.invokevirtual 89, 3) := by decide +kernel
theorem dN_host_41 : decode cN_host 41 = .ok (.istore_n 3, 1) := by decide +kernel
theorem dN_host_42 : decode cN_host 42 = .ok (.aload_n 0, 1) := by decide +kernel
theorem dN_host_43 : decode cN_host 43 = .ok (.getfield 36, 3) := by decide +kernel
theorem dN_host_46 : decode cN_host 46 = .ok (.invokevirtual 70, 3) := by decide +kernel
theorem dN_host_49 : decode cN_host 49 = .ok (.iload_n 3, 1) := by decide +kernel
theorem dN_host_50 : decode cN_host 50 = .ok (.ireturn, 1) := by decide +kernel
theorem dN_router_0 : decode cN_router 0 = .ok (.aload_n 0, 1) := by decide +kernel
theorem dN_router_1 : decode cN_router 1 = .ok (.getfield 20, 3) := by decide +kernel
theorem dN_router_4 : decode cN_router 4 = .ok (.invokevirtual 93, 3) := by decide +kernel
theorem dN_router_7 : decode cN_router 7 = .ok (.ifCond .ne 14, 3) := by decide +kernel
theorem dN_router_10 : decode cN_router 10 = .ok (.aload_n 0, 1) := by decide +kernel
theorem dN_router_11 : decode cN_router 11 = .ok (.getfield 20, 3) := by decide +kernel
theorem dN_router_14 : decode cN_router 14 = .ok (.iload_n 1, 1) := by decide +kernel
theorem dN_router_15 : decode cN_router 15 = .ok (.invokevirtual 76, 3) := by decide +kernel
theorem dN_router_18 : decode cN_router 18 = .ok (.ifCond .ne 5, 3) := by decide +kernel
theorem dN_router_21 : decode cN_router 21 = .ok (.iconst 0, 1) := by decide +kernel
theorem dN_router_22 : decode cN_router 22 = .ok (.ireturn, 1) := by decide +kernel
theorem dN_router_23 : decode cN_router 23 = .ok (.aload_n 0, 1) := by decide +kernel
theorem dN_router_24 : decode cN_router 24 = .ok (.getfield 20, 3) := by decide +kernel
theorem dN_router_27 : decode cN_router 27 = .ok (.iload_n 1, 1) := by decide +kernel
theorem dN_router_28 : decode cN_router 28 = .ok (.invokevirtual 97, 3) := by decide +kernel
theorem dN_router_31 : decode cN_router 31 = .ok (.aload_n 0, 1) := by decide +kernel
theorem dN_router_32 : decode cN_router 32 = .ok (.getfield 36, 3) := by decide +kernel
theorem dN_router_35 : decode cN_router 35 = .ok (.invokevirtual 70, 3) := by decide +kernel
theorem dN_router_38 : decode cN_router 38 = .ok (.iconst 1, 1) := by decide +kernel
theorem dN_router_39 : decode cN_router 39 = .ok (.ireturn, 1) := by decide +kernel
theorem dN_access_0 : decode cN_access 0 = .ok (.aload_n 0, 1) := by decide +kernel
theorem dN_access_1 : decode cN_access 1 = .ok (.getfield 20, 3) := by decide +kernel
theorem dN_access_4 : decode cN_access 4 = .ok (.iload_n 1, 1) := by decide +kernel
theorem dN_access_5 : decode cN_access 5 = .ok (.invokevirtual 101, 3) := by decide +kernel
theorem dN_access_8 : decode cN_access 8 = .ok (.ifCond .eq 10, 3) := by decide +kernel
theorem dN_access_11 : decode cN_access 11 = .ok (.iload_n 2, 1) := by decide +kernel
theorem dN_access_12 : decode cN_access 12 = .ok (.invokestatic 86, 3) := by decide +kernel
theorem dN_access_15 : decode cN_access 15 = .ok (.ifCond .ne 5, 3) := by decide +kernel
theorem dN_access_18 : decode cN_access 18 = .ok (.iconst 0, 1) := by decide +kernel
theorem dN_access_19 : decode cN_access 19 = .ok (.ireturn, 1) := by decide +kernel
theorem dN_access_20 : decode cN_access 20 = .ok (.aload_n 0, 1) := by decide +kernel
theorem dN_access_21 : decode cN_access 21 = .ok (.getfield 27, 3) := by decide +kernel
theorem dN_access_24 : decode cN_access 24 = .ok (.iload_n 1, 1) := by decide +kernel
theorem dN_access_25 : decode cN_access 25 = .ok (.iload_n 2, 1) := by decide +kernel
theorem dN_access_26 : decode cN_access 26 = .ok (.invokevirtual 104, 3) := by decide +kernel
theorem dN_access_29 : decode cN_access 29 = .ok (.iconst 1, 1) := by decide +kernel
theorem dN_access_30 : decode cN_access 30 = .ok (.ireturn, 1) := by decide +kernel
theorem dN_trunk_0 : decode cN_trunk 0 = .ok (.aload_n 0, 1) := by decide +kernel
theorem dN_trunk_1 : decode cN_trunk 1 = .ok (.getfield 20, 3) := by decide +kernel
theorem dN_trunk_4 : decode cN_trunk 4 = .ok (.iload_n 1, 1) := by decide +kernel
theorem dN_trunk_5 : decode cN_trunk 5 = .ok (.invokevirtual 101, 3) := by decide +kernel
theorem dN_trunk_8 : decode cN_trunk 8 = .ok (.ifCond .eq 20, 3) := by decide +kernel
theorem dN_trunk_11 : decode cN_trunk 11 = .ok (.iload_n 2, 1) := by decide +kernel
theorem dN_trunk_12 : decode cN_trunk 12 = .ok (.invokestatic 86, 3) := by decide +kernel
theorem dN_trunk_15 : decode cN_trunk 15 = .ok (.ifCond .eq 13, 3) := by decide +kernel
theorem dN_trunk_18 : decode cN_trunk 18 = .ok (.iload_n 3, 1) := by decide +kernel
theorem dN_trunk_19 : decode cN_trunk 19 = .ok (.iconst 0, 1) := by decide +kernel
theorem dN_trunk_20 : decode cN_trunk 20 = .ok (.bipush 15, 2) := by decide +kernel
theorem dN_trunk_22 : decode cN_trunk 22 = .ok (.invokestatic 62, 3) := by decide +kernel
theorem dN_trunk_25 : decode cN_trunk 25 = .ok (.ifCond .ne 5, 3) := by decide +kernel
theorem dN_trunk_28 : decode cN_trunk 28 = .ok (.iconst 0, 1) := by decide +kernel
theorem dN_trunk_29 : decode cN_trunk 29 = .ok (.ireturn, 1) := by decide +kernel
theorem dN_trunk_30 : decode cN_trunk 30 = .ok (.aload_n 0, 1) := by decide +kernel
theorem dN_trunk_31 : decode cN_trunk 31 = .ok (.getfield 27, 3) := by decide +kernel
theorem dN_trunk_34 : decode cN_trunk 34 = .ok (.iload_n 1, 1) := by decide +kernel
theorem dN_trunk_35 : decode cN_trunk 35 = .ok (.iload_n 2, 1) := by decide +kernel
theorem dN_trunk_36 : decode cN_trunk 36 = .ok (.iload_n 3, 1) := by decide +kernel
theorem dN_trunk_37 : decode cN_trunk 37 = .ok (.invokevirtual 108, 3) := by decide +kernel
theorem dN_trunk_40 : decode cN_trunk 40 = .ok (.iconst 1, 1) := by decide +kernel
theorem dN_trunk_41 : decode cN_trunk 41 = .ok (.ireturn, 1) := by decide +kernel
theorem dN_cut_0 : decode cN_cut 0 = .ok (.iload_n 1, 1) := by decide +kernel
theorem dN_cut_1 : decode cN_cut 1 = .ok (.iconst 0, 1) := by decide +kernel
theorem dN_cut_2 : decode cN_cut 2 = .ok (.aload_n 0, 1) := by decide +kernel
theorem dN_cut_3 : decode cN_cut 3 = .ok (.getfield 20, 3) := by decide +kernel
theorem dN_cut_6 : decode cN_cut 6 = .ok (.getfield 73, 3) := by decide +kernel
theorem dN_cut_9 : decode cN_cut 9 = .ok (.iconst 1, 1) := by decide +kernel
theorem dN_cut_10 : decode cN_cut 10 = .ok (.isub, 1) := by decide +kernel
theorem dN_cut_11 : decode cN_cut 11 = .ok (.invokestatic 62, 3) := by decide +kernel
theorem dN_cut_14 : decode cN_cut 14 = .ok (.ifCond .eq 16, 3) := by decide +kernel
theorem dN_cut_17 : decode cN_cut 17 = .ok (.aload_n 0, 1) := by decide +kernel
theorem dN_cut_18 : decode cN_cut 18 = .ok (.getfield 20, 3) := by decide +kernel
theorem dN_cut_21 : decode cN_cut 21 = .ok (.getfield 112, 3) := by decide +kernel
theorem dN_cut_24 : decode cN_cut 24 = .ok (.iload_n 1, 1) := by decide +kernel
theorem dN_cut_25 : decode cN_cut 25 = .ok (.baload, 1) := by decide +kernel
theorem dN_cut_26 : decode cN_cut 26 = .ok (.iload_n 2, 1) := by decide +kernel
theorem dN_cut_27 : decode cN_cut 27 = .ok (.if_icmp .ne 5, 3) := by decide +kernel
theorem dN_cut_30 : decode cN_cut 30 = .ok (.iconst 0, 1) := by decide +kernel
theorem dN_cut_31 : decode cN_cut 31 = .ok (.ireturn, 1) := by decide +kernel
theorem dN_cut_32 : decode cN_cut 32 = .ok (.aload_n 0, 1) := by decide +kernel
theorem dN_cut_33 : decode cN_cut 33 = .ok (.getfield 20, 3) := by decide +kernel
theorem dN_cut_36 : decode cN_cut 36 = .ok (.getfield 112, 3) := by decide +kernel
theorem dN_cut_39 : decode cN_cut 39 = .ok (.iload_n 1, 1) := by decide +kernel
theorem dN_cut_40 : decode cN_cut 40 = .ok (.iload_n 2, 1) := by decide +kernel
theorem dN_cut_41 : decode cN_cut 41 = .ok (.bastore, 1) := by decide +kernel
theorem dN_cut_42 : decode cN_cut 42 = .ok (.aload_n 0, 1) := by decide +kernel
theorem dN_cut_43 : decode cN_cut 43 = .ok (.getfield 20, 3) := by decide +kernel
theorem dN_cut_46 : decode cN_cut 46 = .ok (.getfield 116, 3) := by decide +kernel
theorem dN_cut_49 : decode cN_cut 49 = .ok (.iload_n 1, 1) := by decide +kernel
theorem dN_cut_50 : decode cN_cut 50 = .ok (.iaload, 1) := by decide +kernel
theorem dN_cut_51 : decode cN_cut 51 = .ok (.istore_n 3, 1) := by decide +kernel
theorem dN_cut_52 : decode cN_cut 52 = .ok (.aload_n 0, 1) := by decide +kernel
theorem dN_cut_53 : decode cN_cut 53 = .ok (.getfield 36, 3) := by decide +kernel
theorem dN_cut_56 : decode cN_cut 56 = .ok (.iload_n 3, 1) := by decide +kernel
theorem dN_cut_57 : decode cN_cut 57 = .ok (.invokevirtual 120, 3) := by decide +kernel
theorem dN_cut_60 : decode cN_cut 60 = .ok (.aload_n 0, 1) := by decide +kernel
theorem dN_cut_61 : decode cN_cut 61 = .ok (.getfield 36, 3) := by decide +kernel
theorem dN_cut_64 : decode cN_cut 64 = .ok (.aload_n 0, 1) := by decide +kernel
theorem dN_cut_65 : decode cN_cut 65 = .ok (.getfield 20, 3) := by decide +kernel
theorem dN_cut_68 : decode cN_cut 68 = .ok (.getfield 123, 3) := by decide +kernel
theorem dN_cut_71 : decode cN_cut 71 = .ok (.iload_n 3, 1) := by decide +kernel
theorem dN_cut_72 : decode cN_cut 72 = .ok (.iaload, 1) := by decide +kernel
theorem dN_cut_73 : decode cN_cut 73 = .ok (.invokevirtual 120, 3) := by decide +kernel
theorem dN_cut_76 : decode cN_cut 76 = .ok (.aload_n 0, 1) := by decide +kernel
theorem dN_cut_77 : decode cN_cut 77 = .ok (.getfield 36, 3) := by decide +kernel
theorem dN_cut_80 : decode cN_cut 80 = .ok (.invokevirtual 70, 3) := by decide +kernel
theorem dN_cut_83 : decode cN_cut 83 = .ok (.iconst 1, 1) := by decide +kernel
theorem dN_cut_84 : decode cN_cut 84 = .ok (.ireturn, 1) := by decide +kernel
theorem dN_tick_0 : decode cN_tick 0 = .ok (.iload_n 1, 1) := by decide +kernel
theorem dN_tick_1 : decode cN_tick 1 = .ok (.iconst 0, 1) := by decide +kernel
theorem dN_tick_2 : decode cN_tick 2 = .ok (.bipush 60, 2) := by decide +kernel
theorem dN_tick_4 : decode cN_tick 4 = .ok (.invokestatic 62, 3) := by decide +kernel
theorem dN_tick_7 : decode cN_tick 7 = .ok (.ifCond .ne 5, 3) := by decide +kernel
theorem dN_tick_10 : decode cN_tick 10 = .ok (.iconst (-1), 1) := by decide +kernel
theorem dN_tick_11 : decode cN_tick 11 = .ok (.ireturn, 1) := by decide +kernel
theorem dN_tick_12 : decode cN_tick 12 = .ok (.iconst 0, 1) := by decide +kernel
theorem dN_tick_13 : decode cN_tick 13 = .ok (.istore_n 2, 1) := by decide +kernel
theorem dN_tick_14 : decode cN_tick 14 = .ok (.iload_n 2, 1) := by decide +kernel
theorem dN_tick_15 : decode cN_tick 15 = .ok (.iload_n 1, 1) := by decide +kernel
theorem dN_tick_16 : decode cN_tick 16 = .ok (.if_icmp .ge 20, 3) := by decide +kernel
theorem dN_tick_19 : decode cN_tick 19 = .ok (.aload_n 0, 1) := by decide +kernel
theorem dN_tick_20 : decode cN_tick 20 = .ok (.getfield 36, 3) := by decide +kernel
theorem dN_tick_23 : decode cN_tick 23 = .ok (.invokevirtual 126, 3) := by decide +kernel
theorem dN_tick_26 : decode cN_tick 26 = .ok (.aload_n 0, 1) := by decide +kernel
theorem dN_tick_27 : decode cN_tick 27 = .ok (.invokevirtual 129, 3) := by decide +kernel
theorem dN_tick_30 : decode cN_tick 30 = .ok (.iinc 2 1, 3) := by decide +kernel
theorem dN_tick_33 : decode cN_tick 33 = .ok (.goto (-19), 3) := by decide +kernel
theorem dN_tick_36 : decode cN_tick 36 = .ok (.aload_n 0, 1) := by decide +kernel
theorem dN_tick_37 : decode cN_tick 37 = .ok (.getfield 36, 3) := by decide +kernel
theorem dN_tick_40 : decode cN_tick 40 = .ok (.getfield 132, 3) := by decide +kernel
theorem dN_tick_43 : decode cN_tick 43 = .ok (.ireturn, 1) := by decide +kernel
theorem dN_role_0 : decode cN_role 0 = .ok (.aload_n 0, 1) := by decide +kernel
theorem dN_role_1 : decode cN_role 1 = .ok (.getfield 20, 3) := by decide +kernel
theorem dN_role_4 : decode cN_role 4 = .ok (.iload_n 1, 1) := by decide +kernel
theorem dN_role_5 : decode cN_role 5 = .ok (.invokevirtual 101, 3) := by decide +kernel
theorem dN_role_8 : decode cN_role 8 = .ok (.ifCond .eq 15, 3) := by decide +kernel
theorem dN_role_11 : decode cN_role 11 = .ok (.aload_n 0, 1) := by decide +kernel
theorem dN_role_12 : decode cN_role 12 = .ok (.getfield 36, 3) := by decide +kernel
theorem dN_role_15 : decode cN_role 15 = .ok (.getfield 135, 3) := by decide +kernel
theorem dN_role_18 : decode cN_role 18 = .ok (.iload_n 1, 1) := by decide +kernel
theorem dN_role_19 : decode cN_role 19 = .ok (.iaload, 1) := by decide +kernel
theorem dN_role_20 : decode cN_role 20 = .ok (.goto 4, 3) := by decide +kernel
theorem dN_role_23 : decode cN_role 23 = .ok (.iconst (-1), 1) := by decide +kernel
theorem dN_role_24 : decode cN_role 24 = .ok (.ireturn, 1) := by decide +kernel
theorem dN_state_0 : decode cN_state 0 = .ok (.aload_n 0, 1) := by decide +kernel
theorem dN_state_1 : decode cN_state 1 = .ok (.getfield 20, 3) := by decide +kernel
theorem dN_state_4 : decode cN_state 4 = .ok (.iload_n 1, 1) := by decide +kernel
theorem dN_state_5 : decode cN_state 5 = .ok (.invokevirtual 101, 3) := by decide +kernel
theorem dN_state_8 : decode cN_state 8 = .ok (.ifCond .eq 15, 3) := by decide +kernel
theorem dN_state_11 : decode cN_state 11 = .ok (.aload_n 0, 1) := by decide +kernel
theorem dN_state_12 : decode cN_state 12 = .ok (.getfield 36, 3) := by decide +kernel
theorem dN_state_15 : decode cN_state 15 = .ok (.getfield 138, 3) := by decide +kernel
theorem dN_state_18 : decode cN_state 18 = .ok (.iload_n 1, 1) := by decide +kernel
theorem dN_state_19 : decode cN_state 19 = .ok (.iaload, 1) := by decide +kernel
theorem dN_state_20 : decode cN_state 20 = .ok (.goto 4, 3) := by decide +kernel
theorem dN_state_23 : decode cN_state 23 = .ok (.iconst (-1), 1) := by decide +kernel
theorem dN_state_24 : decode cN_state 24 = .ok (.ireturn, 1) := by decide +kernel
theorem dN_root_0 : decode cN_root 0 = .ok (.aload_n 0, 1) := by decide +kernel
theorem dN_root_1 : decode cN_root 1 = .ok (.getfield 20, 3) := by decide +kernel
theorem dN_root_4 : decode cN_root 4 = .ok (.iload_n 1, 1) := by decide +kernel
theorem dN_root_5 : decode cN_root 5 = .ok (.invokevirtual 141, 3) := by decide +kernel
theorem dN_root_8 : decode cN_root 8 = .ok (.ifCond .ne 5, 3) := by decide +kernel
theorem dN_root_11 : decode cN_root 11 = .ok (.iconst (-1), 1) := by decide +kernel
theorem dN_root_12 : decode cN_root 12 = .ok (.ireturn, 1) := by decide +kernel
theorem dN_root_13 : decode cN_root 13 = .ok (.aload_n 0, 1) := by decide +kernel
theorem dN_root_14 : decode cN_root 14 = .ok (.getfield 36, 3) := by decide +kernel
theorem dN_root_17 : decode cN_root 17 = .ok (.iload_n 1, 1) := by decide +kernel
theorem dN_root_18 : decode cN_root 18 = .ok (.invokevirtual 144, 3) := by decide +kernel
theorem dN_root_21 : decode cN_root 21 = .ok (.ifCond .eq 7, 3) := by decide +kernel
theorem dN_root_24 : decode cN_root 24 = .ok (.iconst 1, 1) := by decide +kernel
theorem dN_root_25 : decode cN_root 25 = .ok (.goto 4, 3) := by decide +kernel
theorem dN_root_28 : decode cN_root 28 = .ok (.iconst 0, 1) := by decide +kernel
theorem dN_root_29 : decode cN_root 29 = .ok (.istore_n 2, 1) := by decide +kernel
theorem dN_root_30 : decode cN_root 30 = .ok (.aload_n 0, 1) := by decide +kernel
theorem dN_root_31 : decode cN_root 31 = .ok (.getfield 36, 3) := by decide +kernel
theorem dN_root_34 : decode cN_root 34 = .ok (.getfield 147, 3) := by decide +kernel
theorem dN_root_37 : decode cN_root 37 = .ok (.iload_n 1, 1) := by decide +kernel
theorem dN_root_38 : decode cN_root 38 = .ok (.iaload, 1) := by decide +kernel
theorem dN_root_39 : decode cN_root 39 = .ok (.sipush 2048, 3) := by decide +kernel
theorem dN_root_42 : decode cN_root 42 = .ok (.imul, 1) := by decide +kernel
theorem dN_root_43 : decode cN_root 43 = .ok (.aload_n 0, 1) := by decide +kernel
theorem dN_root_44 : decode cN_root 44 = .ok (.getfield 36, 3) := by decide +kernel
theorem dN_root_47 : decode cN_root 47 = .ok (.getfield 150, 3) := by decide +kernel
theorem dN_root_50 : decode cN_root 50 = .ok (.iload_n 1, 1) := by decide +kernel
theorem dN_root_51 : decode cN_root 51 = .ok (.iaload, 1) := by decide +kernel
theorem dN_root_52 : decode cN_root 52 = .ok (.iconst 2, 1) := by decide +kernel
theorem dN_root_53 : decode cN_root 53 = .ok (.imul, 1) := by decide +kernel
theorem dN_root_54 : decode cN_root 54 = .ok (.iadd, 1) := by decide +kernel
theorem dN_root_55 : decode cN_root 55 = .ok (.iload_n 2, 1) := by decide +kernel
theorem dN_root_56 : decode cN_root 56 = .ok (.iadd, 1) := by decide +kernel
theorem dN_root_57 : decode cN_root 57 = .ok (.ireturn, 1) := by decide +kernel
theorem dN_held_0 : decode cN_held 0 = .ok (.aload_n 0, 1) := by decide +kernel
theorem dN_held_1 : decode cN_held 1 = .ok (.getfield 20, 3) := by decide +kernel
theorem dN_held_4 : decode cN_held 4 = .ok (.iload_n 1, 1) := by decide +kernel
theorem dN_held_5 : decode cN_held 5 = .ok (.invokevirtual 101, 3) := by decide +kernel
theorem dN_held_8 : decode cN_held 8 = .ok (.ifCond .eq 24, 3) := by decide +kernel
theorem dN_held_11 : decode cN_held 11 = .ok (.aload_n 0, 1) := by decide +kernel
theorem dN_held_12 : decode cN_held 12 = .ok (.getfield 36, 3) := by decide +kernel
theorem dN_held_15 : decode cN_held 15 = .ok (.getfield 153, 3) := by decide +kernel
theorem dN_held_18 : decode cN_held 18 = .ok (.iload_n 1, 1) := by decide +kernel
theorem dN_held_19 : decode cN_held 19 = .ok (.baload, 1) := by decide +kernel
theorem dN_held_20 : decode cN_held 20 = .ok (.ifCond .eq 12, 3) := by decide +kernel
theorem dN_held_23 : decode cN_held 23 = .ok (.iload_n 2, 1) := by decide +kernel
theorem dN_held_24 : decode cN_held 24 = .ok (.iconst 0, 1) := by decide +kernel
theorem dN_held_25 : decode cN_held 25 = .ok (.iconst 5, 1) := by decide +kernel
theorem dN_held_26 : decode cN_held 26 = .ok (.invokestatic 62, 3) := by decide +kernel
theorem dN_held_29 : decode cN_held 29 = .ok (.ifCond .ne 5, 3) := by decide +kernel
theorem dN_held_32 : decode cN_held 32 = .ok (.iconst (-1), 1) := by decide +kernel
theorem dN_held_33 : decode cN_held 33 = .ok (.ireturn, 1) := by decide +kernel
theorem dN_held_34 : decode cN_held 34 = .ok (.aload_n 0, 1) := by decide +kernel
theorem dN_held_35 : decode cN_held 35 = .ok (.getfield 36, 3) := by decide +kernel
theorem dN_held_38 : decode cN_held 38 = .ok (.getfield 156, 3) := by decide +kernel
theorem dN_held_41 : decode cN_held 41 = .ok (.bipush 6, 2) := by decide +kernel
theorem dN_held_43 : decode cN_held 43 = .ok (.iload_n 1, 1) := by decide +kernel
theorem dN_held_44 : decode cN_held 44 = .ok (.imul, 1) := by decide +kernel
theorem dN_held_45 : decode cN_held 45 = .ok (.iload_n 2, 1) := by decide +kernel
theorem dN_held_46 : decode cN_held 46 = .ok (.iadd, 1) := by decide +kernel
theorem dN_held_47 : decode cN_held 47 = .ok (.iaload, 1) := by decide +kernel
theorem dN_held_48 : decode cN_held 48 = .ok (.ireturn, 1) := by decide +kernel
theorem dN_learned_0 : decode cN_learned 0 = .ok (.aload_n 0, 1) := by decide +kernel
theorem dN_learned_1 : decode cN_learned 1 = .ok (.getfield 20, 3) := by decide +kernel
theorem dN_learned_4 : decode cN_learned 4 = .ok (.iload_n 1, 1) := by decide +kernel
theorem dN_learned_5 : decode cN_learned 5 = .ok (.invokevirtual 141, 3) := by decide +kernel
theorem dN_learned_8 : decode cN_learned 8 = .ok (.ifCond .eq 20, 3) := by decide +kernel
theorem dN_learned_11 : decode cN_learned 11 = .ok (.iload_n 2, 1) := by decide +kernel
theorem dN_learned_12 : decode cN_learned 12 = .ok (.invokestatic 86, 3) := by decide +kernel
theorem dN_learned_15 : decode cN_learned 15 = .ok (.ifCond .eq 13, 3) := by decide +kernel
theorem dN_learned_18 : decode cN_learned 18 = .ok (.iload_n 3, 1) := by decide +kernel
theorem dN_learned_19 : decode cN_learned 19 = .ok (.iconst 0, 1) := by decide +kernel
theorem dN_learned_20 : decode cN_learned 20 = .ok (.bipush 6, 2) := by decide +kernel
theorem dN_learned_22 : decode cN_learned 22 = .ok (.invokestatic 62, 3) := by decide +kernel
theorem dN_learned_25 : decode cN_learned 25 = .ok (.ifCond .ne 5, 3) := by decide +kernel
theorem dN_learned_28 : decode cN_learned 28 = .ok (.iconst (-1), 1) := by decide +kernel
theorem dN_learned_29 : decode cN_learned 29 = .ok (.ireturn, 1) := by decide +kernel
theorem dN_learned_30 : decode cN_learned 30 = .ok (.aload_n 0, 1) := by decide +kernel
theorem dN_learned_31 : decode cN_learned 31 = .ok (.getfield 43, 3) := by decide +kernel
theorem dN_learned_34 : decode cN_learned 34 = .ok (.iload_n 1, 1) := by decide +kernel
theorem dN_learned_35 : decode cN_learned 35 = .ok (.iload_n 2, 1) := by decide +kernel
theorem dN_learned_36 : decode cN_learned 36 = .ok (.iload_n 3, 1) := by decide +kernel
theorem dN_learned_37 : decode cN_learned 37 = .ok (.invokevirtual 159, 3) := by decide +kernel
theorem dN_learned_40 : decode cN_learned 40 = .ok (.ireturn, 1) := by decide +kernel
theorem dN_entries_0 : decode cN_entries 0 = .ok (.aload_n 0, 1) := by decide +kernel
theorem dN_entries_1 : decode cN_entries 1 = .ok (.getfield 20, 3) := by decide +kernel
theorem dN_entries_4 : decode cN_entries 4 = .ok (.iload_n 1, 1) := by decide +kernel
theorem dN_entries_5 : decode cN_entries 5 = .ok (.invokevirtual 141, 3) := by decide +kernel
theorem dN_entries_8 : decode cN_entries 8 = .ok (.ifCond .eq 14, 3) := by decide +kernel
theorem dN_entries_11 : decode cN_entries 11 = .ok (.aload_n 0, 1) := by decide +kernel
theorem dN_entries_12 : decode cN_entries 12 = .ok (.getfield 43, 3) := by decide +kernel
theorem dN_entries_15 : decode cN_entries 15 = .ok (.iload_n 1, 1) := by decide +kernel
theorem dN_entries_16 : decode cN_entries 16 = .ok (.invokevirtual 162, 3) := by decide +kernel
theorem dN_entries_19 : decode cN_entries 19 = .ok (.goto 4, 3) := by decide +kernel
theorem dN_entries_22 : decode cN_entries 22 = .ok (.iconst (-1), 1) := by decide +kernel
theorem dN_entries_23 : decode cN_entries 23 = .ok (.ireturn, 1) := by decide +kernel
theorem dN_send_0 : decode cN_send 0 = .ok (.aload_n 0, 1) := by decide +kernel
theorem dN_send_1 : decode cN_send 1 = .ok (.getfield 20, 3) := by decide +kernel
theorem dN_send_4 : decode cN_send 4 = .ok (.iload_n 1, 1) := by decide +kernel
theorem dN_send_5 : decode cN_send 5 = .ok (.invokevirtual 165, 3) := by decide +kernel
theorem dN_send_8 : decode cN_send 8 = .ok (.ifCond .eq 11, 3) := by decide +kernel
theorem dN_send_11 : decode cN_send 11 = .ok (.aload_n 0, 1) := by decide +kernel
theorem dN_send_12 : decode cN_send 12 = .ok (.iload_n 2, 1) := by decide +kernel
theorem dN_send_13 : decode cN_send 13 = .ok (.invokevirtual 168, 3) := by decide +kernel
theorem dN_send_16 : decode cN_send 16 = .ok (.ifCond .ne 5, 3) := by decide +kernel
theorem dN_send_19 : decode cN_send 19 = .ok (.iconst (-1), 1) := by decide +kernel
theorem dN_send_20 : decode cN_send 20 = .ok (.ireturn, 1) := by decide +kernel
theorem dN_send_21 : decode cN_send 21 = .ok (.aload_n 0, 1) := by decide +kernel
theorem dN_send_22 : decode cN_send 22 = .ok (.getfield 52, 3) := by decide +kernel
theorem dN_send_25 : decode cN_send 25 = .ok (.invokevirtual 171, 3) := by decide +kernel
theorem dN_send_28 : decode cN_send 28 = .ok (.aload_n 0, 1) := by decide +kernel
theorem dN_send_29 : decode cN_send 29 = .ok (.getfield 52, 3) := by decide +kernel
theorem dN_send_32 : decode cN_send 32 = .ok (.iload_n 1, 1) := by decide +kernel
theorem dN_send_33 : decode cN_send 33 = .ok (.iload_n 2, 1) := by decide +kernel
theorem dN_send_34 : decode cN_send 34 = .ok (.invokevirtual 174, 3) := by decide +kernel
theorem dN_send_37 : decode cN_send 37 = .ok (.ireturn, 1) := by decide +kernel
theorem dN_ask_0 : decode cN_ask 0 = .ok (.aload_n 0, 1) := by decide +kernel
theorem dN_ask_1 : decode cN_ask 1 = .ok (.getfield 20, 3) := by decide +kernel
theorem dN_ask_4 : decode cN_ask 4 = .ok (.iload_n 1, 1) := by decide +kernel
theorem dN_ask_5 : decode cN_ask 5 = .ok (.invokevirtual 165, 3) := by decide +kernel
theorem dN_ask_8 : decode cN_ask 8 = .ok (.ifCond .eq 14, 3) := by decide +kernel
theorem dN_ask_11 : decode cN_ask 11 = .ok (.aload_n 0, 1) := by decide +kernel
theorem dN_ask_12 : decode cN_ask 12 = .ok (.getfield 20, 3) := by decide +kernel
theorem dN_ask_15 : decode cN_ask 15 = .ok (.iload_n 2, 1) := by decide +kernel
theorem dN_ask_16 : decode cN_ask 16 = .ok (.invokevirtual 165, 3) := by decide +kernel
theorem dN_ask_19 : decode cN_ask 19 = .ok (.ifCond .ne 5, 3) := by decide +kernel
theorem dN_ask_22 : decode cN_ask 22 = .ok (.iconst (-1), 1) := by decide +kernel
theorem dN_ask_23 : decode cN_ask 23 = .ok (.ireturn, 1) := by decide +kernel
theorem dN_ask_24 : decode cN_ask 24 = .ok (.aload_n 0, 1) := by decide +kernel
theorem dN_ask_25 : decode cN_ask 25 = .ok (.getfield 20, 3) := by decide +kernel
theorem dN_ask_28 : decode cN_ask 28 = .ok (.getfield 177, 3) := by decide +kernel
theorem dN_ask_31 : decode cN_ask 31 = .ok (.iload_n 1, 1) := by decide +kernel
theorem dN_ask_32 : decode cN_ask 32 = .ok (.iaload, 1) := by decide +kernel
theorem dN_ask_33 : decode cN_ask 33 = .ok (.aload_n 0, 1) := by decide +kernel
theorem dN_ask_34 : decode cN_ask 34 = .ok (.getfield 20, 3) := by decide +kernel
theorem dN_ask_37 : decode cN_ask 37 = .ok (.getfield 177, 3) := by decide +kernel
theorem dN_ask_40 : decode cN_ask 40 = .ok (.iload_n 2, 1) := by decide +kernel
theorem dN_ask_41 : decode cN_ask 41 = .ok (.iaload, 1) := by decide +kernel
theorem dN_ask_42 : decode cN_ask 42 = .ok (.if_icmp .eq 7, 3) := by decide +kernel
theorem dN_ask_45 : decode cN_ask 45 = .ok (.iconst 1, 1) := by decide +kernel
theorem dN_ask_46 : decode cN_ask 46 = .ok (.goto 4, 3) := by decide +kernel
theorem dN_ask_49 : decode cN_ask 49 = .ok (.iconst 0, 1) := by decide +kernel
theorem dN_ask_50 : decode cN_ask 50 = .ok (.istore 4, 2) := by decide +kernel
theorem dN_ask_52 : decode cN_ask 52 = .ok (.iload 4, 2) := by decide +kernel
theorem dN_ask_54 : decode cN_ask 54 = .ok (.ifCond .eq 15, 3) := by decide +kernel
theorem dN_ask_57 : decode cN_ask 57 = .ok (.aload_n 0, 1) := by decide +kernel
theorem dN_ask_58 : decode cN_ask 58 = .ok (.getfield 20, 3) := by decide +kernel
theorem dN_ask_61 : decode cN_ask 61 = .ok (.invokevirtual 93, 3) := by decide +kernel
theorem dN_ask_64 : decode cN_ask 64 = .ok (.ifCond .ne 5, 3) := by decide +kernel
theorem dN_ask_67 : decode cN_ask 67 = .ok (.iconst (-1), 1) := by decide +kernel
theorem dN_ask_68 : decode cN_ask 68 = .ok (.ireturn, 1) := by decide +kernel
theorem dN_ask_69 : decode cN_ask 69 = .ok (.aload_n 0, 1) := by decide +kernel
theorem dN_ask_70 : decode cN_ask 70 = .ok (.getfield 52, 3) := by decide +kernel
theorem dN_ask_73 : decode cN_ask 73 = .ok (.invokevirtual 171, 3) := by decide +kernel
theorem dN_ask_76 : decode cN_ask 76 = .ok (.iload 4, 2) := by decide +kernel
theorem dN_ask_78 : decode cN_ask 78 = .ok (.ifCond .eq 8, 3) := by decide +kernel
theorem dN_ask_81 : decode cN_ask 81 = .ok (.bipush 8, 2) := by decide +kernel
theorem dN_ask_83 : decode cN_ask 83 = .ok (.goto 4, 3) := by decide +kernel
theorem dN_ask_86 : decode cN_ask 86 = .ok (.iconst 4, 1) := by decide +kernel
theorem dN_ask_87 : decode cN_ask 87 = .ok (.istore 5, 2) := by decide +kernel
theorem dN_ask_89 : decode cN_ask 89 = .ok (.iconst 0, 1) := by decide +kernel
theorem dN_ask_90 : decode cN_ask 90 = .ok (.istore 6, 2) := by decide +kernel
theorem dN_ask_92 : decode cN_ask 92 = .ok (.iload 6, 2) := by decide +kernel
theorem dN_ask_94 : decode cN_ask 94 = .ok (.iload 5, 2) := by decide +kernel
theorem dN_ask_96 : decode cN_ask 96 = .ok (.if_icmp .ge 39, 3) := by decide +kernel
theorem dN_ask_99 : decode cN_ask 99 = .ok (.iload 4, 2) := by decide +kernel
theorem dN_ask_101 : decode cN_ask 101 = .ok (.ifCond .eq 17, 3) := by decide +kernel
theorem dN_ask_104 : decode cN_ask 104 = .ok (.aload_n 0, 1) := by decide +kernel
theorem dN_ask_105 : decode cN_ask 105 = .ok (.iload 6, 2) := by decide +kernel
theorem dN_ask_107 : decode cN_ask 107 = .ok (.iload_n 1, 1) := by decide +kernel
theorem dN_ask_108 : decode cN_ask 108 = .ok (.iload_n 2, 1) := by decide +kernel
theorem dN_ask_109 : decode cN_ask 109 = .ok (.invokevirtual 180, 3) := by decide +kernel
theorem dN_ask_112 : decode cN_ask 112 = .ok (.ifCond .eq 23, 3) := by decide +kernel
theorem dN_ask_115 : decode cN_ask 115 = .ok (.goto 14, 3) := by decide +kernel
theorem dN_ask_118 : decode cN_ask 118 = .ok (.aload_n 0, 1) := by decide +kernel
theorem dN_ask_119 : decode cN_ask 119 = .ok (.iload 6, 2) := by decide +kernel
theorem dN_ask_121 : decode cN_ask 121 = .ok (.iload_n 1, 1) := by decide +kernel
theorem dN_ask_122 : decode cN_ask 122 = .ok (.iload_n 2, 1) := by decide +kernel
theorem dN_ask_123 : decode cN_ask 123 = .ok (.invokevirtual 183, 3) := by decide +kernel
theorem dN_ask_126 : decode cN_ask 126 = .ok (.ifCond .eq 9, 3) := by decide +kernel
theorem dN_ask_129 : decode cN_ask 129 = .ok (.iinc 6 1, 3) := by decide +kernel
theorem dN_ask_132 : decode cN_ask 132 = .ok (.goto (-40), 3) := by decide +kernel
theorem dN_ask_135 : decode cN_ask 135 = .ok (.iload 6, 2) := by decide +kernel
theorem dN_ask_137 : decode cN_ask 137 = .ok (.iload 5, 2) := by decide +kernel
theorem dN_ask_139 : decode cN_ask 139 = .ok (.if_icmp .ne 13, 3) := by decide +kernel
theorem dN_ask_142 : decode cN_ask 142 = .ok (.aload_n 0, 1) := by decide +kernel
theorem dN_ask_143 : decode cN_ask 143 = .ok (.bipush 31, 2) := by decide +kernel
theorem dN_ask_145 : decode cN_ask 145 = .ok (.iload_n 3, 1) := by decide +kernel
theorem dN_ask_146 : decode cN_ask 146 = .ok (.imul, 1) := by decide +kernel
theorem dN_ask_147 : decode cN_ask 147 = .ok (.iload_n 2, 1) := by decide +kernel
theorem dN_ask_148 : decode cN_ask 148 = .ok (.iadd, 1) := by decide +kernel
theorem dN_ask_149 : decode cN_ask 149 = .ok (.putfield 56, 3) := by decide +kernel
theorem dN_ask_152 : decode cN_ask 152 = .ok (.iload 6, 2) := by decide +kernel
theorem dN_ask_154 : decode cN_ask 154 = .ok (.ireturn, 1) := by decide +kernel
theorem dN_answer_0 : decode cN_answer 0 = .ok (.aload_n 0, 1) := by decide +kernel
theorem dN_answer_1 : decode cN_answer 1 = .ok (.getfield 56, 3) := by decide +kernel
theorem dN_answer_4 : decode cN_answer 4 = .ok (.ireturn, 1) := by decide +kernel
theorem dN_crossings_0 : decode cN_crossings 0 = .ok (.aload_n 0, 1) := by decide +kernel
theorem dN_crossings_1 : decode cN_crossings 1 = .ok (.getfield 52, 3) := by decide +kernel
theorem dN_crossings_4 : decode cN_crossings 4 = .ok (.getfield 186, 3) := by decide +kernel
theorem dN_crossings_7 : decode cN_crossings 7 = .ok (.ireturn, 1) := by decide +kernel
theorem dN_forgetOldEntries_0 : decode cN_forgetOldEntries 0 = .ok (.iconst 0, 1) := by decide +kernel
theorem dN_forgetOldEntries_1 : decode cN_forgetOldEntries 1 = .ok (.istore_n 1, 1) := by decide +kernel
theorem dN_forgetOldEntries_2 : decode cN_forgetOldEntries 2 = .ok (.iload_n 1, 1) := by decide +kernel
theorem dN_forgetOldEntries_3 : decode cN_forgetOldEntries 3 = .ok (.aload_n 0, 1) := by decide +kernel
theorem dN_forgetOldEntries_4 : decode cN_forgetOldEntries 4 = .ok (.getfield 20, 3) := by decide +kernel
theorem dN_forgetOldEntries_7 : decode cN_forgetOldEntries 7 = .ok (.getfield 59, 3) := by decide +kernel
theorem dN_forgetOldEntries_10 : decode cN_forgetOldEntries 10 = .ok (.if_icmp .ge 49, 3) := by decide +kernel
theorem dN_forgetOldEntries_13 : decode cN_forgetOldEntries 13 = .ok (.aload_n 0, 1) := by decide +kernel
theorem dN_forgetOldEntries_14 : decode cN_forgetOldEntries 14 = .ok (.getfield 43, 3) := by decide +kernel
theorem dN_forgetOldEntries_17 : decode cN_forgetOldEntries 17 = .ok (.iload_n 1, 1) := by decide +kernel
theorem dN_forgetOldEntries_18 : decode cN_forgetOldEntries 18 = .ok (.aload_n 0, 1) := by decide +kernel
theorem dN_forgetOldEntries_19 : decode cN_forgetOldEntries 19 = .ok (.getfield 36, 3) := by decide +kernel
theorem dN_forgetOldEntries_22 : decode cN_forgetOldEntries 22 = .ok (.getfield 132, 3) := by decide +kernel
theorem dN_forgetOldEntries_25 : decode cN_forgetOldEntries 25 = .ok (.aload_n 0, 1) := by decide +kernel
theorem dN_forgetOldEntries_26 : decode cN_forgetOldEntries 26 = .ok (.getfield 36, 3) := by decide +kernel
theorem dN_forgetOldEntries_29 : decode cN_forgetOldEntries 29 = .ok (.iload_n 1, 1) := by decide +kernel
theorem dN_forgetOldEntries_30 : decode cN_forgetOldEntries 30 = .ok (.invokevirtual 144, 3) := by decide +kernel
theorem dN_forgetOldEntries_33 : decode cN_forgetOldEntries 33 = .ok (.ifCond .eq 13, 3) := by decide +kernel
theorem dN_forgetOldEntries_36 : decode cN_forgetOldEntries 36 = .ok (.aload_n 0, 1) := by decide +kernel
theorem dN_forgetOldEntries_37 : decode cN_forgetOldEntries 37 = .ok (.getfield 36, 3) := by decide +kernel
theorem dN_forgetOldEntries_40 : decode cN_forgetOldEntries 40 = .ok (.getfield 189, 3) := by decide +kernel
theorem dN_forgetOldEntries_43 : decode cN_forgetOldEntries 43 = .ok (.goto 7, 3) := by decide +kernel
theorem dN_forgetOldEntries_46 : decode cN_forgetOldEntries 46 = .ok (.aload_n 0, 1) := by decide +kernel
theorem dN_forgetOldEntries_47 : decode cN_forgetOldEntries 47 = .ok (.getfield 13, 3) := by decide +kernel
theorem dN_forgetOldEntries_50 : decode cN_forgetOldEntries 50 = .ok (.invokevirtual 192, 3) := by decide +kernel
theorem dN_forgetOldEntries_53 : decode cN_forgetOldEntries 53 = .ok (.iinc 1 1, 3) := by decide +kernel
theorem dN_forgetOldEntries_56 : decode cN_forgetOldEntries 56 = .ok (.goto (-54), 3) := by decide +kernel
theorem dN_forgetOldEntries_59 : decode cN_forgetOldEntries 59 = .ok (.return_, 1) := by decide +kernel
theorem dN_isDestination_0 : decode cN_isDestination 0 = .ok (.iload_n 1, 1) := by decide +kernel
theorem dN_isDestination_1 : decode cN_isDestination 1 = .ok (.iconst (-1), 1) := by decide +kernel
theorem dN_isDestination_2 : decode cN_isDestination 2 = .ok (.if_icmp .eq 30, 3) := by decide +kernel
theorem dN_isDestination_5 : decode cN_isDestination 5 = .ok (.aload_n 0, 1) := by decide +kernel
theorem dN_isDestination_6 : decode cN_isDestination 6 = .ok (.getfield 20, 3) := by decide +kernel
theorem dN_isDestination_9 : decode cN_isDestination 9 = .ok (.iload_n 1, 1) := by decide +kernel
theorem dN_isDestination_10 : decode cN_isDestination 10 = .ok (.invokevirtual 165, 3) := by decide +kernel
theorem dN_isDestination_13 : decode cN_isDestination 13 = .ok (.ifCond .ne 19, 3) := by decide +kernel
theorem dN_isDestination_16 : decode cN_isDestination 16 = .ok (.iload_n 1, 1) := by decide +kernel
theorem dN_isDestination_17 : decode cN_isDestination 17 = .ok (.bipush 6, 2) := by decide +kernel
theorem dN_isDestination_19 : decode cN_isDestination 19 = .ok (.if_icmp .ne 17, 3) := by decide +kernel
theorem dN_isDestination_22 : decode cN_isDestination 22 = .ok (.aload_n 0, 1) := by decide +kernel
theorem dN_isDestination_23 : decode cN_isDestination 23 = .ok (.getfield 20, 3) := by decide +kernel
theorem dN_isDestination_26 : decode cN_isDestination 26 = .ok (.invokevirtual 93, 3) := by decide +kernel
theorem dN_isDestination_29 : decode cN_isDestination 29 = .ok (.ifCond .eq 7, 3) := by decide +kernel
theorem dN_isDestination_32 : decode cN_isDestination 32 = .ok (.iconst 1, 1) := by decide +kernel
theorem dN_isDestination_33 : decode cN_isDestination 33 = .ok (.goto 4, 3) := by decide +kernel
theorem dN_isDestination_36 : decode cN_isDestination 36 = .ok (.iconst 0, 1) := by decide +kernel
theorem dN_isDestination_37 : decode cN_isDestination 37 = .ok (.ireturn, 1) := by decide +kernel
theorem dN_directStep_0 : decode cN_directStep 0 = .ok (.iload_n 1, 1) := by decide +kernel
theorem dN_directStep_1 : decode cN_directStep 1 = .ok (.lookupswitch 55 #[(0, 27), (2, 41)], 27) := by decide +kernel
theorem dN_directStep_28 : decode cN_directStep 28 = .ok (.aload_n 0, 1) := by decide +kernel
theorem dN_directStep_29 : decode cN_directStep 29 = .ok (.getfield 52, 3) := by decide +kernel
theorem dN_directStep_32 : decode cN_directStep 32 = .ok (.iload_n 2, 1) := by decide +kernel
theorem dN_directStep_33 : decode cN_directStep 33 = .ok (.iconst (-1), 1) := by decide +kernel
theorem dN_directStep_34 : decode cN_directStep 34 = .ok (.invokevirtual 174, 3) := by decide +kernel
theorem dN_directStep_37 : decode cN_directStep 37 = .ok (.iload_n 3, 1) := by decide +kernel
theorem dN_directStep_38 : decode cN_directStep 38 = .ok (.invokestatic 195, 3) := by decide +kernel
theorem dN_directStep_41 : decode cN_directStep 41 = .ok (.ireturn, 1) := by decide +kernel
theorem dN_directStep_42 : decode cN_directStep 42 = .ok (.aload_n 0, 1) := by decide +kernel
theorem dN_directStep_43 : decode cN_directStep 43 = .ok (.getfield 52, 3) := by decide +kernel
theorem dN_directStep_46 : decode cN_directStep 46 = .ok (.iload_n 2, 1) := by decide +kernel
theorem dN_directStep_47 : decode cN_directStep 47 = .ok (.iload_n 3, 1) := by decide +kernel
theorem dN_directStep_48 : decode cN_directStep 48 = .ok (.invokevirtual 174, 3) := by decide +kernel
theorem dN_directStep_51 : decode cN_directStep 51 = .ok (.iload_n 3, 1) := by decide +kernel
theorem dN_directStep_52 : decode cN_directStep 52 = .ok (.invokestatic 195, 3) := by decide +kernel
theorem dN_directStep_55 : decode cN_directStep 55 = .ok (.ireturn, 1) := by decide +kernel
theorem dN_directStep_56 : decode cN_directStep 56 = .ok (.aload_n 0, 1) := by decide +kernel
theorem dN_directStep_57 : decode cN_directStep 57 = .ok (.getfield 52, 3) := by decide +kernel
theorem dN_directStep_60 : decode cN_directStep 60 = .ok (.iload_n 3, 1) := by decide +kernel
theorem dN_directStep_61 : decode cN_directStep 61 = .ok (.iload_n 2, 1) := by decide +kernel
theorem dN_directStep_62 : decode cN_directStep 62 = .ok (.invokevirtual 174, 3) := by decide +kernel
theorem dN_directStep_65 : decode cN_directStep 65 = .ok (.iload_n 2, 1) := by decide +kernel
theorem dN_directStep_66 : decode cN_directStep 66 = .ok (.invokestatic 195, 3) := by decide +kernel
theorem dN_directStep_69 : decode cN_directStep 69 = .ok (.ireturn, 1) := by decide +kernel
theorem dN_routedStep_0 : decode cN_routedStep 0 = .ok (.iload_n 1, 1) := by decide +kernel
theorem dN_routedStep_1 : decode cN_routedStep 1 = .ok (.tableswitch 134 0 6 #[43, 134, 58, 74, 96, 112, 96], 43) := by decide +kernel
theorem dN_routedStep_44 : decode cN_routedStep 44 = .ok (.aload_n 0, 1) := by decide +kernel
theorem dN_routedStep_45 : decode cN_routedStep 45 = .ok (.getfield 52, 3) := by decide +kernel
theorem dN_routedStep_48 : decode cN_routedStep 48 = .ok (.iload_n 2, 1) := by decide +kernel
theorem dN_routedStep_49 : decode cN_routedStep 49 = .ok (.iconst (-1), 1) := by decide +kernel
theorem dN_routedStep_50 : decode cN_routedStep 50 = .ok (.invokevirtual 174, 3) := by decide +kernel
theorem dN_routedStep_53 : decode cN_routedStep 53 = .ok (.bipush 6, 2) := by decide +kernel
theorem dN_routedStep_55 : decode cN_routedStep 55 = .ok (.invokestatic 195, 3) := by decide +kernel
theorem dN_routedStep_58 : decode cN_routedStep 58 = .ok (.ireturn, 1) := by decide +kernel
theorem dN_routedStep_59 : decode cN_routedStep 59 = .ok (.aload_n 0, 1) := by decide +kernel
theorem dN_routedStep_60 : decode cN_routedStep 60 = .ok (.getfield 52, 3) := by decide +kernel
theorem dN_routedStep_63 : decode cN_routedStep 63 = .ok (.iload_n 2, 1) := by decide +kernel
theorem dN_routedStep_64 : decode cN_routedStep 64 = .ok (.bipush 6, 2) := by decide +kernel
theorem dN_routedStep_66 : decode cN_routedStep 66 = .ok (.invokevirtual 174, 3) := by decide +kernel
theorem dN_routedStep_69 : decode cN_routedStep 69 = .ok (.bipush 6, 2) := by decide +kernel
theorem dN_routedStep_71 : decode cN_routedStep 71 = .ok (.invokestatic 195, 3) := by decide +kernel
theorem dN_routedStep_74 : decode cN_routedStep 74 = .ok (.ireturn, 1) := by decide +kernel
theorem dN_routedStep_75 : decode cN_routedStep 75 = .ok (.aload_n 0, 1) := by decide +kernel
theorem dN_routedStep_76 : decode cN_routedStep 76 = .ok (.getfield 52, 3) := by decide +kernel
theorem dN_routedStep_79 : decode cN_routedStep 79 = .ok (.aload_n 0, 1) := by decide +kernel
theorem dN_routedStep_80 : decode cN_routedStep 80 = .ok (.getfield 20, 3) := by decide +kernel
theorem dN_routedStep_83 : decode cN_routedStep 83 = .ok (.getfield 177, 3) := by decide +kernel
theorem dN_routedStep_86 : decode cN_routedStep 86 = .ok (.iload_n 3, 1) := by decide +kernel
theorem dN_routedStep_87 : decode cN_routedStep 87 = .ok (.iaload, 1) := by decide +kernel
theorem dN_routedStep_88 : decode cN_routedStep 88 = .ok (.iconst (-1), 1) := by decide +kernel
theorem dN_routedStep_89 : decode cN_routedStep 89 = .ok (.invokevirtual 199, 3) := by decide +kernel
theorem dN_routedStep_92 : decode cN_routedStep 92 = .ok (.iload_n 3, 1) := by decide +kernel
theorem dN_routedStep_93 : decode cN_routedStep 93 = .ok (.invokestatic 195, 3) := by decide +kernel
theorem dN_routedStep_96 : decode cN_routedStep 96 = .ok (.ireturn, 1) := by decide +kernel
theorem dN_routedStep_97 : decode cN_routedStep 97 = .ok (.aload_n 0, 1) := by decide +kernel
theorem dN_routedStep_98 : decode cN_routedStep 98 = .ok (.getfield 52, 3) := by decide +kernel
theorem dN_routedStep_101 : decode cN_routedStep 101 = .ok (.iload_n 3, 1) := by decide +kernel
theorem dN_routedStep_102 : decode cN_routedStep 102 = .ok (.bipush 6, 2) := by decide +kernel
theorem dN_routedStep_104 : decode cN_routedStep 104 = .ok (.invokevirtual 174, 3) := by decide +kernel
theorem dN_routedStep_107 : decode cN_routedStep 107 = .ok (.bipush 6, 2) := by decide +kernel
theorem dN_routedStep_109 : decode cN_routedStep 109 = .ok (.invokestatic 195, 3) := by decide +kernel
theorem dN_routedStep_112 : decode cN_routedStep 112 = .ok (.ireturn, 1) := by decide +kernel
theorem dN_routedStep_113 : decode cN_routedStep 113 = .ok (.aload_n 0, 1) := by decide +kernel
theorem dN_routedStep_114 : decode cN_routedStep 114 = .ok (.getfield 52, 3) := by decide +kernel
theorem dN_routedStep_117 : decode cN_routedStep 117 = .ok (.aload_n 0, 1) := by decide +kernel
theorem dN_routedStep_118 : decode cN_routedStep 118 = .ok (.getfield 20, 3) := by decide +kernel
theorem dN_routedStep_121 : decode cN_routedStep 121 = .ok (.getfield 177, 3) := by decide +kernel
theorem dN_routedStep_124 : decode cN_routedStep 124 = .ok (.iload_n 3, 1) := by decide +kernel
theorem dN_routedStep_125 : decode cN_routedStep 125 = .ok (.iaload, 1) := by decide +kernel
theorem dN_routedStep_126 : decode cN_routedStep 126 = .ok (.iload_n 3, 1) := by decide +kernel
theorem dN_routedStep_127 : decode cN_routedStep 127 = .ok (.invokevirtual 199, 3) := by decide +kernel
theorem dN_routedStep_130 : decode cN_routedStep 130 = .ok (.iload_n 3, 1) := by decide +kernel
theorem dN_routedStep_131 : decode cN_routedStep 131 = .ok (.invokestatic 195, 3) := by decide +kernel
theorem dN_routedStep_134 : decode cN_routedStep 134 = .ok (.ireturn, 1) := by decide +kernel
theorem dN_routedStep_135 : decode cN_routedStep 135 = .ok (.aload_n 0, 1) := by decide +kernel
theorem dN_routedStep_136 : decode cN_routedStep 136 = .ok (.getfield 52, 3) := by decide +kernel
theorem dN_routedStep_139 : decode cN_routedStep 139 = .ok (.aload_n 0, 1) := by decide +kernel
theorem dN_routedStep_140 : decode cN_routedStep 140 = .ok (.getfield 20, 3) := by decide +kernel
theorem dN_routedStep_143 : decode cN_routedStep 143 = .ok (.getfield 177, 3) := by decide +kernel
theorem dN_routedStep_146 : decode cN_routedStep 146 = .ok (.iload_n 2, 1) := by decide +kernel
theorem dN_routedStep_147 : decode cN_routedStep 147 = .ok (.iaload, 1) := by decide +kernel
theorem dN_routedStep_148 : decode cN_routedStep 148 = .ok (.iload_n 2, 1) := by decide +kernel
theorem dN_routedStep_149 : decode cN_routedStep 149 = .ok (.invokevirtual 199, 3) := by decide +kernel
theorem dN_routedStep_152 : decode cN_routedStep 152 = .ok (.iload_n 2, 1) := by decide +kernel
theorem dN_routedStep_153 : decode cN_routedStep 153 = .ok (.invokestatic 195, 3) := by decide +kernel
theorem dN_routedStep_156 : decode cN_routedStep 156 = .ok (.ireturn, 1) := by decide +kernel
theorem dN_isNetwork_0 : decode cN_isNetwork 0 = .ok (.iload_n 0, 1) := by decide +kernel
theorem dN_isNetwork_1 : decode cN_isNetwork 1 = .ok (.iconst 0, 1) := by decide +kernel
theorem dN_isNetwork_2 : decode cN_isNetwork 2 = .ok (.iconst 3, 1) := by decide +kernel
theorem dN_isNetwork_3 : decode cN_isNetwork 3 = .ok (.invokestatic 62, 3) := by decide +kernel
theorem dN_isNetwork_6 : decode cN_isNetwork 6 = .ok (.ireturn, 1) := by decide +kernel
theorem dN_isWithin_0 : decode cN_isWithin 0 = .ok (.iload_n 0, 1) := by decide +kernel
theorem dN_isWithin_1 : decode cN_isWithin 1 = .ok (.iload_n 1, 1) := by decide +kernel
theorem dN_isWithin_2 : decode cN_isWithin 2 = .ok (.if_icmp .lt 12, 3) := by decide +kernel
theorem dN_isWithin_5 : decode cN_isWithin 5 = .ok (.iload_n 0, 1) := by decide +kernel
theorem dN_isWithin_6 : decode cN_isWithin 6 = .ok (.iload_n 2, 1) := by decide +kernel
theorem dN_isWithin_7 : decode cN_isWithin 7 = .ok (.if_icmp .gt 7, 3) := by decide +kernel
theorem dN_isWithin_10 : decode cN_isWithin 10 = .ok (.iconst 1, 1) := by decide +kernel
theorem dN_isWithin_11 : decode cN_isWithin 11 = .ok (.goto 4, 3) := by decide +kernel
theorem dN_isWithin_14 : decode cN_isWithin 14 = .ok (.iconst 0, 1) := by decide +kernel
theorem dN_isWithin_15 : decode cN_isWithin 15 = .ok (.ireturn, 1) := by decide +kernel
theorem dN_nearest_0 : decode cN_nearest 0 = .ok (.iload_n 1, 1) := by decide +kernel
theorem dN_nearest_1 : decode cN_nearest 1 = .ok (.iload_n 2, 1) := by decide +kernel
theorem dN_nearest_2 : decode cN_nearest 2 = .ok (.iload_n 0, 1) := by decide +kernel
theorem dN_nearest_3 : decode cN_nearest 3 = .ok (.invokestatic 202, 3) := by decide +kernel
theorem dN_nearest_6 : decode cN_nearest 6 = .ok (.invokestatic 207, 3) := by decide +kernel
theorem dN_nearest_9 : decode cN_nearest 9 = .ok (.ireturn, 1) := by decide +kernel
theorem dN_hasBit_0 : decode cN_hasBit 0 = .ok (.iload_n 0, 1) := by decide +kernel
theorem dN_hasBit_1 : decode cN_hasBit 1 = .ok (.iload_n 1, 1) := by decide +kernel
theorem dN_hasBit_2 : decode cN_hasBit 2 = .ok (.ishr, 1) := by decide +kernel
theorem dN_hasBit_3 : decode cN_hasBit 3 = .ok (.iconst 1, 1) := by decide +kernel
theorem dN_hasBit_4 : decode cN_hasBit 4 = .ok (.iand, 1) := by decide +kernel
theorem dN_hasBit_5 : decode cN_hasBit 5 = .ok (.iconst 1, 1) := by decide +kernel
theorem dN_hasBit_6 : decode cN_hasBit 6 = .ok (.if_icmp .ne 7, 3) := by decide +kernel
theorem dN_hasBit_9 : decode cN_hasBit 9 = .ok (.iconst 1, 1) := by decide +kernel
theorem dN_hasBit_10 : decode cN_hasBit 10 = .ok (.goto 4, 3) := by decide +kernel
theorem dN_hasBit_13 : decode cN_hasBit 13 = .ok (.iconst 0, 1) := by decide +kernel
theorem dN_hasBit_14 : decode cN_hasBit 14 = .ok (.ireturn, 1) := by decide +kernel
