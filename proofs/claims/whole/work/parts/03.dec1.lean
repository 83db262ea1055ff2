/-! what each instruction is, by program -/
theorem dP_init_0 : decode cP_init 0 = .ok (.aload_n 0, 1) := by decide +kernel
theorem dP_init_1 : decode cP_init 1 = .ok (.invokespecial 3, 3) := by decide +kernel
theorem dP_init_4 : decode cP_init 4 = .ok (.aload_n 0, 1) := by decide +kernel
theorem dP_init_5 : decode cP_init 5 = .ok (.bipush 6, 2) := by decide +kernel
theorem dP_init_7 : decode cP_init 7 = .ok (.newarray .int, 2) := by decide +kernel
theorem dP_init_9 : decode cP_init 9 = .ok (.putfield 9, 3) := by decide +kernel
theorem dP_init_12 : decode cP_init 12 = .ok (.aload_n 0, 1) := by decide +kernel
theorem dP_init_13 : decode cP_init 13 = .ok (.bipush 10, 2) := by decide +kernel
theorem dP_init_15 : decode cP_init 15 = .ok (.newarray .int, 2) := by decide +kernel
theorem dP_init_17 : decode cP_init 17 = .ok (.putfield 15, 3) := by decide +kernel
theorem dP_init_20 : decode cP_init 20 = .ok (.aload_n 0, 1) := by decide +kernel
theorem dP_init_21 : decode cP_init 21 = .ok (.bipush 10, 2) := by decide +kernel
theorem dP_init_23 : decode cP_init 23 = .ok (.newarray .int, 2) := by decide +kernel
theorem dP_init_25 : decode cP_init 25 = .ok (.putfield 18, 3) := by decide +kernel
theorem dP_init_28 : decode cP_init 28 = .ok (.aload_n 0, 1) := by decide +kernel
theorem dP_init_29 : decode cP_init 29 = .ok (.bipush 10, 2) := by decide +kernel
theorem dP_init_31 : decode cP_init 31 = .ok (.newarray .boolean, 2) := by decide +kernel
theorem dP_init_33 : decode cP_init 33 = .ok (.putfield 21, 3) := by decide +kernel
theorem dP_init_36 : decode cP_init 36 = .ok (.aload_n 0, 1) := by decide +kernel
theorem dP_init_37 : decode cP_init 37 = .ok (.bipush 6, 2) := by decide +kernel
theorem dP_init_39 : decode cP_init 39 = .ok (.newarray .int, 2) := by decide +kernel
theorem dP_init_41 : decode cP_init 41 = .ok (.putfield 25, 3) := by decide +kernel
theorem dP_init_44 : decode cP_init 44 = .ok (.aload_n 0, 1) := by decide +kernel
theorem dP_init_45 : decode cP_init 45 = .ok (.bipush 6, 2) := by decide +kernel
theorem dP_init_47 : decode cP_init 47 = .ok (.newarray .int, 2) := by decide +kernel
theorem dP_init_49 : decode cP_init 49 = .ok (.putfield 28, 3) := by decide +kernel
theorem dP_init_52 : decode cP_init 52 = .ok (.aload_n 0, 1) := by decide +kernel
theorem dP_init_53 : decode cP_init 53 = .ok (.iconst (-1), 1) := by decide +kernel
theorem dP_init_54 : decode cP_init 54 = .ok (.putfield 31, 3) := by decide +kernel
theorem dP_init_57 : decode cP_init 57 = .ok (.aload_n 0, 1) := by decide +kernel
theorem dP_init_58 : decode cP_init 58 = .ok (.bipush 24, 2) := by decide +kernel
theorem dP_init_60 : decode cP_init 60 = .ok (.newarray .int, 2) := by decide +kernel
theorem dP_init_62 : decode cP_init 62 = .ok (.putfield 35, 3) := by decide +kernel
theorem dP_init_65 : decode cP_init 65 = .ok (.aload_n 0, 1) := by decide +kernel
theorem dP_init_66 : decode cP_init 66 = .ok (.bipush 24, 2) := by decide +kernel
theorem dP_init_68 : decode cP_init 68 = .ok (.newarray .int, 2) := by decide +kernel
theorem dP_init_70 : decode cP_init 70 = .ok (.putfield 38, 3) := by decide +kernel
theorem dP_init_73 : decode cP_init 73 = .ok (.aload_n 0, 1) := by decide +kernel
theorem dP_init_74 : decode cP_init 74 = .ok (.bipush 24, 2) := by decide +kernel
theorem dP_init_76 : decode cP_init 76 = .ok (.newarray .int, 2) := by decide +kernel
theorem dP_init_78 : decode cP_init 78 = .ok (.putfield 41, 3) := by decide +kernel
theorem dP_init_81 : decode cP_init 81 = .ok (.aload_n 0, 1) := by decide +kernel
theorem dP_init_82 : decode cP_init 82 = .ok (.getfield 35, 3) := by decide +kernel
theorem dP_init_85 : decode cP_init 85 = .ok (.iconst (-1), 1) := by decide +kernel
theorem dP_init_86 : decode cP_init 86 = .ok (.invokestatic 44, 3) := by decide +kernel
theorem dP_init_89 : decode cP_init 89 = .ok (.aload_n 0, 1) := by decide +kernel
theorem dP_init_90 : decode cP_init 90 = .ok (.getfield 38, 3) := by decide +kernel
theorem dP_init_93 : decode cP_init 93 = .ok (.iconst (-1), 1) := by decide +kernel
theorem dP_init_94 : decode cP_init 94 = .ok (.invokestatic 44, 3) := by decide +kernel
theorem dP_init_97 : decode cP_init 97 = .ok (.aload_n 0, 1) := by decide +kernel
theorem dP_init_98 : decode cP_init 98 = .ok (.getfield 41, 3) := by decide +kernel
theorem dP_init_101 : decode cP_init 101 = .ok (.iconst (-1), 1) := by decide +kernel
theorem dP_init_102 : decode cP_init 102 = .ok (.invokestatic 44, 3) := by decide +kernel
theorem dP_init_105 : decode cP_init 105 = .ok (.return_, 1) := by decide +kernel
theorem dP_addBridge_0 : decode cP_addBridge 0 = .ok (.aload_n 0, 1) := by decide +kernel
theorem dP_addBridge_1 : decode cP_addBridge 1 = .ok (.getfield 50, 3) := by decide +kernel
theorem dP_addBridge_4 : decode cP_addBridge 4 = .ok (.istore_n 2, 1) := by decide +kernel
theorem dP_addBridge_5 : decode cP_addBridge 5 = .ok (.aload_n 0, 1) := by decide +kernel
theorem dP_addBridge_6 : decode cP_addBridge 6 = .ok (.getfield 9, 3) := by decide +kernel
theorem dP_addBridge_9 : decode cP_addBridge 9 = .ok (.iload_n 2, 1) := by decide +kernel
theorem dP_addBridge_10 : decode cP_addBridge 10 = .ok (.bipush 8, 2) := by decide +kernel
theorem dP_addBridge_12 : decode cP_addBridge 12 = .ok (.iload_n 1, 1) := by decide +kernel
theorem dP_addBridge_13 : decode cP_addBridge 13 = .ok (.imul, 1) := by decide +kernel
theorem dP_addBridge_14 : decode cP_addBridge 14 = .ok (.iload_n 2, 1) := by decide +kernel
theorem dP_addBridge_15 : decode cP_addBridge 15 = .ok (.iadd, 1) := by decide +kernel
theorem dP_addBridge_16 : decode cP_addBridge 16 = .ok (.iastore, 1) := by decide +kernel
theorem dP_addBridge_17 : decode cP_addBridge 17 = .ok (.aload_n 0, 1) := by decide +kernel
theorem dP_addBridge_18 : decode cP_addBridge 18 = .ok (.dup, 1) := by decide +kernel
theorem dP_addBridge_19 : decode cP_addBridge 19 = .ok (.getfield 50, 3) := by decide +kernel
theorem dP_addBridge_22 : decode cP_addBridge 22 = .ok (.iconst 1, 1) := by decide +kernel
theorem dP_addBridge_23 : decode cP_addBridge 23 = .ok (.iadd, 1) := by decide +kernel
theorem dP_addBridge_24 : decode cP_addBridge 24 = .ok (.putfield 50, 3) := by decide +kernel
theorem dP_addBridge_27 : decode cP_addBridge 27 = .ok (.iload_n 2, 1) := by decide +kernel
theorem dP_addBridge_28 : decode cP_addBridge 28 = .ok (.ireturn, 1) := by decide +kernel
theorem dP_addWire_0 : decode cP_addWire 0 = .ok (.aload_n 0, 1) := by decide +kernel
theorem dP_addWire_1 : decode cP_addWire 1 = .ok (.getfield 53, 3) := by decide +kernel
theorem dP_addWire_4 : decode cP_addWire 4 = .ok (.istore 4, 2) := by decide +kernel
theorem dP_addWire_6 : decode cP_addWire 6 = .ok (.aload_n 0, 1) := by decide +kernel
theorem dP_addWire_7 : decode cP_addWire 7 = .ok (.getfield 15, 3) := by decide +kernel
theorem dP_addWire_10 : decode cP_addWire 10 = .ok (.iload 4, 2) := by decide +kernel
theorem dP_addWire_12 : decode cP_addWire 12 = .ok (.iload_n 1, 1) := by decide +kernel
theorem dP_addWire_13 : decode cP_addWire 13 = .ok (.iastore, 1) := by decide +kernel
theorem dP_addWire_14 : decode cP_addWire 14 = .ok (.aload_n 0, 1) := by decide +kernel
theorem dP_addWire_15 : decode cP_addWire 15 = .ok (.getfield 18, 3) := by decide +kernel
theorem dP_addWire_18 : decode cP_addWire 18 = .ok (.iload 4, 2) := by decide +kernel
theorem dP_addWire_20 : decode cP_addWire 20 = .ok (.iload_n 3, 1) := by decide +kernel
theorem dP_addWire_21 : decode cP_addWire 21 = .ok (.iastore, 1) := by decide +kernel
theorem dP_addWire_22 : decode cP_addWire 22 = .ok (.aload_n 0, 1) := by decide +kernel
theorem dP_addWire_23 : decode cP_addWire 23 = .ok (.getfield 35, 3) := by decide +kernel
theorem dP_addWire_26 : decode cP_addWire 26 = .ok (.iload_n 1, 1) := by decide +kernel
theorem dP_addWire_27 : decode cP_addWire 27 = .ok (.iload 4, 2) := by decide +kernel
theorem dP_addWire_29 : decode cP_addWire 29 = .ok (.iastore, 1) := by decide +kernel
theorem dP_addWire_30 : decode cP_addWire 30 = .ok (.aload_n 0, 1) := by decide +kernel
theorem dP_addWire_31 : decode cP_addWire 31 = .ok (.getfield 35, 3) := by decide +kernel
theorem dP_addWire_34 : decode cP_addWire 34 = .ok (.iload_n 2, 1) := by decide +kernel
theorem dP_addWire_35 : decode cP_addWire 35 = .ok (.iload 4, 2) := by decide +kernel
theorem dP_addWire_37 : decode cP_addWire 37 = .ok (.iastore, 1) := by decide +kernel
theorem dP_addWire_38 : decode cP_addWire 38 = .ok (.aload_n 0, 1) := by decide +kernel
theorem dP_addWire_39 : decode cP_addWire 39 = .ok (.getfield 38, 3) := by decide +kernel
theorem dP_addWire_42 : decode cP_addWire 42 = .ok (.iload_n 1, 1) := by decide +kernel
theorem dP_addWire_43 : decode cP_addWire 43 = .ok (.iload_n 2, 1) := by decide +kernel
theorem dP_addWire_44 : decode cP_addWire 44 = .ok (.iastore, 1) := by decide +kernel
theorem dP_addWire_45 : decode cP_addWire 45 = .ok (.aload_n 0, 1) := by decide +kernel
theorem dP_addWire_46 : decode cP_addWire 46 = .ok (.getfield 38, 3) := by decide +kernel
theorem dP_addWire_49 : decode cP_addWire 49 = .ok (.iload_n 2, 1) := by decide +kernel
theorem dP_addWire_50 : decode cP_addWire 50 = .ok (.iload_n 1, 1) := by decide +kernel
theorem dP_addWire_51 : decode cP_addWire 51 = .ok (.iastore, 1) := by decide +kernel
theorem dP_addWire_52 : decode cP_addWire 52 = .ok (.aload_n 0, 1) := by decide +kernel
theorem dP_addWire_53 : decode cP_addWire 53 = .ok (.dup, 1) := by decide +kernel
theorem dP_addWire_54 : decode cP_addWire 54 = .ok (.getfield 53, 3) := by decide +kernel
theorem dP_addWire_57 : decode cP_addWire 57 = .ok (.iconst 1, 1) := by decide +kernel
theorem dP_addWire_58 : decode cP_addWire 58 = .ok (.iadd, 1) := by decide +kernel
theorem dP_addWire_59 : decode cP_addWire 59 = .ok (.putfield 53, 3) := by decide +kernel
theorem dP_addWire_62 : decode cP_addWire 62 = .ok (.iload 4, 2) := by decide +kernel
theorem dP_addWire_64 : decode cP_addWire 64 = .ok (.ireturn, 1) := by decide +kernel
theorem dP_addHost_0 : decode cP_addHost 0 = .ok (.aload_n 0, 1) := by decide +kernel
theorem dP_addHost_1 : decode cP_addHost 1 = .ok (.getfield 56, 3) := by decide +kernel
theorem dP_addHost_4 : decode cP_addHost 4 = .ok (.istore_n 3, 1) := by decide +kernel
theorem dP_addHost_5 : decode cP_addHost 5 = .ok (.aload_n 0, 1) := by decide +kernel
theorem dP_addHost_6 : decode cP_addHost 6 = .ok (.getfield 25, 3) := by decide +kernel
theorem dP_addHost_9 : decode cP_addHost 9 = .ok (.iload_n 3, 1) := by decide +kernel
theorem dP_addHost_10 : decode cP_addHost 10 = .ok (.iload_n 1, 1) := by decide +kernel
theorem dP_addHost_11 : decode cP_addHost 11 = .ok (.iastore, 1) := by decide +kernel
theorem dP_addHost_12 : decode cP_addHost 12 = .ok (.aload_n 0, 1) := by decide +kernel
theorem dP_addHost_13 : decode cP_addHost 13 = .ok (.getfield 28, 3) := by decide +kernel
theorem dP_addHost_16 : decode cP_addHost 16 = .ok (.iload_n 3, 1) := by decide +kernel
theorem dP_addHost_17 : decode cP_addHost 17 = .ok (.iload_n 2, 1) := by decide +kernel
theorem dP_addHost_18 : decode cP_addHost 18 = .ok (.iastore, 1) := by decide +kernel
theorem dP_addHost_19 : decode cP_addHost 19 = .ok (.aload_n 0, 1) := by decide +kernel
theorem dP_addHost_20 : decode cP_addHost 20 = .ok (.getfield 41, 3) := by decide +kernel
theorem dP_addHost_23 : decode cP_addHost 23 = .ok (.iload_n 1, 1) := by decide +kernel
theorem dP_addHost_24 : decode cP_addHost 24 = .ok (.iload_n 3, 1) := by decide +kernel
theorem dP_addHost_25 : decode cP_addHost 25 = .ok (.iastore, 1) := by decide +kernel
theorem dP_addHost_26 : decode cP_addHost 26 = .ok (.aload_n 0, 1) := by decide +kernel
theorem dP_addHost_27 : decode cP_addHost 27 = .ok (.dup, 1) := by decide +kernel
theorem dP_addHost_28 : decode cP_addHost 28 = .ok (.getfield 56, 3) := by decide +kernel
theorem dP_addHost_31 : decode cP_addHost 31 = .ok (.iconst 1, 1) := by decide +kernel
theorem dP_addHost_32 : decode cP_addHost 32 = .ok (.iadd, 1) := by decide +kernel
theorem dP_addHost_33 : decode cP_addHost 33 = .ok (.putfield 56, 3) := by decide +kernel
theorem dP_addHost_36 : decode cP_addHost 36 = .ok (.iload_n 3, 1) := by decide +kernel
theorem dP_addHost_37 : decode cP_addHost 37 = .ok (.ireturn, 1) := by decide +kernel
theorem dP_addRouter_0 : decode cP_addRouter 0 = .ok (.aload_n 0, 1) := by decide +kernel
theorem dP_addRouter_1 : decode cP_addRouter 1 = .ok (.iload_n 1, 1) := by decide +kernel
theorem dP_addRouter_2 : decode cP_addRouter 2 = .ok (.putfield 31, 3) := by decide +kernel
theorem dP_addRouter_5 : decode cP_addRouter 5 = .ok (.aload_n 0, 1) := by decide +kernel
theorem dP_addRouter_6 : decode cP_addRouter 6 = .ok (.getfield 41, 3) := by decide +kernel
theorem dP_addRouter_9 : decode cP_addRouter 9 = .ok (.iload_n 1, 1) := by decide +kernel
theorem dP_addRouter_10 : decode cP_addRouter 10 = .ok (.bipush 6, 2) := by decide +kernel
theorem dP_addRouter_12 : decode cP_addRouter 12 = .ok (.iastore, 1) := by decide +kernel
theorem dP_addRouter_13 : decode cP_addRouter 13 = .ok (.return_, 1) := by decide +kernel
theorem dP_isBridge_0 : decode cP_isBridge 0 = .ok (.iload_n 1, 1) := by decide +kernel
theorem dP_isBridge_1 : decode cP_isBridge 1 = .ok (.iconst 0, 1) := by decide +kernel
theorem dP_isBridge_2 : decode cP_isBridge 2 = .ok (.aload_n 0, 1) := by decide +kernel
theorem dP_isBridge_3 : decode cP_isBridge 3 = .ok (.getfield 50, 3) := by decide +kernel
theorem dP_isBridge_6 : decode cP_isBridge 6 = .ok (.iconst 1, 1) := by decide +kernel
theorem dP_isBridge_7 : decode cP_isBridge 7 = .ok (.isub, 1) := by decide +kernel
theorem dP_isBridge_8 : decode cP_isBridge 8 = .ok (.invokestatic 59, 3) := by decide +kernel
theorem dP_isBridge_11 : decode cP_isBridge 11 = .ok (.ireturn, 1) := by decide +kernel
theorem dP_isPlace_0 : decode cP_isPlace 0 = .ok (.iload_n 1, 1) := by decide +kernel
theorem dP_isPlace_1 : decode cP_isPlace 1 = .ok (.iconst 0, 1) := by decide +kernel
theorem dP_isPlace_2 : decode cP_isPlace 2 = .ok (.iconst 4, 1) := by decide +kernel
theorem dP_isPlace_3 : decode cP_isPlace 3 = .ok (.aload_n 0, 1) := by decide +kernel
theorem dP_isPlace_4 : decode cP_isPlace 4 = .ok (.getfield 50, 3) := by decide +kernel
theorem dP_isPlace_7 : decode cP_isPlace 7 = .ok (.imul, 1) := by decide +kernel
theorem dP_isPlace_8 : decode cP_isPlace 8 = .ok (.iconst 1, 1) := by decide +kernel
theorem dP_isPlace_9 : decode cP_isPlace 9 = .ok (.isub, 1) := by decide +kernel
theorem dP_isPlace_10 : decode cP_isPlace 10 = .ok (.invokestatic 59, 3) := by decide +kernel
theorem dP_isPlace_13 : decode cP_isPlace 13 = .ok (.ireturn, 1) := by decide +kernel
theorem dP_isFree_0 : decode cP_isFree 0 = .ok (.aload_n 0, 1) := by decide +kernel
theorem dP_isFree_1 : decode cP_isFree 1 = .ok (.iload_n 1, 1) := by decide +kernel
theorem dP_isFree_2 : decode cP_isFree 2 = .ok (.invokevirtual 63, 3) := by decide +kernel
theorem dP_isFree_5 : decode cP_isFree 5 = .ok (.ifCond .eq 27, 3) := by decide +kernel
theorem dP_isFree_8 : decode cP_isFree 8 = .ok (.aload_n 0, 1) := by decide +kernel
theorem dP_isFree_9 : decode cP_isFree 9 = .ok (.getfield 35, 3) := by decide +kernel
theorem dP_isFree_12 : decode cP_isFree 12 = .ok (.iload_n 1, 1) := by decide +kernel
theorem dP_isFree_13 : decode cP_isFree 13 = .ok (.iaload, 1) := by decide +kernel
theorem dP_isFree_14 : decode cP_isFree 14 = .ok (.iconst (-1), 1) := by decide +kernel
theorem dP_isFree_15 : decode cP_isFree 15 = .ok (.if_icmp .ne 17, 3) := by decide +kernel
theorem dP_isFree_18 : decode cP_isFree 18 = .ok (.aload_n 0, 1) := by decide +kernel
theorem dP_isFree_19 : decode cP_isFree 19 = .ok (.getfield 41, 3) := by decide +kernel
theorem dP_isFree_22 : decode cP_isFree 22 = .ok (.iload_n 1, 1) := by decide +kernel
theorem dP_isFree_23 : decode cP_isFree 23 = .ok (.iaload, 1) := by decide +kernel
theorem dP_isFree_24 : decode cP_isFree 24 = .ok (.iconst (-1), 1) := by decide +kernel
theorem dP_isFree_25 : decode cP_isFree 25 = .ok (.if_icmp .ne 7, 3) := by decide +kernel
theorem dP_isFree_28 : decode cP_isFree 28 = .ok (.iconst 1, 1) := by decide +kernel
theorem dP_isFree_29 : decode cP_isFree 29 = .ok (.goto 4, 3) := by decide +kernel
theorem dP_isFree_32 : decode cP_isFree 32 = .ok (.iconst 0, 1) := by decide +kernel
theorem dP_isFree_33 : decode cP_isFree 33 = .ok (.ireturn, 1) := by decide +kernel
theorem dP_isHost_0 : decode cP_isHost 0 = .ok (.iload_n 1, 1) := by decide +kernel
theorem dP_isHost_1 : decode cP_isHost 1 = .ok (.iconst 0, 1) := by decide +kernel
theorem dP_isHost_2 : decode cP_isHost 2 = .ok (.aload_n 0, 1) := by decide +kernel
theorem dP_isHost_3 : decode cP_isHost 3 = .ok (.getfield 56, 3) := by decide +kernel
theorem dP_isHost_6 : decode cP_isHost 6 = .ok (.iconst 1, 1) := by decide +kernel
theorem dP_isHost_7 : decode cP_isHost 7 = .ok (.isub, 1) := by decide +kernel
theorem dP_isHost_8 : decode cP_isHost 8 = .ok (.invokestatic 59, 3) := by decide +kernel
theorem dP_isHost_11 : decode cP_isHost 11 = .ok (.ireturn, 1) := by decide +kernel
theorem dP_hasRouter_0 : decode cP_hasRouter 0 = .ok (.aload_n 0, 1) := by decide +kernel
theorem dP_hasRouter_1 : decode cP_hasRouter 1 = .ok (.getfield 31, 3) := by decide +kernel
theorem dP_hasRouter_4 : decode cP_hasRouter 4 = .ok (.iconst (-1), 1) := by decide +kernel
theorem dP_hasRouter_5 : decode cP_hasRouter 5 = .ok (.if_icmp .eq 7, 3) := by decide +kernel
theorem dP_hasRouter_8 : decode cP_hasRouter 8 = .ok (.iconst 1, 1) := by decide +kernel
theorem dP_hasRouter_9 : decode cP_hasRouter 9 = .ok (.goto 4, 3) := by decide +kernel
theorem dP_hasRouter_12 : decode cP_hasRouter 12 = .ok (.iconst 0, 1) := by decide +kernel
theorem dP_hasRouter_13 : decode cP_hasRouter 13 = .ok (.ireturn, 1) := by decide +kernel
theorem dP_hasWholeWire_0 : decode cP_hasWholeWire 0 = .ok (.aload_n 0, 1) := by decide +kernel
theorem dP_hasWholeWire_1 : decode cP_hasWholeWire 1 = .ok (.getfield 35, 3) := by decide +kernel
theorem dP_hasWholeWire_4 : decode cP_hasWholeWire 4 = .ok (.iload_n 1, 1) := by decide +kernel
theorem dP_hasWholeWire_5 : decode cP_hasWholeWire 5 = .ok (.iaload, 1) := by decide +kernel
theorem dP_hasWholeWire_6 : decode cP_hasWholeWire 6 = .ok (.iconst (-1), 1) := by decide +kernel
theorem dP_hasWholeWire_7 : decode cP_hasWholeWire 7 = .ok (.if_icmp .eq 21, 3) := by decide +kernel
theorem dP_hasWholeWire_10 : decode cP_hasWholeWire 10 = .ok (.aload_n 0, 1) := by decide +kernel
theorem dP_hasWholeWire_11 : decode cP_hasWholeWire 11 = .ok (.getfield 21, 3) := by decide +kernel
theorem dP_hasWholeWire_14 : decode cP_hasWholeWire 14 = .ok (.aload_n 0, 1) := by decide +kernel
theorem dP_hasWholeWire_15 : decode cP_hasWholeWire 15 = .ok (.getfield 35, 3) := by decide +kernel
theorem dP_hasWholeWire_18 : decode cP_hasWholeWire 18 = .ok (.iload_n 1, 1) := by decide +kernel
theorem dP_hasWholeWire_19 : decode cP_hasWholeWire 19 = .ok (.iaload, 1) := by decide +kernel
theorem dP_hasWholeWire_20 : decode cP_hasWholeWire 20 = .ok (.baload, 1) := by decide +kernel
theorem dP_hasWholeWire_21 : decode cP_hasWholeWire 21 = .ok (.ifCond .ne 7, 3) := by decide +kernel
theorem dP_hasWholeWire_24 : decode cP_hasWholeWire 24 = .ok (.iconst 1, 1) := by decide +kernel
theorem dP_hasWholeWire_25 : decode cP_hasWholeWire 25 = .ok (.goto 4, 3) := by decide +kernel
theorem dP_hasWholeWire_28 : decode cP_hasWholeWire 28 = .ok (.iconst 0, 1) := by decide +kernel
theorem dP_hasWholeWire_29 : decode cP_hasWholeWire 29 = .ok (.ireturn, 1) := by decide +kernel
theorem dP_isUp_0 : decode cP_isUp 0 = .ok (.aload_n 0, 1) := by decide +kernel
theorem dP_isUp_1 : decode cP_isUp 1 = .ok (.getfield 41, 3) := by decide +kernel
theorem dP_isUp_4 : decode cP_isUp 4 = .ok (.iload_n 1, 1) := by decide +kernel
theorem dP_isUp_5 : decode cP_isUp 5 = .ok (.iaload, 1) := by decide +kernel
theorem dP_isUp_6 : decode cP_isUp 6 = .ok (.iconst (-1), 1) := by decide +kernel
theorem dP_isUp_7 : decode cP_isUp 7 = .ok (.if_icmp .ne 11, 3) := by decide +kernel
theorem dP_isUp_10 : decode cP_isUp 10 = .ok (.aload_n 0, 1) := by decide +kernel
theorem dP_isUp_11 : decode cP_isUp 11 = .ok (.iload_n 1, 1) := by decide +kernel
theorem dP_isUp_12 : decode cP_isUp 12 = .ok (.invokevirtual 67, 3) := by decide +kernel
theorem dP_isUp_15 : decode cP_isUp 15 = .ok (.ifCond .eq 7, 3) := by decide +kernel
theorem dP_isUp_18 : decode cP_isUp 18 = .ok (.iconst 1, 1) := by decide +kernel
theorem dP_isUp_19 : decode cP_isUp 19 = .ok (.goto 4, 3) := by decide +kernel
theorem dP_isUp_22 : decode cP_isUp 22 = .ok (.iconst 0, 1) := by decide +kernel
theorem dP_isUp_23 : decode cP_isUp 23 = .ok (.ireturn, 1) := by decide +kernel
theorem dW_init_0 : decode cW_init 0 = .ok (.aload_n 0, 1) := by decide +kernel
theorem dW_init_1 : decode cW_init 1 = .ok (.invokespecial 3, 3) := by decide +kernel
theorem dW_init_4 : decode cW_init 4 = .ok (.aload_n 0, 1) := by decide +kernel
theorem dW_init_5 : decode cW_init 5 = .ok (.bipush 24, 2) := by decide +kernel
theorem dW_init_7 : decode cW_init 7 = .ok (.newarray .int, 2) := by decide +kernel
theorem dW_init_9 : decode cW_init 9 = .ok (.putfield 9, 3) := by decide +kernel
theorem dW_init_12 : decode cW_init 12 = .ok (.aload_n 0, 1) := by decide +kernel
theorem dW_init_13 : decode cW_init 13 = .ok (.bipush 24, 2) := by decide +kernel
theorem dW_init_15 : decode cW_init 15 = .ok (.newarray .int, 2) := by decide +kernel
theorem dW_init_17 : decode cW_init 17 = .ok (.putfield 15, 3) := by decide +kernel
theorem dW_init_20 : decode cW_init 20 = .ok (.aload_n 0, 1) := by decide +kernel
theorem dW_init_21 : decode cW_init 21 = .ok (.bipush 24, 2) := by decide +kernel
theorem dW_init_23 : decode cW_init 23 = .ok (.newarray .boolean, 2) := by decide +kernel
theorem dW_init_25 : decode cW_init 25 = .ok (.putfield 18, 3) := by decide +kernel
theorem dW_init_28 : decode cW_init 28 = .ok (.aload_n 0, 1) := by decide +kernel
theorem dW_init_29 : decode cW_init 29 = .ok (.getfield 15, 3) := by decide +kernel
theorem dW_init_32 : decode cW_init 32 = .ok (.iconst 1, 1) := by decide +kernel
theorem dW_init_33 : decode cW_init 33 = .ok (.invokestatic 22, 3) := by decide +kernel
theorem dW_init_36 : decode cW_init 36 = .ok (.return_, 1) := by decide +kernel
theorem dW_makeAccess_0 : decode cW_makeAccess 0 = .ok (.aload_n 0, 1) := by decide +kernel
theorem dW_makeAccess_1 : decode cW_makeAccess 1 = .ok (.getfield 9, 3) := by decide +kernel
theorem dW_makeAccess_4 : decode cW_makeAccess 4 = .ok (.iload_n 1, 1) := by decide +kernel
theorem dW_makeAccess_5 : decode cW_makeAccess 5 = .ok (.iload_n 2, 1) := by decide +kernel
theorem dW_makeAccess_6 : decode cW_makeAccess 6 = .ok (.iastore, 1) := by decide +kernel
theorem dW_makeAccess_7 : decode cW_makeAccess 7 = .ok (.aload_n 0, 1) := by decide +kernel
theorem dW_makeAccess_8 : decode cW_makeAccess 8 = .ok (.getfield 15, 3) := by decide +kernel
theorem dW_makeAccess_11 : decode cW_makeAccess 11 = .ok (.iload_n 1, 1) := by decide +kernel
theorem dW_makeAccess_12 : decode cW_makeAccess 12 = .ok (.iconst 1, 1) := by decide +kernel
theorem dW_makeAccess_13 : decode cW_makeAccess 13 = .ok (.iload_n 2, 1) := by decide +kernel
theorem dW_makeAccess_14 : decode cW_makeAccess 14 = .ok (.ishl, 1) := by decide +kernel
theorem dW_makeAccess_15 : decode cW_makeAccess 15 = .ok (.iastore, 1) := by decide +kernel
theorem dW_makeAccess_16 : decode cW_makeAccess 16 = .ok (.aload_n 0, 1) := by decide +kernel
theorem dW_makeAccess_17 : decode cW_makeAccess 17 = .ok (.getfield 18, 3) := by decide +kernel
theorem dW_makeAccess_20 : decode cW_makeAccess 20 = .ok (.iload_n 1, 1) := by decide +kernel
theorem dW_makeAccess_21 : decode cW_makeAccess 21 = .ok (.iconst 0, 1) := by decide +kernel
theorem dW_makeAccess_22 : decode cW_makeAccess 22 = .ok (.bastore, 1) := by decide +kernel
theorem dW_makeAccess_23 : decode cW_makeAccess 23 = .ok (.return_, 1) := by decide +kernel
theorem dW_makeTrunk_0 : decode cW_makeTrunk 0 = .ok (.aload_n 0, 1) := by decide +kernel
theorem dW_makeTrunk_1 : decode cW_makeTrunk 1 = .ok (.getfield 9, 3) := by decide +kernel
theorem dW_makeTrunk_4 : decode cW_makeTrunk 4 = .ok (.iload_n 1, 1) := by decide +kernel
theorem dW_makeTrunk_5 : decode cW_makeTrunk 5 = .ok (.iload_n 2, 1) := by decide +kernel
theorem dW_makeTrunk_6 : decode cW_makeTrunk 6 = .ok (.iastore, 1) := by decide +kernel
theorem dW_makeTrunk_7 : decode cW_makeTrunk 7 = .ok (.aload_n 0, 1) := by decide +kernel
theorem dW_makeTrunk_8 : decode cW_makeTrunk 8 = .ok (.getfield 15, 3) := by decide +kernel
theorem dW_makeTrunk_11 : decode cW_makeTrunk 11 = .ok (.iload_n 1, 1) := by decide +kernel
theorem dW_makeTrunk_12 : decode cW_makeTrunk 12 = .ok (.iload_n 3, 1) := by decide +kernel
theorem dW_makeTrunk_13 : decode cW_makeTrunk 13 = .ok (.iastore, 1) := by decide +kernel
theorem dW_makeTrunk_14 : decode cW_makeTrunk 14 = .ok (.aload_n 0, 1) := by decide +kernel
theorem dW_makeTrunk_15 : decode cW_makeTrunk 15 = .ok (.getfield 18, 3) := by decide +kernel
theorem dW_makeTrunk_18 : decode cW_makeTrunk 18 = .ok (.iload_n 1, 1) := by decide +kernel
theorem dW_makeTrunk_19 : decode cW_makeTrunk 19 = .ok (.iconst 1, 1) := by decide +kernel
theorem dW_makeTrunk_20 : decode cW_makeTrunk 20 = .ok (.bastore, 1) := by decide +kernel
theorem dW_makeTrunk_21 : decode cW_makeTrunk 21 = .ok (.return_, 1) := by decide +kernel
theorem dW_isMember_0 : decode cW_isMember 0 = .ok (.aload_n 0, 1) := by decide +kernel
theorem dW_isMember_1 : decode cW_isMember 1 = .ok (.getfield 15, 3) := by decide +kernel
theorem dW_isMember_4 : decode cW_isMember 4 = .ok (.iload_n 1, 1) := by decide +kernel
theorem dW_isMember_5 : decode cW_isMember 5 = .ok (.iaload, 1) := by decide +kernel
theorem dW_isMember_6 : decode cW_isMember 6 = .ok (.iload_n 2, 1) := by decide +kernel
theorem dW_isMember_7 : decode cW_isMember 7 = .ok (.ishr, 1) := by decide +kernel
theorem dW_isMember_8 : decode cW_isMember 8 = .ok (.iconst 1, 1) := by decide +kernel
theorem dW_isMember_9 : decode cW_isMember 9 = .ok (.iand, 1) := by decide +kernel
theorem dW_isMember_10 : decode cW_isMember 10 = .ok (.iconst 1, 1) := by decide +kernel
theorem dW_isMember_11 : decode cW_isMember 11 = .ok (.if_icmp .ne 7, 3) := by decide +kernel
theorem dW_isMember_14 : decode cW_isMember 14 = .ok (.iconst 1, 1) := by decide +kernel
theorem dW_isMember_15 : decode cW_isMember 15 = .ok (.goto 4, 3) := by decide +kernel
theorem dW_isMember_18 : decode cW_isMember 18 = .ok (.iconst 0, 1) := by decide +kernel
theorem dW_isMember_19 : decode cW_isMember 19 = .ok (.ireturn, 1) := by decide +kernel
theorem dW_networkInside_0 : decode cW_networkInside 0 = .ok (.iload_n 2, 1) := by decide +kernel
theorem dW_networkInside_1 : decode cW_networkInside 1 = .ok (.iconst (-1), 1) := by decide +kernel
theorem dW_networkInside_2 : decode cW_networkInside 2 = .ok (.if_icmp .eq 14, 3) := by decide +kernel
theorem dW_networkInside_5 : decode cW_networkInside 5 = .ok (.aload_n 0, 1) := by decide +kernel
theorem dW_networkInside_6 : decode cW_networkInside 6 = .ok (.getfield 18, 3) := by decide +kernel
theorem dW_networkInside_9 : decode cW_networkInside 9 = .ok (.iload_n 1, 1) := by decide +kernel
theorem dW_networkInside_10 : decode cW_networkInside 10 = .ok (.baload, 1) := by decide +kernel
theorem dW_networkInside_11 : decode cW_networkInside 11 = .ok (.ifCond .ne 5, 3) := by decide +kernel
theorem dW_networkInside_14 : decode cW_networkInside 14 = .ok (.iconst (-1), 1) := by decide +kernel
theorem dW_networkInside_15 : decode cW_networkInside 15 = .ok (.ireturn, 1) := by decide +kernel
theorem dW_networkInside_16 : decode cW_networkInside 16 = .ok (.iload_n 2, 1) := by decide +kernel
theorem dW_networkInside_17 : decode cW_networkInside 17 = .ok (.iconst (-1), 1) := by decide +kernel
theorem dW_networkInside_18 : decode cW_networkInside 18 = .ok (.if_icmp .ne 12, 3) := by decide +kernel
theorem dW_networkInside_21 : decode cW_networkInside 21 = .ok (.aload_n 0, 1) := by decide +kernel
theorem dW_networkInside_22 : decode cW_networkInside 22 = .ok (.getfield 9, 3) := by decide +kernel
theorem dW_networkInside_25 : decode cW_networkInside 25 = .ok (.iload_n 1, 1) := by decide +kernel
theorem dW_networkInside_26 : decode cW_networkInside 26 = .ok (.iaload, 1) := by decide +kernel
theorem dW_networkInside_27 : decode cW_networkInside 27 = .ok (.goto 4, 3) := by decide +kernel
theorem dW_networkInside_30 : decode cW_networkInside 30 = .ok (.iload_n 2, 1) := by decide +kernel
theorem dW_networkInside_31 : decode cW_networkInside 31 = .ok (.istore_n 3, 1) := by decide +kernel
theorem dW_networkInside_32 : decode cW_networkInside 32 = .ok (.aload_n 0, 1) := by decide +kernel
theorem dW_networkInside_33 : decode cW_networkInside 33 = .ok (.iload_n 1, 1) := by decide +kernel
theorem dW_networkInside_34 : decode cW_networkInside 34 = .ok (.iload_n 3, 1) := by decide +kernel
theorem dW_networkInside_35 : decode cW_networkInside 35 = .ok (.invokevirtual 28, 3) := by decide +kernel
theorem dW_networkInside_38 : decode cW_networkInside 38 = .ok (.ifCond .eq 7, 3) := by decide +kernel
theorem dW_networkInside_41 : decode cW_networkInside 41 = .ok (.iload_n 3, 1) := by decide +kernel
theorem dW_networkInside_42 : decode cW_networkInside 42 = .ok (.goto 4, 3) := by decide +kernel
theorem dW_networkInside_45 : decode cW_networkInside 45 = .ok (.iconst (-1), 1) := by decide +kernel
theorem dW_networkInside_46 : decode cW_networkInside 46 = .ok (.ireturn, 1) := by decide +kernel
theorem dW_tagOutside_0 : decode cW_tagOutside 0 = .ok (.aload_n 0, 1) := by decide +kernel
theorem dW_tagOutside_1 : decode cW_tagOutside 1 = .ok (.getfield 9, 3) := by decide +kernel
theorem dW_tagOutside_4 : decode cW_tagOutside 4 = .ok (.iload_n 1, 1) := by decide +kernel
theorem dW_tagOutside_5 : decode cW_tagOutside 5 = .ok (.iaload, 1) := by decide +kernel
theorem dW_tagOutside_6 : decode cW_tagOutside 6 = .ok (.iload_n 2, 1) := by decide +kernel
theorem dW_tagOutside_7 : decode cW_tagOutside 7 = .ok (.if_icmp .ne 7, 3) := by decide +kernel
theorem dW_tagOutside_10 : decode cW_tagOutside 10 = .ok (.iconst (-1), 1) := by decide +kernel
theorem dW_tagOutside_11 : decode cW_tagOutside 11 = .ok (.goto 4, 3) := by decide +kernel
theorem dW_tagOutside_14 : decode cW_tagOutside 14 = .ok (.iload_n 2, 1) := by decide +kernel
theorem dW_tagOutside_15 : decode cW_tagOutside 15 = .ok (.ireturn, 1) := by decide +kernel
theorem dB_init_0 : decode cB_init 0 = .ok (.aload_n 0, 1) := by decide +kernel
theorem dB_init_1 : decode cB_init 1 = .ok (.invokespecial 3, 3) := by decide +kernel
theorem dB_init_4 : decode cB_init 4 = .ok (.aload_n 0, 1) := by decide +kernel
theorem dB_init_5 : decode cB_init 5 = .ok (.sipush 168, 3) := by decide +kernel
theorem dB_init_8 : decode cB_init 8 = .ok (.newarray .int, 2) := by decide +kernel
theorem dB_init_10 : decode cB_init 10 = .ok (.putfield 11, 3) := by decide +kernel
theorem dB_init_13 : decode cB_init 13 = .ok (.aload_n 0, 1) := by decide +kernel
theorem dB_init_14 : decode cB_init 14 = .ok (.sipush 168, 3) := by decide +kernel
theorem dB_init_17 : decode cB_init 17 = .ok (.newarray .int, 2) := by decide +kernel
theorem dB_init_19 : decode cB_init 19 = .ok (.putfield 15, 3) := by decide +kernel
theorem dB_init_22 : decode cB_init 22 = .ok (.aload_n 0, 1) := by decide +kernel
theorem dB_init_23 : decode cB_init 23 = .ok (.getfield 11, 3) := by decide +kernel
theorem dB_init_26 : decode cB_init 26 = .ok (.iconst (-1), 1) := by decide +kernel
theorem dB_init_27 : decode cB_init 27 = .ok (.invokestatic 18, 3) := by decide +kernel
theorem dB_init_30 : decode cB_init 30 = .ok (.return_, 1) := by decide +kernel
theorem dB_portOf_0 : decode cB_portOf 0 = .ok (.aload_n 0, 1) := by decide +kernel
theorem dB_portOf_1 : decode cB_portOf 1 = .ok (.getfield 11, 3) := by decide +kernel
theorem dB_portOf_4 : decode cB_portOf 4 = .ok (.bipush 28, 2) := by decide +kernel
theorem dB_portOf_6 : decode cB_portOf 6 = .ok (.iload_n 1, 1) := by decide +kernel
theorem dB_portOf_7 : decode cB_portOf 7 = .ok (.imul, 1) := by decide +kernel
theorem dB_portOf_8 : decode cB_portOf 8 = .ok (.bipush 7, 2) := by decide +kernel
theorem dB_portOf_10 : decode cB_portOf 10 = .ok (.iload_n 2, 1) := by decide +kernel
theorem dB_portOf_11 : decode cB_portOf 11 = .ok (.imul, 1) := by decide +kernel
theorem dB_portOf_12 : decode cB_portOf 12 = .ok (.iadd, 1) := by decide +kernel
theorem dB_portOf_13 : decode cB_portOf 13 = .ok (.iload_n 3, 1) := by decide +kernel
theorem dB_portOf_14 : decode cB_portOf 14 = .ok (.iadd, 1) := by decide +kernel
theorem dB_portOf_15 : decode cB_portOf 15 = .ok (.iaload, 1) := by decide +kernel
theorem dB_portOf_16 : decode cB_portOf 16 = .ok (.ireturn, 1) := by decide +kernel
theorem dB_learn_0 : decode cB_learn 0 = .ok (.bipush 28, 2) := by decide +kernel
theorem dB_learn_2 : decode cB_learn 2 = .ok (.iload_n 1, 1) := by decide +kernel
theorem dB_learn_3 : decode cB_learn 3 = .ok (.iconst 4, 1) := by decide +kernel
theorem dB_learn_4 : decode cB_learn 4 = .ok (.idiv, 1) := by decide +kernel
theorem dB_learn_5 : decode cB_learn 5 = .ok (.imul, 1) := by decide +kernel
theorem dB_learn_6 : decode cB_learn 6 = .ok (.bipush 7, 2) := by decide +kernel
theorem dB_learn_8 : decode cB_learn 8 = .ok (.iload_n 2, 1) := by decide +kernel
theorem dB_learn_9 : decode cB_learn 9 = .ok (.imul, 1) := by decide +kernel
theorem dB_learn_10 : decode cB_learn 10 = .ok (.iadd, 1) := by decide +kernel
theorem dB_learn_11 : decode cB_learn 11 = .ok (.iload_n 3, 1) := by decide +kernel
theorem dB_learn_12 : decode cB_learn 12 = .ok (.iadd, 1) := by decide +kernel
theorem dB_learn_13 : decode cB_learn 13 = .ok (.istore 5, 2) := by decide +kernel
theorem dB_learn_15 : decode cB_learn 15 = .ok (.aload_n 0, 1) := by decide +kernel
theorem dB_learn_16 : decode cB_learn 16 = .ok (.getfield 11, 3) := by decide +kernel
theorem dB_learn_19 : decode cB_learn 19 = .ok (.iload 5, 2) := by decide +kernel
theorem dB_learn_21 : decode cB_learn 21 = .ok (.iload_n 1, 1) := by decide +kernel
theorem dB_learn_22 : decode cB_learn 22 = .ok (.iconst 4, 1) := by decide +kernel
theorem dB_learn_23 : decode cB_learn 23 = .ok (.irem, 1) := by decide +kernel
theorem dB_learn_24 : decode cB_learn 24 = .ok (.iastore, 1) := by decide +kernel
theorem dB_learn_25 : decode cB_learn 25 = .ok (.aload_n 0, 1) := by decide +kernel
theorem dB_learn_26 : decode cB_learn 26 = .ok (.getfield 15, 3) := by decide +kernel
theorem dB_learn_29 : decode cB_learn 29 = .ok (.iload 5, 2) := by decide +kernel
theorem dB_learn_31 : decode cB_learn 31 = .ok (.iload 4, 2) := by decide +kernel
theorem dB_learn_33 : decode cB_learn 33 = .ok (.iastore, 1) := by decide +kernel
theorem dB_learn_34 : decode cB_learn 34 = .ok (.return_, 1) := by decide +kernel
theorem dB_countOf_0 : decode cB_countOf 0 = .ok (.iconst 0, 1) := by decide +kernel
theorem dB_countOf_1 : decode cB_countOf 1 = .ok (.istore_n 2, 1) := by decide +kernel
theorem dB_countOf_2 : decode cB_countOf 2 = .ok (.bipush 28, 2) := by decide +kernel
theorem dB_countOf_4 : decode cB_countOf 4 = .ok (.iload_n 1, 1) := by decide +kernel
theorem dB_countOf_5 : decode cB_countOf 5 = .ok (.imul, 1) := by decide +kernel
theorem dB_countOf_6 : decode cB_countOf 6 = .ok (.istore_n 3, 1) := by decide +kernel
theorem dB_countOf_7 : decode cB_countOf 7 = .ok (.iload_n 3, 1) := by decide +kernel
theorem dB_countOf_8 : decode cB_countOf 8 = .ok (.bipush 28, 2) := by decide +kernel
theorem dB_countOf_10 : decode cB_countOf 10 = .ok (.iload_n 1, 1) := by decide +kernel
theorem dB_countOf_11 : decode cB_countOf 11 = .ok (.imul, 1) := by decide +kernel
theorem dB_countOf_12 : decode cB_countOf 12 = .ok (.bipush 28, 2) := by decide +kernel
theorem dB_countOf_14 : decode cB_countOf 14 = .ok (.iadd, 1) := by decide +kernel
theorem dB_countOf_15 : decode cB_countOf 15 = .ok (.if_icmp .ge 22, 3) := by decide +kernel
theorem dB_countOf_18 : decode cB_countOf 18 = .ok (.aload_n 0, 1) := by decide +kernel
theorem dB_countOf_19 : decode cB_countOf 19 = .ok (.getfield 11, 3) := by decide +kernel
theorem dB_countOf_22 : decode cB_countOf 22 = .ok (.iload_n 3, 1) := by decide +kernel
theorem dB_countOf_23 : decode cB_countOf 23 = .ok (.iaload, 1) := by decide +kernel
theorem dB_countOf_24 : decode cB_countOf 24 = .ok (.iconst (-1), 1) := by decide +kernel
theorem dB_countOf_25 : decode cB_countOf 25 = .ok (.if_icmp .eq 6, 3) := by decide +kernel
theorem dB_countOf_28 : decode cB_countOf 28 = .ok (.iinc 2 1, 3) := by decide +kernel
theorem dB_countOf_31 : decode cB_countOf 31 = .ok (.iinc 3 1, 3) := by decide +kernel
theorem dB_countOf_34 : decode cB_countOf 34 = .ok (.goto (-27), 3) := by decide +kernel
theorem dB_countOf_37 : decode cB_countOf 37 = .ok (.iload_n 2, 1) := by decide +kernel
theorem dB_countOf_38 : decode cB_countOf 38 = .ok (.ireturn, 1) := by decide +kernel
theorem dB_forget_0 : decode cB_forget 0 = .ok (.bipush 28, 2) := by decide +kernel
theorem dB_forget_2 : decode cB_forget 2 = .ok (.iload_n 1, 1) := by decide +kernel
theorem dB_forget_3 : decode cB_forget 3 = .ok (.imul, 1) := by decide +kernel
theorem dB_forget_4 : decode cB_forget 4 = .ok (.istore 4, 2) := by decide +kernel
theorem dB_forget_6 : decode cB_forget 6 = .ok (.iload 4, 2) := by decide +kernel
theorem dB_forget_8 : decode cB_forget 8 = .ok (.bipush 28, 2) := by decide +kernel
theorem dB_forget_10 : decode cB_forget 10 = .ok (.iload_n 1, 1) := by decide +kernel
theorem dB_forget_11 : decode cB_forget 11 = .ok (.imul, 1) := by decide +kernel
theorem dB_forget_12 : decode cB_forget 12 = .ok (.bipush 28, 2) := by decide +kernel
theorem dB_forget_14 : decode cB_forget 14 = .ok (.iadd, 1) := by decide +kernel
theorem dB_forget_15 : decode cB_forget 15 = .ok (.if_icmp .ge 30, 3) := by decide +kernel
theorem dB_forget_18 : decode cB_forget 18 = .ok (.iload_n 2, 1) := by decide +kernel
theorem dB_forget_19 : decode cB_forget 19 = .ok (.aload_n 0, 1) := by decide +kernel
theorem dB_forget_20 : decode cB_forget 20 = .ok (.getfield 15, 3) := by decide +kernel
theorem dB_forget_23 : decode cB_forget 23 = .ok (.iload 4, 2) := by decide +kernel
theorem dB_forget_25 : decode cB_forget 25 = .ok (.iaload, 1) := by decide +kernel
theorem dB_forget_26 : decode cB_forget 26 = .ok (.isub, 1) := by decide +kernel
theorem dB_forget_27 : decode cB_forget 27 = .ok (.iload_n 3, 1) := by decide +kernel
theorem dB_forget_28 : decode cB_forget 28 = .ok (.if_icmp .lt 11, 3) := by decide +kernel
theorem dB_forget_31 : decode cB_forget 31 = .ok (.aload_n 0, 1) := by decide +kernel
theorem dB_forget_32 : decode cB_forget 32 = .ok (.getfield 11, 3) := by decide +kernel
theorem dB_forget_35 : decode cB_forget 35 = .ok (.iload 4, 2) := by decide +kernel
theorem dB_forget_37 : decode cB_forget 37 = .ok (.iconst (-1), 1) := by decide +kernel
theorem dB_forget_38 : decode cB_forget 38 = .ok (.iastore, 1) := by decide +kernel
theorem dB_forget_39 : decode cB_forget 39 = .ok (.iinc 4 1, 3) := by decide +kernel
theorem dB_forget_42 : decode cB_forget 42 = .ok (.goto (-36), 3) := by decide +kernel
theorem dB_forget_45 : decode cB_forget 45 = .ok (.return_, 1) := by decide +kernel
theorem dK_init_0 : decode cK_init 0 = .ok (.aload_n 0, 1) := by decide +kernel
theorem dK_init_1 : decode cK_init 1 = .ok (.invokespecial 3, 3) := by decide +kernel
theorem dK_init_4 : decode cK_init 4 = .ok (.aload_n 0, 1) := by decide +kernel
theorem dK_init_5 : decode cK_init 5 = .ok (.bipush 61, 2) := by decide +kernel
theorem dK_init_7 : decode cK_init 7 = .ok (.newarray .int, 2) := by decide +kernel
theorem dK_init_9 : decode cK_init 9 = .ok (.putfield 9, 3) := by decide +kernel
theorem dK_init_12 : decode cK_init 12 = .ok (.aload_n 0, 1) := by decide +kernel
theorem dK_init_13 : decode cK_init 13 = .ok (.bipush 61, 2) := by decide +kernel
theorem dK_init_15 : decode cK_init 15 = .ok (.newarray .int, 2) := by decide +kernel
theorem dK_init_17 : decode cK_init 17 = .ok (.putfield 15, 3) := by decide +kernel
theorem dK_init_20 : decode cK_init 20 = .ok (.aload_n 0, 1) := by decide +kernel
theorem dK_init_21 : decode cK_init 21 = .ok (.aload_n 1, 1) := by decide +kernel
theorem dK_init_22 : decode cK_init 22 = .ok (.putfield 18, 3) := by decide +kernel
theorem dK_init_25 : decode cK_init 25 = .ok (.aload_n 0, 1) := by decide +kernel
theorem dK_init_26 : decode cK_init 26 = .ok (.aload_n 2, 1) := by decide +kernel
theorem dK_init_27 : decode cK_init 27 = .ok (.putfield 22, 3) := by decide +kernel
theorem dK_init_30 : decode cK_init 30 = .ok (.aload_n 0, 1) := by decide +kernel
theorem dK_init_31 : decode cK_init 31 = .ok (.aload_n 3, 1) := by decide +kernel
theorem dK_init_32 : decode cK_init 32 = .ok (.putfield 26, 3) := by decide +kernel
theorem dK_init_35 : decode cK_init 35 = .ok (.aload_n 0, 1) := by decide +kernel
theorem dK_init_36 : decode cK_init 36 = .ok (.aload 4, 2) := by decide +kernel
theorem dK_init_38 : decode cK_init 38 = .ok (.putfield 30, 3) := by decide +kernel
theorem dK_init_41 : decode cK_init 41 = .ok (.return_, 1) := by decide +kernel
theorem dK_startCount_0 : decode cK_startCount 0 = .ok (.aload_n 0, 1) := by decide +kernel
theorem dK_startCount_1 : decode cK_startCount 1 = .ok (.iconst 0, 1) := by decide +kernel
theorem dK_startCount_2 : decode cK_startCount 2 = .ok (.putfield 34, 3) := by decide +kernel
theorem dK_startCount_5 : decode cK_startCount 5 = .ok (.return_, 1) := by decide +kernel
theorem dK_carryFromHost_0 : decode cK_carryFromHost 0 = .ok (.aload_n 0, 1) := by decide +kernel
theorem dK_carryFromHost_1 : decode cK_carryFromHost 1 = .ok (.iload_n 1, 1) := by decide +kernel
theorem dK_carryFromHost_2 : decode cK_carryFromHost 2 = .ok (.iload_n 2, 1) := by decide +kernel
theorem dK_carryFromHost_3 : decode cK_carryFromHost 3 = .ok (.aload_n 0, 1) := by decide +kernel
theorem dK_carryFromHost_4 : decode cK_carryFromHost 4 = .ok (.getfield 18, 3) := by decide +kernel
theorem dK_carryFromHost_7 : decode cK_carryFromHost 7 = .ok (.getfield 38, 3) := by decide +kernel
theorem dK_carryFromHost_10 : decode cK_carryFromHost 10 = .ok (.iload_n 1, 1) := by decide +kernel
theorem dK_carryFromHost_11 : decode cK_carryFromHost 11 = .ok (.iaload, 1) := by decide +kernel
theorem dK_carryFromHost_12 : decode cK_carryFromHost 12 = .ok (.iconst (-1), 1) := by decide +kernel
theorem dK_carryFromHost_13 : decode cK_carryFromHost 13 = .ok (.invokevirtual 43, 3) := by decide +kernel
theorem dK_carryFromHost_16 : decode cK_carryFromHost 16 = .ok (.ireturn, 1) := by decide +kernel
theorem dK_carryFromRouter_0 : decode cK_carryFromRouter 0 = .ok (.aload_n 0, 1) := by decide +kernel
theorem dK_carryFromRouter_1 : decode cK_carryFromRouter 1 = .ok (.getfield 18, 3) := by decide +kernel
theorem dK_carryFromRouter_4 : decode cK_carryFromRouter 4 = .ok (.getfield 47, 3) := by decide +kernel
theorem dK_carryFromRouter_7 : decode cK_carryFromRouter 7 = .ok (.istore_n 3, 1) := by decide +kernel
theorem dK_carryFromRouter_8 : decode cK_carryFromRouter 8 = .ok (.iload_n 3, 1) := by decide +kernel
theorem dK_carryFromRouter_9 : decode cK_carryFromRouter 9 = .ok (.iconst (-1), 1) := by decide +kernel
theorem dK_carryFromRouter_10 : decode cK_carryFromRouter 10 = .ok (.if_icmp .ne 5, 3) := by decide +kernel
theorem dK_carryFromRouter_13 : decode cK_carryFromRouter 13 = .ok (.iconst 0, 1) := by decide +kernel
theorem dK_carryFromRouter_14 : decode cK_carryFromRouter 14 = .ok (.ireturn, 1) := by decide +kernel
theorem dK_carryFromRouter_15 : decode cK_carryFromRouter 15 = .ok (.aload_n 0, 1) := by decide +kernel
theorem dK_carryFromRouter_16 : decode cK_carryFromRouter 16 = .ok (.bipush 6, 2) := by decide +kernel
theorem dK_carryFromRouter_18 : decode cK_carryFromRouter 18 = .ok (.iload_n 2, 1) := by decide +kernel
theorem dK_carryFromRouter_19 : decode cK_carryFromRouter 19 = .ok (.iload_n 3, 1) := by decide +kernel
theorem dK_carryFromRouter_20 : decode cK_carryFromRouter 20 = .ok (.aload_n 0, 1) := by decide +kernel
theorem dK_carryFromRouter_21 : decode cK_carryFromRouter 21 = .ok (.getfield 22, 3) := by decide +kernel
theorem dK_carryFromRouter_24 : decode cK_carryFromRouter 24 = .ok (.iload_n 3, 1) := by decide +kernel
theorem dK_carryFromRouter_25 : decode cK_carryFromRouter 25 = .ok (.iload_n 1, 1) := by decide +kernel
theorem dK_carryFromRouter_26 : decode cK_carryFromRouter 26 = .ok (.invokevirtual 50, 3) := by decide +kernel
theorem dK_carryFromRouter_29 : decode cK_carryFromRouter 29 = .ok (.invokevirtual 43, 3) := by decide +kernel
theorem dK_carryFromRouter_32 : decode cK_carryFromRouter 32 = .ok (.ireturn, 1) := by decide +kernel
theorem dK_carry_0 : decode cK_carry 0 = .ok (.aload_n 0, 1) := by decide +kernel
theorem dK_carry_1 : decode cK_carry 1 = .ok (.iload_n 1, 1) := by decide +kernel
theorem dK_carry_2 : decode cK_carry 2 = .ok (.putfield 56, 3) := by decide +kernel
theorem dK_carry_5 : decode cK_carry 5 = .ok (.aload_n 0, 1) := by decide +kernel
theorem dK_carry_6 : decode cK_carry 6 = .ok (.iload_n 2, 1) := by decide +kernel
theorem dK_carry_7 : decode cK_carry 7 = .ok (.putfield 59, 3) := by decide +kernel
theorem dK_carry_10 : decode cK_carry 10 = .ok (.aload_n 0, 1) := by decide +kernel
theorem dK_carry_11 : decode cK_carry 11 = .ok (.iconst 0, 1) := by decide +kernel
theorem dK_carry_12 : decode cK_carry 12 = .ok (.putfield 62, 3) := by decide +kernel
theorem dK_carry_15 : decode cK_carry 15 = .ok (.aload_n 0, 1) := by decide +kernel
theorem dK_carry_16 : decode cK_carry 16 = .ok (.iconst 0, 1) := by decide +kernel
theorem dK_carry_17 : decode cK_carry 17 = .ok (.putfield 65, 3) := by decide +kernel
theorem dK_carry_20 : decode cK_carry 20 = .ok (.aload_n 0, 1) := by decide +kernel
theorem dK_carry_21 : decode cK_carry 21 = .ok (.getfield 9, 3) := by decide +kernel
theorem dK_carry_24 : decode cK_carry 24 = .ok (.iconst 0, 1) := by decide +kernel
theorem dK_carry_25 : decode cK_carry 25 = .ok (.iload_n 3, 1) := by decide +kernel
theorem dK_carry_26 : decode cK_carry 26 = .ok (.iastore, 1) := by decide +kernel
theorem dK_carry_27 : decode cK_carry 27 = .ok (.aload_n 0, 1) := by decide +kernel
theorem dK_carry_28 : decode cK_carry 28 = .ok (.getfield 15, 3) := by decide +kernel
theorem dK_carry_31 : decode cK_carry 31 = .ok (.iconst 0, 1) := by decide +kernel
theorem dK_carry_32 : decode cK_carry 32 = .ok (.iload 4, 2) := by decide +kernel
theorem dK_carry_34 : decode cK_carry 34 = .ok (.iastore, 1) := by decide +kernel
theorem dK_carry_35 : decode cK_carry 35 = .ok (.aload_n 0, 1) := by decide +kernel
theorem dK_carry_36 : decode cK_carry 36 = .ok (.iconst 1, 1) := by decide +kernel
theorem dK_carry_37 : decode cK_carry 37 = .ok (.putfield 68, 3) := by decide +kernel
theorem dK_carry_40 : decode cK_carry 40 = .ok (.iconst 0, 1) := by decide +kernel
theorem dK_carry_41 : decode cK_carry 41 = .ok (.istore 5, 2) := by decide +kernel
theorem dK_carry_43 : decode cK_carry 43 = .ok (.iload 5, 2) := by decide +kernel
theorem dK_carry_45 : decode cK_carry 45 = .ok (.aload_n 0, 1) := by decide +kernel
theorem dK_carry_46 : decode cK_carry 46 = .ok (.getfield 68, 3) := by decide +kernel
theorem dK_carry_49 : decode cK_carry 49 = .ok (.if_icmp .ge 37, 3) := by decide +kernel
theorem dK_carry_52 : decode cK_carry 52 = .ok (.iload 5, 2) := by decide +kernel
theorem dK_carry_54 : decode cK_carry 54 = .ok (.aload_n 0, 1) := by decide +kernel
theorem dK_carry_55 : decode cK_carry 55 = .ok (.getfield 9, 3) := by decide +kernel
theorem dK_carry_58 : decode cK_carry 58 = .ok (.arraylength, 1) := by decide +kernel
theorem dK_carry_59 : decode cK_carry 59 = .ok (.if_icmp .ge 27, 3) := by decide +kernel
theorem dK_carry_62 : decode cK_carry 62 = .ok (.aload_n 0, 1) := by decide +kernel
theorem dK_carry_63 : decode cK_carry 63 = .ok (.aload_n 0, 1) := by decide +kernel
theorem dK_carry_64 : decode cK_carry 64 = .ok (.getfield 9, 3) := by decide +kernel
theorem dK_carry_67 : decode cK_carry 67 = .ok (.iload 5, 2) := by decide +kernel
theorem dK_carry_69 : decode cK_carry 69 = .ok (.iaload, 1) := by decide +kernel
theorem dK_carry_70 : decode cK_carry 70 = .ok (.aload_n 0, 1) := by decide +kernel
theorem dK_carry_71 : decode cK_carry 71 = .ok (.getfield 15, 3) := by decide +kernel
theorem dK_carry_74 : decode cK_carry 74 = .ok (.iload 5, 2) := by decide +kernel
theorem dK_carry_76 : decode cK_carry 76 = .ok (.iaload, 1) := by decide +kernel
theorem dK_carry_77 : decode cK_carry 77 = .ok (.invokevirtual 71, 3) := by decide +kernel
theorem dK_carry_80 : decode cK_carry 80 = .ok (.iinc 5 1, 3) := by decide +kernel
theorem dK_carry_83 : decode cK_carry 83 = .ok (.goto (-40), 3) := by decide +kernel
theorem dK_carry_86 : decode cK_carry 86 = .ok (.aload_n 0, 1) := by decide +kernel
theorem dK_carry_87 : decode cK_carry 87 = .ok (.dup, 1) := by decide +kernel
theorem dK_carry_88 : decode cK_carry 88 = .ok (.getfield 34, 3) := by decide +kernel
theorem dK_carry_91 : decode cK_carry 91 = .ok (.aload_n 0, 1) := by decide +kernel
theorem dK_carry_92 : decode cK_carry 92 = .ok (.getfield 62, 3) := by decide +kernel
theorem dK_carry_95 : decode cK_carry 95 = .ok (.iadd, 1) := by decide +kernel
theorem dK_carry_96 : decode cK_carry 96 = .ok (.putfield 34, 3) := by decide +kernel
theorem dK_carry_99 : decode cK_carry 99 = .ok (.aload_n 0, 1) := by decide +kernel
theorem dK_carry_100 : decode cK_carry 100 = .ok (.getfield 65, 3) := by decide +kernel
theorem dK_carry_103 : decode cK_carry 103 = .ok (.ireturn, 1) := by decide +kernel
theorem dK_handleArrival_0 : decode cK_handleArrival 0 = .ok (.aload_n 0, 1) := by decide +kernel
theorem dK_handleArrival_1 : decode cK_handleArrival 1 = .ok (.getfield 22, 3) := by decide +kernel
theorem dK_handleArrival_4 : decode cK_handleArrival 4 = .ok (.iload_n 1, 1) := by decide +kernel
theorem dK_handleArrival_5 : decode cK_handleArrival 5 = .ok (.iload_n 2, 1) := by decide +kernel
theorem dK_handleArrival_6 : decode cK_handleArrival 6 = .ok (.invokevirtual 75, 3) := by decide +kernel
theorem dK_handleArrival_9 : decode cK_handleArrival 9 = .ok (.istore_n 3, 1) := by decide +kernel
theorem dK_handleArrival_10 : decode cK_handleArrival 10 = .ok (.aload_n 0, 1) := by decide +kernel
theorem dK_handleArrival_11 : decode cK_handleArrival 11 = .ok (.getfield 26, 3) := by decide +kernel
theorem dK_handleArrival_14 : decode cK_handleArrival 14 = .ok (.getfield 78, 3) := by decide +kernel
theorem dK_handleArrival_17 : decode cK_handleArrival 17 = .ok (.iload_n 1, 1) := by decide +kernel
theorem dK_handleArrival_18 : decode cK_handleArrival 18 = .ok (.iaload, 1) := by decide +kernel
theorem dK_handleArrival_19 : decode cK_handleArrival 19 = .ok (.iconst 2, 1) := by decide +kernel
theorem dK_handleArrival_20 : decode cK_handleArrival 20 = .ok (.if_icmp .lt 8, 3) := by decide +kernel
theorem dK_handleArrival_23 : decode cK_handleArrival 23 = .ok (.iload_n 3, 1) := by decide +kernel
theorem dK_handleArrival_24 : decode cK_handleArrival 24 = .ok (.iconst (-1), 1) := by decide +kernel
theorem dK_handleArrival_25 : decode cK_handleArrival 25 = .ok (.if_icmp .ne 4, 3) := by decide +kernel
theorem dK_handleArrival_28 : decode cK_handleArrival 28 = .ok (.return_, 1) := by decide +kernel
theorem dK_handleArrival_29 : decode cK_handleArrival 29 = .ok (.aload_n 0, 1) := by decide +kernel
theorem dK_handleArrival_30 : decode cK_handleArrival 30 = .ok (.getfield 30, 3) := by decide +kernel
theorem dK_handleArrival_33 : decode cK_handleArrival 33 = .ok (.iload_n 1, 1) := by decide +kernel
theorem dK_handleArrival_34 : decode cK_handleArrival 34 = .ok (.iload_n 3, 1) := by decide +kernel
theorem dK_handleArrival_35 : decode cK_handleArrival 35 = .ok (.aload_n 0, 1) := by decide +kernel
theorem dK_handleArrival_36 : decode cK_handleArrival 36 = .ok (.getfield 56, 3) := by decide +kernel
theorem dK_handleArrival_39 : decode cK_handleArrival 39 = .ok (.aload_n 0, 1) := by decide +kernel
theorem dK_handleArrival_40 : decode cK_handleArrival 40 = .ok (.getfield 26, 3) := by decide +kernel
theorem dK_handleArrival_43 : decode cK_handleArrival 43 = .ok (.getfield 83, 3) := by decide +kernel
theorem dK_handleArrival_46 : decode cK_handleArrival 46 = .ok (.invokevirtual 86, 3) := by decide +kernel
theorem dK_handleArrival_49 : decode cK_handleArrival 49 = .ok (.aload_n 0, 1) := by decide +kernel
theorem dK_handleArrival_50 : decode cK_handleArrival 50 = .ok (.getfield 26, 3) := by decide +kernel
theorem dK_handleArrival_53 : decode cK_handleArrival 53 = .ok (.getfield 78, 3) := by decide +kernel
theorem dK_handleArrival_56 : decode cK_handleArrival 56 = .ok (.iload_n 1, 1) := by decide +kernel
theorem dK_handleArrival_57 : decode cK_handleArrival 57 = .ok (.iaload, 1) := by decide +kernel
theorem dK_handleArrival_58 : decode cK_handleArrival 58 = .ok (.iconst 3, 1) := by decide +kernel
theorem dK_handleArrival_59 : decode cK_handleArrival 59 = .ok (.if_icmp .ne 9, 3) := by decide +kernel
theorem dK_handleArrival_62 : decode cK_handleArrival 62 = .ok (.aload_n 0, 1) := by decide +kernel
theorem dK_handleArrival_63 : decode cK_handleArrival 63 = .ok (.iload_n 1, 1) := by decide +kernel
theorem dK_handleArrival_64 : decode cK_handleArrival 64 = .ok (.iload_n 3, 1) := by decide +kernel
theorem dK_handleArrival_65 : decode cK_handleArrival 65 = .ok (.invokevirtual 92, 3) := by decide +kernel
theorem dK_handleArrival_68 : decode cK_handleArrival 68 = .ok (.return_, 1) := by decide +kernel
theorem dK_forward_0 : decode cK_forward 0 = .ok (.iload_n 1, 1) := by decide +kernel
theorem dK_forward_1 : decode cK_forward 1 = .ok (.iconst 4, 1) := by decide +kernel
theorem dK_forward_2 : decode cK_forward 2 = .ok (.idiv, 1) := by decide +kernel
theorem dK_forward_3 : decode cK_forward 3 = .ok (.istore_n 3, 1) := by decide +kernel
theorem dK_forward_4 : decode cK_forward 4 = .ok (.aload_n 0, 1) := by decide +kernel
theorem dK_forward_5 : decode cK_forward 5 = .ok (.getfield 59, 3) := by decide +kernel
theorem dK_forward_8 : decode cK_forward 8 = .ok (.iconst (-1), 1) := by decide +kernel
theorem dK_forward_9 : decode cK_forward 9 = .ok (.if_icmp .ne 7, 3) := by decide +kernel
theorem dK_forward_12 : decode cK_forward 12 = .ok (.iconst (-1), 1) := by decide +kernel
theorem dK_forward_13 : decode cK_forward 13 = .ok (.goto 16, 3) := by decide +kernel
theorem dK_forward_16 : decode cK_forward 16 = .ok (.aload_n 0, 1) := by decide +kernel
theorem dK_forward_17 : decode cK_forward 17 = .ok (.getfield 30, 3) := by decide +kernel
theorem dK_forward_20 : decode cK_forward 20 = .ok (.iload_n 3, 1) := by decide +kernel
theorem dK_forward_21 : decode cK_forward 21 = .ok (.iload_n 2, 1) := by decide +kernel
theorem dK_forward_22 : decode cK_forward 22 = .ok (.aload_n 0, 1) := by decide +kernel
theorem dK_forward_23 : decode cK_forward 23 = .ok (.getfield 59, 3) := by decide +kernel
theorem dK_forward_26 : decode cK_forward 26 = .ok (.invokevirtual 95, 3) := by decide +kernel
theorem dK_forward_29 : decode cK_forward 29 = .ok (.istore 4, 2) := by decide +kernel
theorem dK_forward_31 : decode cK_forward 31 = .ok (.iconst 0, 1) := by decide +kernel
theorem dK_forward_32 : decode cK_forward 32 = .ok (.istore 5, 2) := by decide +kernel
theorem dK_forward_34 : decode cK_forward 34 = .ok (.iload 5, 2) := by decide +kernel
theorem dK_forward_36 : decode cK_forward 36 = .ok (.iconst 4, 1) := by decide +kernel
theorem dK_forward_37 : decode cK_forward 37 = .ok (.if_icmp .ge 91, 3) := by decide +kernel
theorem dK_forward_40 : decode cK_forward 40 = .ok (.iconst 4, 1) := by decide +kernel
theorem dK_forward_41 : decode cK_forward 41 = .ok (.iload_n 3, 1) := by decide +kernel
theorem dK_forward_42 : decode cK_forward 42 = .ok (.imul, 1) := by decide +kernel
theorem dK_forward_43 : decode cK_forward 43 = .ok (.iload 5, 2) := by decide +kernel
theorem dK_forward_45 : decode cK_forward 45 = .ok (.iadd, 1) := by decide +kernel
theorem dK_forward_46 : decode cK_forward 46 = .ok (.istore 6, 2) := by decide +kernel
theorem dK_forward_48 : decode cK_forward 48 = .ok (.iload 6, 2) := by decide +kernel
theorem dK_forward_50 : decode cK_forward 50 = .ok (.iload_n 1, 1) := by decide +kernel
theorem dK_forward_51 : decode cK_forward 51 = .ok (.if_icmp .eq 20, 3) := by decide +kernel
theorem dK_forward_54 : decode cK_forward 54 = .ok (.iload 4, 2) := by decide +kernel
theorem dK_forward_56 : decode cK_forward 56 = .ok (.iconst (-1), 1) := by decide +kernel
theorem dK_forward_57 : decode cK_forward 57 = .ok (.if_icmp .eq 10, 3) := by decide +kernel
theorem dK_forward_60 : decode cK_forward 60 = .ok (.iload 4, 2) := by decide +kernel
theorem dK_forward_62 : decode cK_forward 62 = .ok (.iload 5, 2) := by decide +kernel
theorem dK_forward_64 : decode cK_forward 64 = .ok (.if_icmp .ne 7, 3) := by decide +kernel
theorem dK_forward_67 : decode cK_forward 67 = .ok (.iconst 1, 1) := by decide +kernel
theorem dK_forward_68 : decode cK_forward 68 = .ok (.goto 4, 3) := by decide +kernel
theorem dK_forward_71 : decode cK_forward 71 = .ok (.iconst 0, 1) := by decide +kernel
theorem dK_forward_72 : decode cK_forward 72 = .ok (.istore 7, 2) := by decide +kernel
theorem dK_forward_74 : decode cK_forward 74 = .ok (.iload 7, 2) := by decide +kernel
theorem dK_forward_76 : decode cK_forward 76 = .ok (.ifCond .eq 46, 3) := by decide +kernel
theorem dK_forward_79 : decode cK_forward 79 = .ok (.aload_n 0, 1) := by decide +kernel
theorem dK_forward_80 : decode cK_forward 80 = .ok (.getfield 26, 3) := by decide +kernel
theorem dK_forward_83 : decode cK_forward 83 = .ok (.getfield 78, 3) := by decide +kernel
theorem dK_forward_86 : decode cK_forward 86 = .ok (.iload 6, 2) := by decide +kernel
theorem dK_forward_88 : decode cK_forward 88 = .ok (.iaload, 1) := by decide +kernel
theorem dK_forward_89 : decode cK_forward 89 = .ok (.iconst 3, 1) := by decide +kernel
theorem dK_forward_90 : decode cK_forward 90 = .ok (.if_icmp .ne 32, 3) := by decide +kernel
theorem dK_forward_93 : decode cK_forward 93 = .ok (.aload_n 0, 1) := by decide +kernel
theorem dK_forward_94 : decode cK_forward 94 = .ok (.getfield 22, 3) := by decide +kernel
theorem dK_forward_97 : decode cK_forward 97 = .ok (.iload 6, 2) := by decide +kernel
theorem dK_forward_99 : decode cK_forward 99 = .ok (.iload_n 2, 1) := by decide +kernel
theorem dK_forward_100 : decode cK_forward 100 = .ok (.invokevirtual 99, 3) := by decide +kernel
theorem dK_forward_103 : decode cK_forward 103 = .ok (.ifCond .eq 19, 3) := by decide +kernel
theorem dK_forward_106 : decode cK_forward 106 = .ok (.aload_n 0, 1) := by decide +kernel
theorem dK_forward_107 : decode cK_forward 107 = .ok (.iload 6, 2) := by decide +kernel
theorem dK_forward_109 : decode cK_forward 109 = .ok (.aload_n 0, 1) := by decide +kernel
theorem dK_forward_110 : decode cK_forward 110 = .ok (.getfield 22, 3) := by decide +kernel
theorem dK_forward_113 : decode cK_forward 113 = .ok (.iload 6, 2) := by decide +kernel
theorem dK_forward_115 : decode cK_forward 115 = .ok (.iload_n 2, 1) := by decide +kernel
theorem dK_forward_116 : decode cK_forward 116 = .ok (.invokevirtual 50, 3) := by decide +kernel
theorem dK_forward_119 : decode cK_forward 119 = .ok (.invokevirtual 103, 3) := by decide +kernel
theorem dK_forward_122 : decode cK_forward 122 = .ok (.iinc 5 1, 3) := by decide +kernel
theorem dK_forward_125 : decode cK_forward 125 = .ok (.goto (-91), 3) := by decide +kernel
theorem dK_forward_128 : decode cK_forward 128 = .ok (.return_, 1) := by decide +kernel
theorem dK_goOut_0 : decode cK_goOut 0 = .ok (.aload_n 0, 1) := by decide +kernel
theorem dK_goOut_1 : decode cK_goOut 1 = .ok (.getfield 62, 3) := by decide +kernel
theorem dK_goOut_4 : decode cK_goOut 4 = .ok (.bipush 60, 2) := by decide +kernel
theorem dK_goOut_6 : decode cK_goOut 6 = .ok (.if_icmp .lt 4, 3) := by decide +kernel
theorem dK_goOut_9 : decode cK_goOut 9 = .ok (.return_, 1) := by decide +kernel
theorem dK_goOut_10 : decode cK_goOut 10 = .ok (.aload_n 0, 1) := by decide +kernel
theorem dK_goOut_11 : decode cK_goOut 11 = .ok (.dup, 1) := by decide +kernel
theorem dK_goOut_12 : decode cK_goOut 12 = .ok (.getfield 62, 3) := by decide +kernel
theorem dK_goOut_15 : decode cK_goOut 15 = .ok (.iconst 1, 1) := by decide +kernel
theorem dK_goOut_16 : decode cK_goOut 16 = .ok (.iadd, 1) := by decide +kernel
theorem dK_goOut_17 : decode cK_goOut 17 = .ok (.putfield 62, 3) := by decide +kernel
theorem dK_goOut_20 : decode cK_goOut 20 = .ok (.aload_n 0, 1) := by decide +kernel
theorem dK_goOut_21 : decode cK_goOut 21 = .ok (.getfield 18, 3) := by decide +kernel
theorem dK_goOut_24 : decode cK_goOut 24 = .ok (.getfield 106, 3) := by decide +kernel
theorem dK_goOut_27 : decode cK_goOut 27 = .ok (.iload_n 1, 1) := by decide +kernel
theorem dK_goOut_28 : decode cK_goOut 28 = .ok (.iaload, 1) := by decide +kernel
theorem dK_goOut_29 : decode cK_goOut 29 = .ok (.istore_n 3, 1) := by decide +kernel
theorem dK_goOut_30 : decode cK_goOut 30 = .ok (.aload_n 0, 1) := by decide +kernel
theorem dK_goOut_31 : decode cK_goOut 31 = .ok (.getfield 18, 3) := by decide +kernel
theorem dK_goOut_34 : decode cK_goOut 34 = .ok (.getfield 109, 3) := by decide +kernel
theorem dK_goOut_37 : decode cK_goOut 37 = .ok (.iload_n 1, 1) := by decide +kernel
theorem dK_goOut_38 : decode cK_goOut 38 = .ok (.iaload, 1) := by decide +kernel
theorem dK_goOut_39 : decode cK_goOut 39 = .ok (.istore 4, 2) := by decide +kernel
theorem dK_goOut_41 : decode cK_goOut 41 = .ok (.iload_n 3, 1) := by decide +kernel
theorem dK_goOut_42 : decode cK_goOut 42 = .ok (.bipush 6, 2) := by decide +kernel
theorem dK_goOut_44 : decode cK_goOut 44 = .ok (.if_icmp .eq 13, 3) := by decide +kernel
theorem dK_goOut_47 : decode cK_goOut 47 = .ok (.iload_n 3, 1) := by decide +kernel
theorem dK_goOut_48 : decode cK_goOut 48 = .ok (.iconst (-1), 1) := by decide +kernel
theorem dK_goOut_49 : decode cK_goOut 49 = .ok (.if_icmp .eq 20, 3) := by decide +kernel
theorem dK_goOut_52 : decode cK_goOut 52 = .ok (.iload_n 2, 1) := by decide +kernel
theorem dK_goOut_53 : decode cK_goOut 53 = .ok (.iconst (-1), 1) := by decide +kernel
theorem dK_goOut_54 : decode cK_goOut 54 = .ok (.if_icmp .ne 15, 3) := by decide +kernel
theorem dK_goOut_57 : decode cK_goOut 57 = .ok (.aload_n 0, 1) := by decide +kernel
theorem dK_goOut_58 : decode cK_goOut 58 = .ok (.dup, 1) := by decide +kernel
theorem dK_goOut_59 : decode cK_goOut 59 = .ok (.getfield 65, 3) := by decide +kernel
theorem dK_goOut_62 : decode cK_goOut 62 = .ok (.iconst 1, 1) := by decide +kernel
theorem dK_goOut_63 : decode cK_goOut 63 = .ok (.iload_n 3, 1) := by decide +kernel
theorem dK_goOut_64 : decode cK_goOut 64 = .ok (.ishl, 1) := by decide +kernel
theorem dK_goOut_65 : decode cK_goOut 65 = .ok (.ior, 1) := by decide +kernel
theorem dK_goOut_66 : decode cK_goOut 66 = .ok (.putfield 65, 3) := by decide +kernel
theorem dK_goOut_69 : decode cK_goOut 69 = .ok (.iload 4, 2) := by decide +kernel
theorem dK_goOut_71 : decode cK_goOut 71 = .ok (.iconst (-1), 1) := by decide +kernel
theorem dK_goOut_72 : decode cK_goOut 72 = .ok (.if_icmp .eq 46, 3) := by decide +kernel
theorem dK_goOut_75 : decode cK_goOut 75 = .ok (.aload_n 0, 1) := by decide +kernel
theorem dK_goOut_76 : decode cK_goOut 76 = .ok (.getfield 68, 3) := by decide +kernel
theorem dK_goOut_79 : decode cK_goOut 79 = .ok (.aload_n 0, 1) := by decide +kernel
theorem dK_goOut_80 : decode cK_goOut 80 = .ok (.getfield 9, 3) := by decide +kernel
theorem dK_goOut_83 : decode cK_goOut 83 = .ok (.arraylength, 1) := by decide +kernel
theorem dK_goOut_84 : decode cK_goOut 84 = .ok (.if_icmp .ge 34, 3) := by decide +kernel
theorem dK_goOut_87 : decode cK_goOut 87 = .ok (.aload_n 0, 1) := by decide +kernel
theorem dK_goOut_88 : decode cK_goOut 88 = .ok (.getfield 9, 3) := by decide +kernel
theorem dK_goOut_91 : decode cK_goOut 91 = .ok (.aload_n 0, 1) := by decide +kernel
theorem dK_goOut_92 : decode cK_goOut 92 = .ok (.getfield 68, 3) := by decide +kernel
theorem dK_goOut_95 : decode cK_goOut 95 = .ok (.iload 4, 2) := by decide +kernel
theorem dK_goOut_97 : decode cK_goOut 97 = .ok (.iastore, 1) := by decide +kernel
theorem dK_goOut_98 : decode cK_goOut 98 = .ok (.aload_n 0, 1) := by decide +kernel
theorem dK_goOut_99 : decode cK_goOut 99 = .ok (.getfield 15, 3) := by decide +kernel
theorem dK_goOut_102 : decode cK_goOut 102 = .ok (.aload_n 0, 1) := by decide +kernel
theorem dK_goOut_103 : decode cK_goOut 103 = .ok (.getfield 68, 3) := by decide +kernel
theorem dK_goOut_106 : decode cK_goOut 106 = .ok (.iload_n 2, 1) := by decide +kernel
theorem dK_goOut_107 : decode cK_goOut 107 = .ok (.iastore, 1) := by decide +kernel
theorem dK_goOut_108 : decode cK_goOut 108 = .ok (.aload_n 0, 1) := by decide +kernel
theorem dK_goOut_109 : decode cK_goOut 109 = .ok (.dup, 1) := by decide +kernel
theorem dK_goOut_110 : decode cK_goOut 110 = .ok (.getfield 68, 3) := by decide +kernel
theorem dK_goOut_113 : decode cK_goOut 113 = .ok (.iconst 1, 1) := by decide +kernel
theorem dK_goOut_114 : decode cK_goOut 114 = .ok (.iadd, 1) := by decide +kernel
theorem dK_goOut_115 : decode cK_goOut 115 = .ok (.putfield 68, 3) := by decide +kernel
theorem dK_goOut_118 : decode cK_goOut 118 = .ok (.return_, 1) := by decide +kernel
